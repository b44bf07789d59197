/-! what may be said of a PERSON: all -/
noncomputable def tS (F : Nat → Nat) (C : Nat → Int32) (p : Nat) (G : Nat → Nat × Nat × Nat) : Nat → Nat → Bool
  | 0 => fun _ => false
  | k + 1 => if (G k).1 = 20 then uT (tS F C p G k) (vD G k - 1) (!(tS F C p G k (vD G k - 1))) else if (G k).1 = 21 then uT (tS F C p G k) (vD G k - 2) (tS F C p G k (vD G k - 2) && tS F C p G k (vD G k - 1)) else if (G k).1 = 22 then uT (tS F C p G k) (vD G k - 2) (tS F C p G k (vD G k - 2) || tS F C p G k (vD G k - 1)) else uT (tS F C p G k) (vD G k) (lfV F C p (G k))
theorem tS_20 {F : Nat → Nat} {C : Nat → Int32} {p k : Nat} {G : Nat → Nat × Nat × Nat} (e : (G k).1 = 20) : tS F C p G (k + 1) = uT (tS F C p G k) (vD G k - 1) (!(tS F C p G k (vD G k - 1))) ∧ vD G (k + 1) = vD G k := ⟨if_pos e, if_pos e⟩
theorem tS_21 {F : Nat → Nat} {C : Nat → Int32} {p k : Nat} {G : Nat → Nat × Nat × Nat} (e : (G k).1 = 21) : tS F C p G (k + 1) = uT (tS F C p G k) (vD G k - 2) (tS F C p G k (vD G k - 2) && tS F C p G k (vD G k - 1)) ∧ vD G (k + 1) = vD G k - 1 := ⟨(if_neg (by omega)).trans (if_pos e), (if_neg (by omega)).trans (if_pos (Or.inl e))⟩
theorem tS_22 {F : Nat → Nat} {C : Nat → Int32} {p k : Nat} {G : Nat → Nat × Nat × Nat} (e : (G k).1 = 22) : tS F C p G (k + 1) = uT (tS F C p G k) (vD G k - 2) (tS F C p G k (vD G k - 2) || tS F C p G k (vD G k - 1)) ∧ vD G (k + 1) = vD G k - 1 := ⟨(if_neg (by omega)).trans ((if_neg (by omega)).trans (if_pos e)), (if_neg (by omega)).trans (if_pos (Or.inr e))⟩
theorem tS_lf {F : Nat → Nat} {C : Nat → Int32} {p k : Nat} {G : Nat → Nat × Nat × Nat} (e : (G k).1 < 10) : tS F C p G (k + 1) = uT (tS F C p G k) (vD G k) (lfV F C p (G k)) ∧ vD G (k + 1) = vD G k + 1 := ⟨(if_neg (by omega)).trans ((if_neg (by omega)).trans (if_neg (by omega))), (if_neg (by omega)).trans (if_neg (by omega))⟩
theorem tw {U : Mm} {i n : Nat} {x : Int32} {bb : Bool} {f : Nat → Bool} (hx : x = if bb = true then 1 else 0) (h : ∀ j, j < n → U.1 120 j = if f j = true then 1 else 0) : ∀ j, j = i ∨ j < n → (wI U 120 i x).1 120 j = if uT f i bb j = true then 1 else 0 := by
  intro j hj
  by_cases e : j = i
  · subst e
    rw [wI_s, uT_s, hx]
  · rw [wI_n (Or.inr e), uT_n e]
    exact h j (by omega)
theorem nI_p1 {n : Nat} (h : 1 ≤ n) : nI n + (-1) = nI (n - 1) := by rw [← nI_m1 h, Int32.sub_eq_add_neg]
theorem m_isSaidS {R : Rf} {T : Mm} {F : Nat → Nat} {C : Nat → Int32} {c : Cod} (hr : RM R) (l : LV R T F C) (hs : SW T 90 107 c) (h89 : T.1 107 89 = nI c.length) (hw : WD c 1) (hl : c.length < 40) {p : Nat} (hp : p < F 0) : ∃ U, pX12_isSaid R T 105 (nI p) = some (if tS F C p (gC c) c.length 0 = true then 1 else 0, U) ∧ (∀ a, a ≠ 120 → U.1 a = T.1 a) ∧ U.2 = T.2 := by
  obtain ⟨r1, r6, r7, r8, r9, r10, r21, r22, r28, r32, r33, r34, r38, r40, r46, r47, r48, r49⟩ := id hr
  obtain ⟨lg, lv⟩ := hw.lg
  unfold pX12_isSaid
  refine zl3_wp (f := pX12_isSaid_4 R 105 (nI p) (pX12_isSaid_210 R 105 (nI p))) (P := fun m U x2 x3 => ∃ k, k + m = c.length ∧ x2 = nI (vD (gC c) k) ∧ x3 = nI k ∧ (∀ j, j < vD (gC c) k → U.1 120 j = if tS F C p (gC c) k j = true then 1 else 0) ∧ (∀ a, a ≠ 120 → U.1 a = T.1 a) ∧ U.2 = T.2) (Q := fun z => ∃ U, z = some (if tS F C p (gC c) c.length 0 = true then 1 else 0, U) ∧ (∀ a, a ≠ 120 → U.1 a = T.1 a) ∧ U.2 = T.2) ?_ FU c.length T 0 0 (by rw [FU_eq]; omega) ⟨0, by omega, rfl, rfl, fun j hj => absurd hj (Nat.not_lt_zero j), fun _ _ => rfl, rfl⟩
  rintro m r U x2 x3 ⟨k, hk, rfl, rfl, ht, ha, h2⟩ hq
  have h107 := ha 107 (by decide)
  have hv20 := vD_20 hw hl (k := k) (by omega)
  have lU := l.fr h107
  unfold pX12_isSaid_4
  simp (disch := omega) only [ix_lit, lit_clamp]
  rw [r6, h107, h89]
  simp only [lt]
  by_cases e : k < c.length
  · rw [if_neg (show ¬ nI c.length ≤ nI k from fun z => by have := (nI_leI (by omega) (by omega)).mp z; omega), lit_mul, lit_add]
    obtain ⟨g1, g2, g3⟩ := hs.g k e
    have go : ∀ (W : Mm) (v : Nat), v = vD (gC c) (k + 1) → (∀ j, j < vD (gC c) (k + 1) → W.1 120 j = if tS F C p (gC c) (k + 1) j = true then 1 else 0) → (∀ a, a ≠ 120 → W.1 a = U.1 a) → W.2 = U.2 → ∃ U, r W (nI v) (nI (k + 1)) = some (if tS F C p (gC c) c.length 0 = true then 1 else 0, U) ∧ (∀ a, a ≠ 120 → U.1 a = T.1 a) ∧ U.2 = T.2 := fun W v hv h1 h3 h4 => hq (m - 1) W (nI v) (nI (k + 1)) (by omega) ⟨k + 1, by omega, by rw [hv], rfl, h1, fun a h => (h3 a h).trans (ha a h), h4.trans h2⟩
    have wr : ∀ (i : Nat) (x : Int32), (∀ a, a ≠ 120 → (wI U 120 i x).1 a = U.1 a) := fun i x a h => by rw [wI_1, up2_row h]
    simp (disch := omega) only [ix_nI, nI_clamp]
    rw [g1]
    rcases lg k e with ⟨e20, hv1⟩ | ⟨e21, hv2⟩ | hlf
    · obtain ⟨t1, t2⟩ := tS_20 (F := F) (C := C) (p := p) e20
      rw [if_pos (show nI (gC c k).1 = 20 by rw [e20]; rfl), r46, nI_m1 hv1]
      simp (disch := omega) only [ix_nI, nI_clamp]
      rw [ht _ (by omega), nI_1]
      cases hb : tS F C p (gC c) k (vD (gC c) k - 1) with
      | false =>
        rw [if_neg Bool.false_ne_true, if00]
        refine go _ _ t2.symm (fun j hj => ?_) (wr _ _) rfl
        rw [t1, hb]
        exact tw (by rfl) ht j (by omega)
      | true =>
        rw [if_pos rfl, if10]
        refine go _ _ t2.symm (fun j hj => ?_) (wr _ _) rfl
        rw [t1, hb]
        exact tw (by rfl) ht j (by omega)
    · rw [if_neg (show ¬ nI (gC c k).1 = 20 from fun z => by have := (nI_eq (b := 20) (by omega) (by omega)).mp z; omega)]
      have e86 : ∃ U', pX12_isSaid_86 R 105 (nI p) r (pX12_isSaid_210 R 105 (nI p)) U (nI (vD (gC c) k)) (nI k) (nI (90 + 3 * k)) = some (if tS F C p (gC c) c.length 0 = true then 1 else 0, U') ∧ (∀ a, a ≠ 120 → U'.1 a = T.1 a) ∧ U'.2 = T.2 := by
        unfold pX12_isSaid_86
        simp only [lt]
        rw [show nI (vD (gC c) k) + (-1) = nI (vD (gC c) k - 1) from nI_p1 (by omega), show nI (vD (gC c) k - 1) - 1 = nI (vD (gC c) k - 2) from nI_m1 (by omega), r6, r46]
        simp (disch := omega) only [ix_nI, nI_clamp]
        rw [h107, g1, ht _ (by omega), ht _ (by omega), nI_1]
        by_cases e' : (gC c k).1 = 21
        · obtain ⟨t1, t2⟩ := tS_21 (F := F) (C := C) (p := p) e'
          rw [if_pos (show nI (gC c k).1 = 21 by rw [e']; rfl)]
          cases hb : tS F C p (gC c) k (vD (gC c) k - 2) with
          | false =>
            rw [if_neg Bool.false_ne_true, if00]
            refine go _ _ t2.symm (fun j hj => ?_) (wr _ _) rfl
            rw [t1, hb]
            exact tw (by rfl) ht j (by omega)
          | true =>
            rw [if_pos rfl, if10]
            cases hb' : tS F C p (gC c) k (vD (gC c) k - 1) with
            | false =>
              rw [if_neg Bool.false_ne_true, if00]
              refine go _ _ t2.symm (fun j hj => ?_) (wr _ _) rfl
              rw [t1, hb, hb']
              exact tw (by rfl) ht j (by omega)
            | true =>
              rw [if_pos rfl, if10]
              refine go _ _ t2.symm (fun j hj => ?_) (wr _ _) rfl
              rw [t1, hb, hb']
              exact tw (by rfl) ht j (by omega)
        · obtain ⟨t1, t2⟩ := tS_22 (F := F) (C := C) (p := p) (show (gC c k).1 = 22 by omega)
          rw [if_neg (show ¬ nI (gC c k).1 = 21 from fun z => by have := (nI_eq (b := 21) (by omega) (by omega)).mp z; omega)]
          cases hb : tS F C p (gC c) k (vD (gC c) k - 2) with
          | false =>
            rw [if_neg Bool.false_ne_true, if00]
            cases hb' : tS F C p (gC c) k (vD (gC c) k - 1) with
            | false =>
              rw [if_neg Bool.false_ne_true, if00]
              refine go _ _ t2.symm (fun j hj => ?_) (wr _ _) rfl
              rw [t1, hb, hb']
              exact tw (by rfl) ht j (by omega)
            | true =>
              rw [if_pos rfl, if10]
              refine go _ _ t2.symm (fun j hj => ?_) (wr _ _) rfl
              rw [t1, hb, hb']
              exact tw (by rfl) ht j (by omega)
          | true =>
            rw [if_pos rfl, if10]
            refine go _ _ t2.symm (fun j hj => ?_) (wr _ _) rfl
            rw [t1, hb]
            exact tw (by rfl) ht j (by omega)
      by_cases e' : (gC c k).1 = 21
      · rw [if_pos (show nI (gC c k).1 = 21 by rw [e']; rfl)]
        exact e86
      · rw [if_neg (show ¬ nI (gC c k).1 = 21 from fun z => by have := (nI_eq (b := 21) (by omega) (by omega)).mp z; omega), if_pos (show nI (gC c k).1 = 22 by rw [show (gC c k).1 = 22 by omega]; rfl)]
        exact e86
    · have h10 := hlf.1
      obtain ⟨t1, t2⟩ := tS_lf (F := F) (C := C) (p := p) h10
      rw [if_neg (show ¬ nI (gC c k).1 = 20 from fun z => by have := (nI_eq (b := 20) (by omega) (by omega)).mp z; omega), if_neg (show ¬ nI (gC c k).1 = 21 from fun z => by have := (nI_eq (b := 21) (by omega) (by omega)).mp z; omega), if_neg (show ¬ nI (gC c k).1 = 22 from fun z => by have := (nI_eq (b := 22) (by omega) (by omega)).mp z; omega), nI_1, show nI (90 + 3 * k) + 2 = nI (90 + 3 * k + 2) from nI_add _ 2]
      simp (disch := omega) only [ix_nI, nI_clamp]
      rw [g2, g3, m_isLeafS lU hp hlf, bd1_some, bz_ite, r46, nI_1, nI_1]
      refine go _ _ t2.symm (fun j hj => ?_) (wr _ _) rfl
      rw [t1]
      exact tw rfl ht j (by omega)
  · have e0 : k = c.length := by omega
    subst e0
    rw [if_pos (show nI c.length ≤ nI c.length from (nI_leI (by omega) (by omega)).mpr (Nat.le_refl _))]
    unfold pX12_isSaid_210
    simp (disch := omega) only [ix_lit, lit_clamp]
    rw [r46, ht 0 (by omega), bz_ite]
    exact ⟨U, rfl, ha, h2⟩
theorem b_sshr1 (x : Int32) {i : Nat} (hi : i < 31) : bt (x >>> ((1 : Int32) &&& 31)) i = bt x (i + 1) := by
  have := b_sshr 1 (by omega) x (i := i) (by omega)
  rw [if_pos (by omega), Nat.add_comm] at this
  exact this
theorem b_shl1 (x : Int32) {i : Nat} (hi : i < 32) : bt (x <<< ((1 : Int32) &&& 31)) i = (decide (1 ≤ i) && bt x (i - 1)) := b_shl 1 (by omega) x hi
theorem b_m2 : ∀ i, i < 32 → bt (-2) i = decide (1 ≤ i) := by decide +kernel
theorem b_one : ∀ i, i < 32 → bt 1 i = decide (i = 0) := by decide +kernel
theorem SC.sN {T : Mm} {s : Nat} {c : Cod} {ones : Nat} {g : Nat → Int32} (h : SC T s c ones) (hs : 97 ≤ s) : SC (setN T g) s c ones := ⟨by rw [setN_o (by omega)]; exact h.1, by rw [setN_o (by omega)]; exact h.2.1, h.2.2.of (fun a k h1 _ _ => by rw [setN_o (by omega)])⟩
theorem c_holdsS {R : Rf} {T : Mm} {f s : Nat} {F : Nat → Nat} {C : Nat → Int32} {c : Cod} {ones : Nat} (h : KV R T f F C) (hS : RS R s) (h97 : 97 ≤ s) (hs : SC T s c ones) (hw : WD c 1) (hl : c.length < 40) {p : Nat} (hp : p < F 0) : ∃ g, pX8_holdsOf R T s f 8 33 (nI p) = some (if tS F C p (gC c) c.length 0 = true then 1 else 0, setN T g) := by
  obtain ⟨lg, lv⟩ := hw.lg
  unfold pX8_holdsOf
  refine zl3_wp (f := pX8_holdsOf_6 R s f 8 33 (nI p) (pX8_holdsOf_121 R s f 8 33 (nI p))) (P := fun m U x5 x6 => ∃ k g, k + m = c.length ∧ x6 = nI k ∧ U = setN T g ∧ ∀ i, i < vD (gC c) k → bt x5 i = tS F C p (gC c) k (vD (gC c) k - 1 - i)) (Q := fun z => ∃ g, z = some (if tS F C p (gC c) c.length 0 = true then 1 else 0, setN T g)) ?_ FU c.length T 0 0 (by rw [FU_eq]; omega) ⟨0, T.1 34, by omega, rfl, setN_self.symm, fun j hj => absurd hj (Nat.not_lt_zero j)⟩
  rintro m r U x5 x6 ⟨k, g, hk, rfl, rfl, ht⟩ hq
  have hv20 := vD_20 hw hl (k := k) (by omega)
  have sU := hs.sN (g := g) h97
  unfold pX8_holdsOf_6
  rw [sU.2.1, hS.1]
  simp only [lt]
  by_cases e : k < c.length
  · obtain ⟨g1, g2, g3⟩ := sU.2.2.g k e
    rw [if_neg (show ¬ nI c.length ≤ nI k from fun z => by have := (nI_leI (by omega) (by omega)).mp z; omega)]
    simp (disch := omega) only [ix_nI, nI_clamp]
    rw [g1, nI_1]
    have go : ∀ (g' : Nat → Int32) (x : Int32), (∀ i, i < vD (gC c) (k + 1) → bt x i = tS F C p (gC c) (k + 1) (vD (gC c) (k + 1) - 1 - i)) → ∃ g, r (setN T g') x (nI (k + 1)) = some (if tS F C p (gC c) c.length 0 = true then 1 else 0, setN T g) := fun g' x h1 => hq (m - 1) _ _ _ (by omega) ⟨k + 1, g', by omega, rfl, rfl, h1⟩
    rcases lg k e with ⟨e20, hv1⟩ | ⟨e21, hv2⟩ | hlf
    · obtain ⟨t1, t2⟩ := tS_20 (F := F) (C := C) (p := p) e20
      rw [if_pos (show nI (wcS (gC c k).1) = 13 by rw [e20]; rfl)]
      refine go _ _ (fun i hi => ?_)
      rw [t2] at hi ⊢
      rw [t1, b_xor, b_one i (by omega), ht i hi]
      by_cases ei : i = 0
      · subst ei
        rw [Nat.sub_zero, uT_s]
        cases tS F C p (gC c) k (vD (gC c) k - 1) <;> rfl
      · rw [uT_n (by omega), decide_eq_false ei, Bool.xor_false]
    · by_cases e' : (gC c k).1 = 21
      · obtain ⟨t1, t2⟩ := tS_21 (F := F) (C := C) (p := p) e'
        rw [if_neg (show ¬ nI (wcS (gC c k).1) = 13 by rw [e']; decide), if_pos (show nI (wcS (gC c k).1) = 12 by rw [e']; rfl)]
        refine go _ _ (fun i hi => ?_)
        rw [t2] at hi ⊢
        rw [t1, b_and, b_sshr1 _ (by omega), b_or, b_m2 i (by omega), ht (i + 1) (by omega), ht i (by omega)]
        by_cases ei : i = 0
        · subst ei
          rw [uT_e (by omega), show vD (gC c) k - 1 - (0 + 1) = vD (gC c) k - 2 by omega, Nat.sub_zero]
          simp
        · rw [uT_n (by omega), decide_eq_true (by omega), Bool.or_true, Bool.and_true, show vD (gC c) k - 1 - (i + 1) = vD (gC c) k - 1 - 1 - i by omega]
      · have e22 : (gC c k).1 = 22 := by omega
        obtain ⟨t1, t2⟩ := tS_22 (F := F) (C := C) (p := p) e22
        rw [if_neg (show ¬ nI (wcS (gC c k).1) = 13 by rw [e22]; decide), if_neg (show ¬ nI (wcS (gC c k).1) = 12 by rw [e22]; decide), if_pos (show nI (wcS (gC c k).1) = 11 by rw [e22]; rfl)]
        refine go _ _ (fun i hi => ?_)
        rw [t2] at hi ⊢
        rw [t1, b_or, b_sshr1 _ (by omega), b_and, b_one i (by omega), ht (i + 1) (by omega), ht i (by omega)]
        by_cases ei : i = 0
        · subst ei
          rw [uT_e (by omega), show vD (gC c) k - 1 - (0 + 1) = vD (gC c) k - 2 by omega, Nat.sub_zero]
          simp
        · rw [uT_n (by omega), decide_eq_false ei, Bool.and_false, Bool.or_false, show vD (gC c) k - 1 - (i + 1) = vD (gC c) k - 1 - 1 - i by omega]
    · have h10 := hlf.1
      obtain ⟨t1, t2⟩ := tS_lf (F := F) (C := C) (p := p) h10
      have hwc : wcS (gC c k).1 = (gC c k).1 + 14 := if_pos h10
      rw [hwc, if_neg (show ¬ nI ((gC c k).1 + 14) = 13 from fun z => by have := (nI_eq (b := 13) (by omega) (by omega)).mp z; omega), if_neg (show ¬ nI ((gC c k).1 + 14) = 12 from fun z => by have := (nI_eq (b := 12) (by omega) (by omega)).mp z; omega), if_neg (show ¬ nI ((gC c k).1 + 14) = 11 from fun z => by have := (nI_eq (b := 11) (by omega) (by omega)).mp z; omega)]
      obtain ⟨g', hso⟩ := c_isSoS (h.sN (g := g)) hS h97 sU hl hp e hlf
      rw [hso, bd2_some, setN_setN]
      have fin : ∀ bb : Bool, bb = lfV F C p (gC c k) → ∀ y : Int32, (∀ i, i < 32 → bt y i = (bb && decide (i = 0))) → ∀ i, i < vD (gC c) (k + 1) → bt ((x5 <<< ((1 : Int32) &&& 31)) ||| y) i = tS F C p (gC c) (k + 1) (vD (gC c) (k + 1) - 1 - i) := by
        intro bb hbb y hy i hi
        rw [t2] at hi ⊢
        rw [t1, b_or, b_shl1 _ (by omega), hy i (by omega)]
        by_cases ei : i = 0
        · subst ei
          rw [uT_e (by omega), hbb]
          simp
        · rw [uT_n (by omega), decide_eq_true (by omega), decide_eq_false ei, Bool.true_and, Bool.and_false, Bool.or_false, ht (i - 1) (by omega), show vD (gC c) k - 1 - (i - 1) = vD (gC c) k + 1 - 1 - i by omega]
      rw [ifI]
      cases hb : lfV F C p (gC c k) with
      | false =>
        rw [if_neg Bool.false_ne_true]
        exact go _ _ (fin false hb.symm 0 (fun i _ => by rw [b_0]; rfl))
      | true =>
        rw [if_pos rfl]
        exact go _ _ (fin true hb.symm 1 (fun i hi => by rw [b_one i hi]; rfl))
  · have e0 : k = c.length := by omega
    subst e0
    rw [if_pos (show nI c.length ≤ nI c.length from (nI_leI (by omega) (by omega)).mpr (Nat.le_refl _))]
    unfold pX8_holdsOf_121
    have h0 := ht 0 (by omega)
    rw [lv] at h0
    have hx : x5 &&& 1 = 0 ↔ bt x5 0 = false := and_one (x := x5) (i := 0) (by omega)
    cases hb : tS F C p (gC c) c.length 0 with
    | false =>
      rw [if_pos (hx.mpr (h0.trans hb)), if_neg Bool.false_ne_true]
      exact ⟨g, rfl⟩
    | true =>
      rw [if_neg (fun z => by rw [hx.mp z] at h0; rw [← h0] at hb; cases hb), if_pos rfl]
      exact ⟨g, rfl⟩
