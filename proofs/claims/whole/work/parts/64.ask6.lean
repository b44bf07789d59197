/-! questions: item; WHO -/
theorem rc_alone {F : Nat → Nat} (hv : VF F) {C : Nat → Int32} (hC : VC F C) {i : Nat} (hi : i < F 1) (h : bt (C 1) i = false) : leS (rc F (wh (F 2) (C 2)) (C 1) i) = some i := by
  obtain ⟨v0, v1, v2, v3, v4, v5, v6, vs, vo, vj⟩ := id hv
  have key : ∀ k, Rch (Ed F (wh (F 2) (C 2)) (C 1)) i k → k = i := by
    intro k hk
    refine hk (fun k => k = i) rfl ?_
    rintro a b rfl ⟨⟨j, hj, hJ, he⟩, _⟩
    exfalso
    rw [bt_wh (by omega) (by omega)] at hJ
    have hb : bt (C 2) j = false := by simpa [hj] using hJ
    obtain ⟨g1, g2⟩ := hC.2.2.2.2 j hj hb
    unfold eg at he
    simp only [Bool.or_eq_true, Bool.and_eq_true, decide_eq_true_iff] at he
    rcases he with ⟨z, _⟩ | ⟨_, z⟩
    · rw [z, h] at g1; cases g1
    · rw [z, h] at g2; cases g2
  unfold leS
  refine fst_is 10 0 (by omega) (by omega) ((bt_rcS (by omega)).mpr ⟨by omega, Rch.refl⟩) ?_
  intro j _ hj
  cases z : bt (rc F (wh (F 2) (C 2)) (C 1) i) j with
  | false => rfl
  | true =>
    have := key j ((bt_rcS (by omega)).mp z).2
    omega
theorem leS_rc {F : Nat → Nat} {J A : Int32} {i : Nat} (hi : i < 10) : ∃ k, k < 10 ∧ leS (rc F J A i) = some k := by
  cases z : leS (rc F J A i) with
  | none =>
    have := fst_none 10 0 z i (by omega) (by omega)
    rw [rc_i hi] at this
    cases this
  | some k => exact ⟨k, by have := (fst_some 10 0 k z).2.1; omega, rfl⟩
theorem k_item {R : Rf} {T T' : Mm} {f : Nat} {F : Nat → Nat} {C : Nat → Int32} (h : KV R T f F C) (l : LV R T' F C) (x y : Int32) : ∃ a g, pX11_item R T 0 x y = some (a, setN T g) ∧ pX12_item R T' 105 x y = some (a, wI T' 105 0 0) := by
  have l' := l.sw (a := 105) (k := 0) (v := 0) (by decide)
  obtain ⟨k1, k2, k3, k4, k5, k6, k7, k8, k9, k10⟩ := id h
  obtain ⟨l1, l2, l3, l4, l5⟩ := id l'
  obtain ⟨v0, v1, v2, v3, v4, v5, v6, vs, vo, vj⟩ := id k8
  unfold pX11_item pX12_item
  simp only [lt]
  generalize wI T' 105 0 0 = U at *
  have hm : ∀ k, k < 80 → U.1 107 k = nI (F k) := l2
  by_cases e1 : ∃ p, p < F 1 ∧ x = nI p
  · obtain ⟨i, hi, rfl⟩ := e1
    have ho := (vo i hi).1
    have hU : zl3 (pX12_item_20 R 105 (nI i) y (pX12_item_76 R 105 (nI i) y)) FU U 0 0 = pX12_item_76 R 105 (nI i) y U (jaS F i) := by
      unfold jaS
      refine zl3_fr (f := pX12_item_20 R 105 (nI i) y (pX12_item_76 R 105 (nI i) y)) (fun _ => U) (fun a => a) (fun j a => if (decide (F (32 + j) = i) || decide (F (48 + j) = i)) = true then a ||| (1 <<< (nI j &&& 31)) else a) (fun a => pX12_item_76 R 105 (nI i) y U a) 0 (F 2) (fun _ _ => True) (by omega) (by omega) (fun _ _ _ _ _ => trivial) ?_ ?_ 0 trivial
      · intro r j a _ hj _
        have h1 := (vj j hj).1
        have h2 := (vj j hj).2.1
        unfold pX12_item_20 pX12_item_60
        simp (disch := omega) only [lt, jn, bd1_some, bd2_some, ix_nI, ix_lit, nI_clamp, lit_clamp, lit_add, add_lit, nI_add, nI_leI, nI_ltI, nI_eq, lit_le, le_lit, lit_lt, lt_lit, lit_eq, eq_lit, if_pos, if_neg, l1, hm]
        by_cases e1 : F (32 + j) = i
        · simp [e1]
        · by_cases e2 : F (48 + j) = i
          · simp [e1, e2]
          · simp [e1, e2]
      · intro r a _
        unfold pX12_item_20
        simp (disch := omega) only [lt, jn, bd1_some, bd2_some, ix_nI, ix_lit, nI_clamp, lit_clamp, lit_add, add_lit, nI_add, nI_leI, nI_ltI, nI_eq, lit_le, le_lit, lit_lt, lt_lit, lit_eq, eq_lit, if_pos, if_neg, l1, hm]
    have hcj := c_joinsAtS k7 k8 hi
    have hjh := c_joinsHolding k7 k8 (p := F (12 + i)) (by omega) (C 2) 0
    obtain ⟨⟨q5, q6, q7, q8, q9, q10, q11, q12⟩, f0, f1, f2, f3, f4, f14, f15, cs, co, cw, ca, cb, ch⟩ := id k7
    rw [k3, h.hasI1 hi, bd1_some, if10, l'.isI1 hi, bd1_some, if10, k1, hU, c_hasInside (by omega), hcj, k9.1 1 (by decide), k9.1 2 (by decide), k2]
    unfold pX12_item_76
    simp (disch := omega) only [lt, jn, bd1_some, bd2_some, ix_nI, ix_lit, nI_clamp, lit_clamp, lit_add, add_lit, nI_add, nI_leI, nI_ltI, nI_eq, lit_le, le_lit, lit_lt, lt_lit, lit_eq, eq_lit, if_pos, if_neg, l1, hm, l5.2.1, l5.2.2.1, m_bitOfS, bitAt, q8, q9, co, cw]
    by_cases y0 : y = 0
    · rw [if_pos y0, if_pos y0]
      exact ⟨_, T.1 34, by rw [setN_self], rfl⟩
    · rw [if_neg y0, if_neg y0]
      by_cases y1 : y = 1
      · rw [if_pos y1, if_pos y1]
        exact ⟨_, T.1 34, by rw [setN_self], rfl⟩
      · rw [if_neg y1, if_neg y1]
        by_cases y2 : y = 2
        · rw [if_pos y2, if_pos y2]
          by_cases e5 : bt (C 1) i = false
          · simp only [if_pos e5]
            exact ⟨_, T.1 34, by rw [setN_self]; rfl, rfl⟩
          · simp only [if_neg e5, if10]
            exact ⟨_, T.1 34, by rw [setN_self], rfl⟩
        · rw [if_neg y2, if_neg y2]
          by_cases y3 : y = 3
          · rw [if_pos y3, if_pos y3]
            exact ⟨_, T.1 34, by rw [setN_self], rfl⟩
          · rw [if_neg y3, if_neg y3]
            by_cases y4 : y = 4
            · rw [if_pos y4, if_pos y4, hjh, bd1_some, c_hold k4 k7 k8 (by omega), bd1_some, setN_o (by decide), k9.1 1 (by decide), c_around k8 k4 (fun k hk => setN_s hk) (by omega), bd1_some, c_leastOf, bd1_some, rc_own k8 rfl (fun j hj => cj_wh k8 hj)]
              by_cases e5 : bt (C 1) i = false
              · simp only [if_pos e5, if00]
                rw [rc_alone k8 k10 hi e5]
                exact ⟨_, _, rfl, rfl⟩
              · have e5' : bt (C 1) i = true := by simpa using e5
                obtain ⟨k, hk, hl⟩ := leS_rc (F := F) (J := wh (F 2) (C 2)) (A := C 1) (i := i) (by omega)
                simp only [if_neg e5, if10]
                rw [l'.heldWith (by omega) e5', bd1_some, m_lowestBit hl, bd1_some, hl]
                exact ⟨_, _, rfl, rfl⟩
            · rw [if_neg y4, if_neg y4]
              exact ⟨_, T.1 34, by rw [setN_self], rfl⟩
  · rw [k3, h.hasI0 e1, bd1_some, if00, l'.isI0 e1, bd1_some, if00]
    exact ⟨_, T.1 34, by rw [setN_self], rfl⟩
/-! WHO -/
/-- the tape's bytes, as both have them -/
def TB (T T' : Mm) (b : Nat → Nat) (L : Nat) : Prop := L ≤ 940 ∧ ∀ k, k < L → b k < 256 ∧ T.1 2 k = nI (b k) ∧ T'.1 106 k &&& 255 = nI (b k)
/-- the step of the matching: what is left, and which places are used (none: it doesn't fit) -/
def unuS (b : Nat → Nat) (L : Nat) (used : Int32) (w : Nat) : Option Nat := fst (fun k => !bt used k && decide (b k = w)) 0 L
noncomputable def whT (F : Nat → Nat) (J A : Int32) (b : Nat → Nat) (L i : Nat) (s : Option (Int32 × Int32)) : Option (Int32 × Int32) := match s with
  | none => none
  | some (left, used) => if bt left i = false then some (left, used) else match unuS b L used (wtS F (rc F J A i)) with
    | none => none
    | some k => some (left &&& (rc F J A i ^^^ (-1 : Int32)), used ||| (1 <<< (nI k &&& 31)))
theorem c_unused {R : Rf} {T : Mm} {b : Nat → Nat} {L : Nat} (hL : L ≤ 6) (hb : ∀ k, k < L → b k < 256 ∧ T.1 2 k = nI (b k)) (used : Int32) {w : Nat} (hw : w ≤ 200) : pX6_unusedPlace R T 2 (nI L) used (nI w) = some (oI (unuS b L used w)) := by
  unfold pX6_unusedPlace unuS
  have key := zl1_seek (f := pX6_unusedPlace_3 R T 2 (nI L) used (nI w) (pX6_unusedPlace_26 R T 2 (nI L) used (nI w)) (pX6_unusedPlace_35 R T 2 (nI L) used (nI w))) (fun k => !bt used k && decide (b k = w)) (fun k => some (nI k)) (some (-1)) (n := L) 0 (by omega) (by omega) ?_ ?_
  · rw [show (0 : Int32) = nI 0 from rfl, key, Nat.sub_zero]
    cases fst (fun k => !bt used k && decide (b k = w)) 0 L <;> rfl
  · intro r k _ hk
    obtain ⟨h1, h2⟩ := hb k hk
    unfold pX6_unusedPlace_3 pX6_unusedPlace_26
    simp (disch := omega) only [lt, jn, bd1_some, bd2_some, ix_nI, ix_lit, nI_clamp, lit_clamp, lit_add, add_lit, nI_add, nI_leI, nI_ltI, nI_eq, lit_le, le_lit, lit_lt, lt_lit, lit_eq, eq_lit, if_pos, if_neg, bt_test, h2]
    by_cases e1 : bt used k = false
    · by_cases e2 : b k = w
      · simp [e1, e2]
      · simp [e1, e2]
    · simp [e1]
  · intro r
    unfold pX6_unusedPlace_3 pX6_unusedPlace_35
    rw [if_pos (nI_le (Nat.le_refl _) (by omega))]
noncomputable def whF (F : Nat → Nat) (J A : Int32) (b : Nat → Nat) (L n : Nat) : Option (Int32 × Int32) := fo (whT F J A b L) 0 n (some (A, 0))
theorem whF_succ {F : Nat → Nat} {J A : Int32} {b : Nat → Nat} {L n : Nat} : whF F J A b L (n + 1) = whT F J A b L n (whF F J A b L n) := by
  unfold whF
  rw [fo_succ, Nat.zero_add]
/-- does it fit? -/
noncomputable def whS (F : Nat → Nat) (J A : Int32) (b : Nat → Nat) (L : Nat) : Int32 := match whF F J A b L (F 1) with
  | none => 0
  | some s => if s.2 = ((1 : Int32) <<< (nI L &&& 31)) - 1 then 1 else 0
theorem whT_none {F : Nat → Nat} {J A : Int32} {b : Nat → Nat} {L : Nat} : ∀ k i, fo (whT F J A b L) i k none = none
  | 0, _ => rfl
  | k + 1, i => whT_none k (i + 1)
theorem whF_sub {F : Nat → Nat} {J A : Int32} {b : Nat → Nat} {L : Nat} : ∀ n s, whF F J A b L n = some s → ∀ k, bt s.1 k = true → bt A k = true
  | 0, s, h, k, hk => by
    cases h
    exact hk
  | n + 1, s, h, k, hk => by
    rw [whF_succ] at h
    cases z : whF F J A b L n with
    | none => rw [z] at h; cases h
    | some t =>
      rw [z] at h
      have ih := whF_sub n t z k
      unfold whT at h
      obtain ⟨t1, t2⟩ := t
      dsimp only at h ih
      by_cases e : bt t1 n = false
      · rw [if_pos e] at h
        cases h
        exact ih hk
      · rw [if_neg e] at h
        cases y : unuS b L t2 (wtS F (rc F J A n)) with
        | none => rw [y] at h; cases h
        | some q =>
          rw [y] at h
          cases h
          dsimp only at hk
          rw [b_and, Bool.and_eq_true] at hk
          exact ih hk.1
theorem c_weighJust {R : Rf} {T : Mm} {f : Nat} {F : Nat → Nat} {Jc Jm A : Int32} (hF : CF R T f F) (hv : VF F) (h0 : R 33 0 = 34) (hn : ∀ k, k < 10 → T.1 34 k = nr F Jc k) {p : Nat} (hA : ∀ i, bt A i = true → i < F 1 ∧ F (12 + i) = p) (hJ : ∀ j, j < F 2 → bt Jc j = (bt Jm j && decide (F (12 + F (32 + j)) = p))) {b : Nat → Nat} {L : Nat} (hL : L ≤ 6) (hb : ∀ k, k < L → b k < 256 ∧ T.1 2 k = nI (b k)) : pX6_weighJustSo R T 33 f A 2 (nI L) = some (whS F Jm A b L) := by
  have v1 := hv.2.1
  unfold pX6_weighJustSo
  refine zl3_wp (f := pX6_weighJustSo_9 R T 33 f A 2 (nI L) (pX6_weighJustSo_66 R T 33 f A 2 (nI L)) (pX6_weighJustSo_83 R T 33 f A 2 (nI L))) (P := fun m x5 x6 x7 => ∃ i, x7 = nI i ∧ i + m = 10 ∧ whF F Jm A b L i = some (x5, x6)) (Q := fun z => z = some (whS F Jm A b L)) ?_ FU 10 A 0 0 (by rw [FU_eq]; omega) ⟨0, rfl, by omega, rfl⟩
  rintro m r x5 x6 x7 ⟨i, rfl, hi, hs⟩ hr
  have hsub := whF_sub i _ hs
  have ext : ∀ n, F 1 ≤ n → n ≤ 10 → ∀ s, whF F Jm A b L (F 1) = some s → whF F Jm A b L n = some s := by
    intro n
    induction n with
    | zero =>
      intro h1 _ s hs
      have : F 1 = 0 := by omega
      rwa [this] at hs
    | succ n ih =>
      intro h1 h2 s hs
      by_cases e : F 1 = n + 1
      · rw [← e]; exact hs
      · rw [whF_succ, ih (by omega) (by omega) s hs]
        obtain ⟨s1, s2⟩ := s
        unfold whT
        dsimp only
        rw [if_pos]
        cases z : bt s1 n with
        | false => rfl
        | true =>
          have := (hA n (whF_sub _ _ hs n z)).1
          omega
  unfold pX6_weighJustSo_9 pX6_weighJustSo_66 pX6_weighJustSo_83
  by_cases h10 : i = 10
  · subst h10
    rw [if_pos (by decide)]
    unfold whS
    cases z : whF F Jm A b L (F 1) with
    | none =>
      exfalso
      have : whF F Jm A b L (F 1 + (10 - F 1)) = none := by
        unfold whF at z ⊢
        rw [fo_add, z]
        exact whT_none _ _
      rw [show F 1 + (10 - F 1) = 10 by omega, hs] at this
      cases this
    | some s =>
      have := ext 10 v1 (by omega) s z
      rw [hs] at this
      cases this
      dsimp only
      by_cases e : x6 = ((1 : Int32) <<< (nI L &&& 31)) - 1
      · rw [if_pos e, if_pos e]
      · rw [if_neg e, if_neg e]
  · have hlt : i < 10 := by omega
    rw [if_neg (show ¬ (10 : Int32) ≤ nI i from nI_ge (b := 10) hlt (by omega))]
    simp only [bt_test _ (show i < 32 by omega), lt, nI_1]
    by_cases e : bt x5 i = false
    · rw [if_pos e]
      refine hr (m - 1) _ _ _ (by omega) ⟨i + 1, rfl, by omega, ?_⟩
      rw [whF_succ, hs]
      unfold whT
      dsimp only
      rw [if_pos e]
    · rw [if_neg e]
      have ho := hA i (hsub i (by simpa using e))
      rw [c_around hv h0 hn hlt, bd1_some, rc_own hv ho.2 hJ, c_weightOfS hF hv, bd1_some, c_unused hL hb _ (wtS_le hv _), bd1_some]
      cases z : unuS b L x6 (wtS F (rc F Jm A i)) with
      | none =>
        rw [oI_none, if_pos rfl]
        have hnone : whF F Jm A b L (i + 1) = none := by
          rw [whF_succ, hs]
          unfold whT
          dsimp only
          rw [if_neg e, z]
        unfold whS
        have : whF F Jm A b L (F 1) = none := by
          have e2 : F 1 = i + 1 + (F 1 - (i + 1)) := by omega
          rw [e2]
          unfold whF at hnone ⊢
          rw [fo_add, hnone]
          exact whT_none _ _
        rw [this]
      | some k =>
        have hk := (fst_some L 0 k z).2.1
        rw [oI_some, if_neg (ne_m1 (by omega))]
        refine hr (m - 1) _ _ _ (by omega) ⟨i + 1, rfl, by omega, ?_⟩
        rw [whF_succ, hs]
        unfold whT
        dsimp only
        rw [if_neg e, z]
