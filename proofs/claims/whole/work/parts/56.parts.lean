/-! in how many parts -/
def nuT (q : Nat → Int32) (i : Nat) (s : Int32 × Nat) : Int32 × Nat := if bt s.1 i = false then s else (s.1 &&& (q i ^^^ (-1 : Int32)), s.2 + 1)
def nuF (q : Nat → Int32) (A : Int32) (n : Nat) : Int32 × Nat := fo (nuT q) 0 n (A, 0)
def nuS (q : Nat → Int32) (A : Int32) (n : Nat) : Nat := (nuF q A n).2
theorem nuF_succ (q : Nat → Int32) (A : Int32) (n : Nat) : nuF q A (n + 1) = nuT q n (nuF q A n) := by
  unfold nuF
  rw [fo_succ, Nat.zero_add]
theorem nuT_sub {q : Nat → Int32} {i k : Nat} {s : Int32 × Nat} (h : bt (nuT q i s).1 k = true) : bt s.1 k = true := by
  unfold nuT at h
  by_cases e : bt s.1 i = false
  · rw [if_pos e] at h
    exact h
  · rw [if_neg e] at h
    simp only [b_and, Bool.and_eq_true] at h
    exact h.1
theorem nuF_sub {q : Nat → Int32} {A : Int32} {k : Nat} : ∀ {n : Nat}, bt (nuF q A n).1 k = true → bt A k = true
  | 0, h => h
  | n + 1, h => by
    rw [nuF_succ] at h
    exact nuF_sub (nuT_sub h)
theorem nuF_congr {q q' : Nat → Int32} {A : Int32} : ∀ {n : Nat}, (∀ i, i < n → bt A i = true → q i = q' i) → nuF q A n = nuF q' A n
  | 0, _ => rfl
  | n + 1, h => by
    rw [nuF_succ, nuF_succ, nuF_congr (q := q) (q' := q') (n := n) (fun i hi => h i (by omega))]
    unfold nuT
    by_cases e : bt (nuF q' A n).1 n = false
    · rw [if_pos e, if_pos e]
    · rw [if_neg e, if_neg e, h n (by omega) (nuF_sub (by simpa using e))]
theorem nuF_ext {q : Nat → Int32} {A : Int32} {n : Nat} (h : ∀ i, n ≤ i → bt A i = false) : ∀ k, nuF q A (n + k) = nuF q A n
  | 0 => rfl
  | k + 1 => by
    rw [show n + (k + 1) = n + k + 1 by omega, nuF_succ, nuF_ext h k]
    unfold nuT
    rw [if_pos]
    cases z : bt (nuF q A n).1 (n + k) with
    | false => rfl
    | true =>
      have := nuF_sub z
      rw [h _ (by omega)] at this
      cases this
theorem nuS_10 {q : Nat → Int32} {A : Int32} {n : Nat} (hn : n ≤ 10) (h : ∀ i, n ≤ i → bt A i = false) : nuS q A 10 = nuS q A n := by
  unfold nuS
  have := nuF_ext (q := q) h (10 - n)
  rw [show n + (10 - n) = 10 by omega] at this
  rw [this]
theorem nuF_le {q : Nat → Int32} {A : Int32} : ∀ n, (nuF q A n).2 ≤ n
  | 0 => Nat.le_refl _
  | n + 1 => by
    have := nuF_le (q := q) (A := A) n
    rw [nuF_succ]
    unfold nuT
    by_cases e : bt (nuF q A n).1 n = false
    · rw [if_pos e]; omega
    · rw [if_neg e]; simp only; omega
theorem nuS_le {q : Nat → Int32} {A : Int32} {n : Nat} : nuS q A n ≤ n := nuF_le n
theorem c_number {R : Rf} {T : Mm} {F : Nat → Nat} {J : Int32} (hv : VF F) (h0 : R 33 0 = 34) (hn : ∀ k, k < 10 → T.1 34 k = nr F J k) (A : Int32) : pX6_number R T 33 A = some (nI (nuS (rc F J A) A 10)) := by
  unfold pX6_number
  refine zl3_fr (f := pX6_number_7 R T 33 A (pX6_number_44 R T 33 A)) (fun s : Int32 × Nat => s.1) (fun s => nI s.2) (nuT (rc F J A)) (fun s => some (nI s.2)) 0 10 (fun _ _ => True) (by omega) (by omega) (fun _ _ _ _ _ => trivial) ?_ ?_ (A, 0) trivial
  · intro r i s _ hi _
    unfold pX6_number_7 nuT
    rw [c_around hv h0 hn hi]
    simp (disch := omega) only [lt, jn, bd1_some, bd2_some, ix_nI, ix_lit, nI_clamp, lit_clamp, lit_add, add_lit, nI_add, nI_leI, nI_ltI, nI_eq, lit_le, le_lit, lit_lt, lt_lit, lit_eq, eq_lit, if_pos, if_neg, bt_test]
    by_cases e : bt s.1 i = false
    · simp [e]
    · simp [e]
  · intro r s _
    unfold pX6_number_7
    rw [if_pos (by decide)]
    rfl
noncomputable def paS (F : Nat → Nat) (J A : Int32) : Nat := nuS (rc F J A) A (F 1)
theorem paS_le {F : Nat → Nat} (hv : VF F) {J A : Int32} : paS F J A ≤ 10 := Nat.le_trans nuS_le hv.2.1
theorem m_partsOf {R : Rf} {T : Mm} {F : Nat → Nat} {J A : Int32} (r6 : R 105 6 = 107) (hM : MF T F) (hv : VF F) : pX12_partsOf R T 105 A J = some (nI (paS F J A)) := by
  obtain ⟨v0, v1, v2, v3, v4, v5, v6, vs, vo, vj⟩ := id hv
  have hm : ∀ k, k < 80 → T.1 107 k = nI (F k) := hM
  unfold pX12_partsOf
  refine zl3_fr (f := pX12_partsOf_8 R T 105 A J (pX12_partsOf_56 R T 105 A J)) (fun s : Int32 × Nat => nI s.2) (fun s => s.1) (nuT (rc F J A)) (fun s => some (nI s.2)) 0 (F 1) (fun _ s => ∀ k, bt s.1 k = true → bt A k = true) (by omega) (by omega) ?_ ?_ ?_ (A, 0) (fun _ h => h)
  · intro i s _ _ h k hk
    exact h k (nuT_sub hk)
  · intro r i s _ hi hP
    unfold pX12_partsOf_8 nuT
    simp (disch := omega) only [lt, jn, bd1_some, bd2_some, ix_nI, ix_lit, nI_clamp, lit_clamp, lit_add, add_lit, nI_add, nI_leI, nI_ltI, nI_eq, lit_le, le_lit, lit_lt, lt_lit, lit_eq, eq_lit, if_pos, if_neg, r6, hm, m_bitOfS]
    by_cases e : bt s.1 i = false
    · simp [e]
    · rw [m_heldWith r6 hM hv (by omega) (hP i (by simpa using e))]
      simp [e, bd1_some, nI_1]
  · intro r s _
    unfold pX12_partsOf_8
    simp (disch := omega) only [lt, jn, bd1_some, bd2_some, ix_nI, ix_lit, nI_clamp, lit_clamp, lit_add, add_lit, nI_add, nI_leI, nI_ltI, nI_eq, lit_le, le_lit, lit_lt, lt_lit, lit_eq, eq_lit, if_pos, if_neg, r6, hm]
    rfl
/-- the class's joins of one that hold -/
def cjS (F : Nat → Nat) (b : Int32) (p : Nat) (least : Int32) : Int32 := sB (fun j => !bt b j && decide (least ≤ nI (F (64 + j))) && decide (F (12 + F (32 + j)) = p)) (F 2)
theorem c_joinsHolding {R : Rf} {T : Mm} {f : Nat} {F : Nat → Nat} (hF : CF R T f F) (hv : VF F) {p : Nat} (hp : p < 5) (b least : Int32) : pX3_joinsHolding R T f (nI p) b least = some (cjS F b p least) := by
  have ho := fun j hj => bd_owner hF hv (j := j) hj
  obtain ⟨v0, v1, v2, v3, v4, v5, v6, vs, vo, vj⟩ := id hv
  obtain ⟨⟨q5, q6, q7, q8, q9, q10, q11, q12⟩, f0, f1, f2, f3, f4, f14, f15, cs, co, cw, ca, cb, ch⟩ := hF
  unfold pX3_joinsHolding cjS
  refine zl2_set (f := pX3_joinsHolding_6 R T f (nI p) b least (pX3_joinsHolding_60 R T f (nI p) b least)) _ (fun a => some a) (n := F 2) (by omega) ?_ ?_
  · intro r j a hj
    have h1 := (vj j hj).1
    have h2 := (vo _ h1).1
    unfold pX3_joinsHolding_6
    rw [ho j hj]
    simp (disch := omega) only [lt, jn, bd1_some, bd2_some, ix_nI, ix_lit, nI_clamp, lit_clamp, lit_add, add_lit, nI_add, nI_leI, nI_ltI, nI_eq, lit_le, le_lit, lit_lt, lt_lit, lit_eq, eq_lit, if_pos, if_neg, f2, q12, ch, bt_test]
    by_cases e1 : bt b j = false
    · by_cases e2 : nI (F (64 + j)) < least
      · have e3 : ¬ least ≤ nI (F (64 + j)) := Int32.not_le.mpr e2
        simp [e1, e2, e3]
      · have e3 : least ≤ nI (F (64 + j)) := Int32.not_lt.mp e2
        by_cases e4 : F (12 + F (32 + j)) = p
        · simp [e1, e2, e3, e4]
        · simp [e1, e2, e3, e4]
    · simp [e1]
  · intro r a
    unfold pX3_joinsHolding_6
    simp (disch := omega) only [lt, jn, bd1_some, bd2_some, ix_nI, ix_lit, nI_clamp, lit_clamp, lit_add, add_lit, nI_add, nI_leI, nI_ltI, nI_eq, lit_le, le_lit, lit_lt, lt_lit, lit_eq, eq_lit, if_pos, if_neg, f2]
    rfl
/-- the joins by fate at a height -/
def fjS (F : Nat → Nat) (C : Nat → Int32) (p : Nat) (high : Int32) : Int32 := if C (4 + p) < 2 then jfS F (wh (F 2) (C 2)) (high - nI (F (7 + p))) else wh (F 2) (C 2)
theorem c_holdingAt {R : Rf} {T : Mm} {f c : Nat} {F : Nat → Nat} {C : Nat → Int32} (hF : CF R T f F) (hv : VF F) (hc : R c 4 = c + 1) (hC : ∀ k, k < 4 → T.1 c k = C k) (hH : ∀ k, k < 5 → T.1 (c + 1) k = C (4 + k)) {p : Nat} (hp : p < F 0) (high : Int32) : pX1_holdingAt R T c f (nI p) high = some (cjS F (C 2) p (if C (4 + p) < 2 then high - nI (F (7 + p)) else 0)) := by
  have hj := fun b least => c_joinsHolding hF hv (p := p) (by have := hv.1; omega) b least
  obtain ⟨v0, v1, v2, v3, v4, v5, v6, vs, vo, vj⟩ := id hv
  obtain ⟨⟨q5, q6, q7, q8, q9, q10, q11, q12⟩, f0, f1, f2, f3, f4, f14, f15, cs, co, cw, ca, cb, ch⟩ := hF
  unfold pX1_holdingAt pX1_holdingAt_28
  simp (disch := omega) only [lt, jn, bd1_some, bd2_some, ix_nI, ix_lit, nI_clamp, lit_clamp, lit_add, add_lit, nI_add, nI_leI, nI_ltI, nI_eq, lit_le, le_lit, lit_lt, lt_lit, lit_eq, eq_lit, if_pos, if_neg, hc, q5, cs, hC, hH, hj]
  by_cases e : C (4 + p) < 2
  · rw [if_pos e, if_pos e]
  · rw [if_neg e, if_neg e]
theorem cj_fj {F : Nat → Nat} (hv : VF F) {C : Nat → Int32} {p : Nat} {high : Int32} {j : Nat} (hj : j < F 2) : bt (cjS F (C 2) p (if C (4 + p) < 2 then high - nI (F (7 + p)) else 0)) j = (bt (fjS F C p high) j && decide (F (12 + F (32 + j)) = p)) := by
  obtain ⟨v0, v1, v2, v3, v4, v5, v6, vs, vo, vj⟩ := id hv
  unfold cjS fjS
  rw [bt_sB _ (by omega) (by omega)]
  by_cases e : C (4 + p) < 2
  · rw [if_pos e, if_pos e]
    unfold jfS
    rw [bt_sB _ (by omega) (by omega), bt_wh (by omega) (by omega)]
    simp [hj, Bool.and_assoc]
  · rw [if_neg e, if_neg e, bt_wh (by omega) (by omega)]
    have : (0 : Int32) ≤ nI (F (64 + j)) := nI_pos' (by have := (vj j hj).2.2.2.2.2; omega)
    simp [hj, this]
theorem cj_wh {F : Nat → Nat} (hv : VF F) {b : Int32} {p j : Nat} (hj : j < F 2) : bt (cjS F b p 0) j = (bt (wh (F 2) b) j && decide (F (12 + F (32 + j)) = p)) := by
  obtain ⟨v0, v1, v2, v3, v4, v5, v6, vs, vo, vj⟩ := id hv
  unfold cjS
  rw [bt_sB _ (by omega) (by omega), bt_wh (by omega) (by omega)]
  have : (0 : Int32) ≤ nI (F (64 + j)) := nI_pos' (by have := (vj j hj).2.2.2.2.2; omega)
  simp [hj, this]
theorem rc_own {F : Nat → Nat} (hv : VF F) {Jc Jm A : Int32} {p i : Nat} (hi : F (12 + i) = p) (h : ∀ j, j < F 2 → bt Jc j = (bt Jm j && decide (F (12 + F (32 + j)) = p))) : rc F Jc A i = rc F Jm A i := by
  unfold rc
  apply rcS_congr
  intro k _
  constructor
  · intro hk
    refine hk (fun k => Rch (Ed F Jm A) i k) Rch.refl ?_
    rintro a b ha ⟨⟨j, hj, hJ, he⟩, hb⟩
    rw [h j hj, Bool.and_eq_true] at hJ
    exact ha.step ⟨⟨j, hj, hJ.1, he⟩, hb⟩
  · intro hk
    refine (hk (fun k => Rch (Ed F Jc A) i k ∧ F (12 + k) = p) ⟨Rch.refl, hi⟩ ?_).1
    rintro a b ⟨ha, hp⟩ ⟨⟨j, hj, hJ, he⟩, hb⟩
    have hx := eg_lt hv hj he
    have ho : F (12 + F (32 + j)) = p := by
      obtain ⟨v0, v1, v2, v3, v4, v5, v6, vs, vo, vj⟩ := id hv
      have h4 := (vj j hj).2.2.2.1
      unfold eg at he
      simp only [Bool.or_eq_true, Bool.and_eq_true, decide_eq_true_iff] at he
      rcases he with ⟨z, _⟩ | ⟨_, z⟩
      · rw [z]; exact hp
      · rw [h4, z]; exact hp
    refine ⟨ha.step ⟨⟨j, hj, ?_, he⟩, hb⟩, by rw [← hx.2.2.1]; exact hp⟩
    rw [h j hj, hJ, ho]
    simp
def brl (F : Nat → Nat) (C : Nat → Int32) (p : Nat) : Int32 := ofS F p &&& C 1
theorem brl_own {F : Nat → Nat} (hv : VF F) {C : Nat → Int32} {p i : Nat} (h : bt (brl F C p) i = true) : i < F 1 ∧ F (12 + i) = p ∧ bt (C 1) i = true := by
  unfold brl at h
  rw [b_and, Bool.and_eq_true] at h
  have hi : i < 32 := by
    rcases Nat.lt_or_ge i 32 with z | z
    · exact z
    · rw [b_big z] at h
      exact absurd h.1 (by decide)
  rw [bt_ofS hv hi] at h
  simp only [Bool.and_eq_true, decide_eq_true_iff] at h
  exact ⟨h.1.1, h.1.2, h.2⟩
theorem nu_own {F : Nat → Nat} (hv : VF F) {Jc Jm A : Int32} {p : Nat} (hA : ∀ i, bt A i = true → i < F 1 ∧ F (12 + i) = p) (h : ∀ j, j < F 2 → bt Jc j = (bt Jm j && decide (F (12 + F (32 + j)) = p))) : nuS (rc F Jc A) A 10 = paS F Jm A := by
  unfold paS
  rw [nuS_10 hv.2.1 (fun i hi => ?_)]
  · unfold nuS
    rw [nuF_congr (fun i _ hb => rc_own hv (hA i hb).2 h)]
  · cases z : bt A i with
    | false => rfl
    | true =>
      have := (hA i z).1
      omega
theorem c_holdByFate {R : Rf} {T : Mm} {f c : Nat} {F : Nat → Nat} {C : Nat → Int32} (h0 : R 33 0 = 34) (hf : 34 < f) (hF : CF R T f F) (hv : VF F) (hc : R c 4 = c + 1) (hC : ∀ k, k < 4 → T.1 c k = C k) (hH : ∀ k, k < 5 → T.1 (c + 1) k = C (4 + k)) {p : Nat} (hp : p < F 0) : pX6_holdByFate R T 33 f c (nI p) = some (setN T (nr F (cjS F (C 2) p (if C (4 + p) < 2 then nI (F 3) - nI (F (7 + p)) else 0)))) := by
  unfold pX6_holdByFate
  rw [show T.1 f 3 = nI (F 3) from hF.2.2.2.2.1, c_holdingAt hF hv hc hC hH hp, bd1_some, c_hold h0 hF hv hf, bd1_some]
theorem c_byFate {R : Rf} {T : Mm} {f c : Nat} {F : Nat → Nat} {C : Nat → Int32} (h0 : R 33 0 = 34) (hf : 34 < f) (hF : CF R T f F) (hv : VF F) (hc : R c 4 = c + 1) (hcn : c ≠ 34) (hC : ∀ k, k < 4 → T.1 c k = C k) (hH : ∀ k, k < 5 → T.1 (c + 1) k = C (4 + k)) {p : Nat} (hp : p < F 0) : ∃ g, pX6_byFate R T 33 f c (nI p) = some (nI (paS F (fjS F C p (nI (F 3))) (brl F C p)), setN T g) := by
  have v0 := hv.1
  refine ⟨nr F (cjS F (C 2) p (if C (4 + p) < 2 then nI (F 3) - nI (F (7 + p)) else 0)), ?_⟩
  unfold pX6_byFate
  rw [c_holdByFate h0 hf hF hv hc hC hH hp, bd1_some, c_itemsOfS (hF.sN hf) hv (by omega), bd1_some, setN_o hcn, hC 1 (by decide), Int32.and_comm, c_number hv h0 (fun k hk => setN_s hk), bd1_some]
  rw [show ofS F p &&& C 1 = brl F C p from rfl, nu_own hv (fun i hi => ⟨(brl_own hv hi).1, (brl_own hv hi).2.1⟩) (fun j hj => cj_fj hv hj)]
theorem c_asTheyAre {R : Rf} {T : Mm} {f c : Nat} {F : Nat → Nat} {C : Nat → Int32} (h0 : R 33 0 = 34) (hf : 34 < f) (hF : CF R T f F) (hv : VF F) (hcn : c ≠ 34) (hC : ∀ k, k < 4 → T.1 c k = C k) {p : Nat} (hp : p < F 0) : ∃ g, pX6_asTheyAre R T 33 f c (nI p) = some (nI (paS F (wh (F 2) (C 2)) (brl F C p)), setN T g) := by
  have v0 := hv.1
  refine ⟨nr F (cjS F (C 2) p 0), ?_⟩
  unfold pX6_asTheyAre
  rw [hC 2 (by decide), c_joinsHolding hF hv (by omega), bd1_some, c_hold h0 hF hv hf, bd1_some, c_itemsOfS (hF.sN hf) hv (by omega), bd1_some, setN_o hcn, hC 1 (by decide), Int32.and_comm, c_number hv h0 (fun k hk => setN_s hk), bd1_some]
  rw [show ofS F p &&& C 1 = brl F C p from rfl, nu_own hv (fun i hi => ⟨(brl_own hv hi).1, (brl_own hv hi).2.1⟩) (fun j hj => cj_wh hv hj)]
theorem m_fateJoins {R : Rf} {T : Mm} {F : Nat → Nat} {C : Nat → Int32} (r6 : R 105 6 = 107) (hM : MF T F) (hv : VF F) {p : Nat} (hp : p < F 0) : pX12_fateJoins R (setM T (F 2) C) 105 (nI p) = some (fjS F C p (nI (F 3))) := by
  obtain ⟨v0, v1, v2, v3, v4, v5, v6, vs, vo, vj⟩ := id hv
  have hm : ∀ D : Nat → Int32, ∀ k, k < 80 → (setM T (F 2) D).1 107 k = nI (F k) := fun D => hM.sM
  unfold pX12_fateJoins fjS
  rw [m_isDownS r6 (by omega), bd1_some]
  by_cases e : C (4 + p) < 2
  · rw [if_pos e, if_pos rfl, if_pos e]
    simp (disch := omega) only [lt, jn, bd1_some, bd2_some, ix_nI, ix_lit, nI_clamp, lit_clamp, lit_add, add_lit, nI_add, nI_leI, nI_ltI, nI_eq, lit_le, le_lit, lit_lt, lt_lit, lit_eq, eq_lit, if_pos, if_neg, r6, hm, setM_2, m_joinsFromS r6 (MF.sM hM) setM_2 hv]
  · rw [if_neg e, if_neg (by decide), if_neg e]
    simp (disch := omega) only [lt, jn, bd1_some, bd2_some, ix_nI, ix_lit, nI_clamp, lit_clamp, lit_add, add_lit, nI_add, nI_leI, nI_ltI, nI_eq, lit_le, le_lit, lit_lt, lt_lit, lit_eq, eq_lit, if_pos, if_neg, r6, setM_2]
theorem m_fateOf {R : Rf} {T : Mm} {F : Nat → Nat} {C : Nat → Int32} (r6 : R 105 6 = 107) (hM : MF T F) (hv : VF F) {p : Nat} (hp : p < F 0) : pX12_fateOf R (setM T (F 2) C) 105 (nI p) = some (nI (paS F (fjS F C p (nI (F 3))) (brl F C p))) := by
  have v0 := hv.1
  unfold pX12_fateOf
  rw [m_barrelOfS r6 hM hv (by omega), bd1_some, m_fateJoins r6 hM hv hp, bd1_some, m_partsOf r6 hM.sM hv, bd1_some]
  rfl
theorem m_partsNow {R : Rf} {T : Mm} {F : Nat → Nat} {C : Nat → Int32} (r6 : R 105 6 = 107) (hM : MF T F) (hv : VF F) {p : Nat} (hp : p < 5) : pX12_partsNow R (setM T (F 2) C) 105 (nI p) = some (nI (paS F (wh (F 2) (C 2)) (brl F C p))) := by
  unfold pX12_partsNow
  rw [m_barrelOfS r6 hM hv hp, bd1_some, ix_lit (by decide) (by decide), lit_clamp (by decide), r6, setM_2, m_partsOf r6 hM.sM hv, bd1_some]
  rfl
theorem m_partsBy {R : Rf} {T : Mm} {F : Nat → Nat} {C : Nat → Int32} (r6 : R 105 6 = 107) (hM : MF T F) (hv : VF F) {p : Nat} (hp : p < F 0) (high : Int32) : pX12_partsBy R (setM T (F 2) C) 105 (nI p) high = some (nI (paS F (fjS F C p high) (brl F C p))) := by
  obtain ⟨v0, v1, v2, v3, v4, v5, v6, vs, vo, vj⟩ := id hv
  have hm : ∀ D : Nat → Int32, ∀ k, k < 80 → (setM T (F 2) D).1 107 k = nI (F k) := fun D => hM.sM
  unfold pX12_partsBy pX12_partsBy_39 fjS
  rw [m_barrelOfS r6 hM hv (by omega), bd1_some, m_isDownS r6 (by omega), bd1_some]
  by_cases e : C (4 + p) < 2
  · rw [if_pos e, if_pos rfl, if_pos e]
    simp (disch := omega) only [lt, jn, bd1_some, bd2_some, ix_nI, ix_lit, nI_clamp, lit_clamp, lit_add, add_lit, nI_add, nI_leI, nI_ltI, nI_eq, lit_le, le_lit, lit_lt, lt_lit, lit_eq, eq_lit, if_pos, if_neg, r6, hm, setM_2, m_joinsFromS r6 (MF.sM hM) setM_2 hv, m_partsOf r6 (MF.sM hM) hv]
    rfl
  · rw [if_neg e, if_neg (by decide), if_neg e]
    simp (disch := omega) only [lt, jn, bd1_some, bd2_some, ix_nI, ix_lit, nI_clamp, lit_clamp, lit_add, add_lit, nI_add, nI_leI, nI_ltI, nI_eq, lit_le, le_lit, lit_lt, lt_lit, lit_eq, eq_lit, if_pos, if_neg, r6, setM_2, m_partsOf r6 (MF.sM hM) hv]
    rfl
