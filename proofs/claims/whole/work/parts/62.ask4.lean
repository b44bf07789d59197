/-! questions: keep, apart, item -/
theorem rc_sub {F : Nat → Nat} {J A : Int32} {i k : Nat} (hi : bt A i = true) (h : bt (rc F J A i) k = true) : bt A k = true := by
  have h32 : k < 32 := by
    rcases Nat.lt_or_ge k 32 with z | z
    · exact z
    · rw [b_big z] at h; cases h
  exact ((bt_rcS h32).mp h).2 (fun k => bt A k = true) hi (fun a b _ e => e.2)
theorem rc_i {F : Nat → Nat} {J A : Int32} {i : Nat} (hi : i < 10) : bt (rc F J A i) i = true := (bt_rcS (by omega)).mpr ⟨hi, Rch.refl⟩
/-- the least of a set of ten -/
def leS (x : Int32) : Option Nat := fst (bt x) 0 10
theorem c_leastOf {R : Rf} {T : Mm} (x : Int32) : pX6_leastOf R T x = some (oI (leS x)) := by
  unfold pX6_leastOf leS
  have key := zl1_seek (f := pX6_leastOf_2 R T x (pX6_leastOf_16 R T x) (pX6_leastOf_24 R T x)) (bt x) (fun k => some (nI k)) (some (-1)) (n := 10) 0 (by omega) (by omega) ?_ ?_
  · rw [show (0 : Int32) = nI 0 from rfl, key]
    show (fst (bt x) 0 10).elim _ _ = _
    cases fst (bt x) 0 10 <;> rfl
  · intro r i _ hi
    unfold pX6_leastOf_2 pX6_leastOf_16
    rw [if_neg (show ¬ (10 : Int32) ≤ nI i from nI_ge (b := 10) hi (by omega))]
    simp (disch := omega) only [bt_test, lt, nI_1]
    by_cases e : bt x i = false
    · simp [e]
    · simp [e]
  · intro r
    unfold pX6_leastOf_2 pX6_leastOf_24
    rw [if_pos (by decide)]
theorem m_lowestBit {R : Rf} {T : Mm} {x : Int32} {k : Nat} (h : leS x = some k) : pX12_lowestBit R T 105 x = some (nI k) := by
  unfold leS at h
  obtain ⟨_, h2, h3, h4⟩ := fst_some 10 0 k h
  unfold pX12_lowestBit
  have key : ∀ (m fuel i : Nat), i + m = k → m < fuel → zl1 (pX12_lowestBit_2 R T 105 x (pX12_lowestBit_16 R T 105 x)) fuel (nI i) = some (nI k) := by
    intro m
    induction m with
    | zero =>
      intro fuel i hi hf
      cases fuel with
      | zero => omega
      | succ n =>
        have e : i = k := by omega
        subst e
        rw [zl1_s]
        unfold pX12_lowestBit_2 pX12_lowestBit_16
        rw [m_bitOfS (by omega), bd1_some, h3]
        rfl
    | succ m ih =>
      intro fuel i hi hf
      cases fuel with
      | zero => omega
      | succ n =>
        rw [zl1_s]
        unfold pX12_lowestBit_2
        rw [m_bitOfS (by omega), bd1_some, if_pos (h4 i (by omega) (by omega)), if_pos rfl]
        simp only [lt, nI_1]
        exact ih n (i + 1) (by omega) (by omega)
  exact key k FU 0 (by omega) (by rw [FU_eq]; omega)
/-- one part: all of it is held together with its least -/
theorem nuF_from {q : Nat → Int32} {A : Int32} {k : Nat} (h1 : ∀ i, i < k → bt A i = false) : nuF q A k = (A, 0) := by
  induction k with
  | zero => rfl
  | succ k ih =>
    rw [nuF_succ, ih (fun i hi => h1 i (by omega))]
    unfold nuT
    rw [if_pos (h1 k (by omega))]
theorem nuF_mono {q : Nat → Int32} {A : Int32} {n : Nat} : ∀ k, (nuF q A n).2 ≤ (nuF q A (n + k)).2
  | 0 => Nat.le_refl _
  | k + 1 => by
    have := nuF_mono (q := q) (A := A) (n := n) k
    rw [show n + (k + 1) = n + k + 1 by omega, nuF_succ]
    unfold nuT
    by_cases e : bt (nuF q A (n + k)).1 (n + k) = false
    · rw [if_pos e]; exact this
    · rw [if_neg e]
      dsimp only
      omega
theorem nuF_keep {q : Nat → Int32} {A : Int32} {n : Nat} {i : Nat} : ∀ k, (∀ j, n ≤ j → j < n + k → bt (nuF q A n).1 j = false) → nuF q A (n + k) = nuF q A n
  | 0, _ => rfl
  | k + 1, h => by
    rw [show n + (k + 1) = n + k + 1 by omega, nuF_succ, nuF_keep (i := i) k (fun j h1 h2 => h j h1 (by omega))]
    unfold nuT
    rw [if_pos (h (n + k) (by omega) (by omega))]
theorem pa_one {F : Nat → Nat} {J A : Int32} {k : Nat} (hn : F 1 ≤ 10) (hA : ∀ i, bt A i = true → i < F 1) (hk : leS A = some k) : paS F J A = 1 ↔ rc F J A k = A := by
  unfold leS at hk
  obtain ⟨_, h2, h3, h4⟩ := fst_some 10 0 k hk
  have hkn := hA k h3
  have s1 : nuF (rc F J A) A (k + 1) = (A &&& (rc F J A k ^^^ (-1 : Int32)), 1) := by
    rw [nuF_succ, nuF_from (fun i hi => h4 i (by omega) hi)]
    unfold nuT
    rw [if_neg (by rw [h3]; decide)]
  constructor
  · intro h
    unfold paS nuS at h
    apply b_ext
    intro i hi
    cases zA : bt A i with
    | false =>
      cases z : bt (rc F J A k) i with
      | false => rfl
      | true =>
        have := rc_sub h3 z
        rw [zA] at this
        exact this.symm
    | true =>
      cases z : bt (rc F J A k) i with
      | true => rfl
      | false =>
        exfalso
        have hin := hA i zA
        -- there is a least one left behind k
        have hb : bt (A &&& (rc F J A k ^^^ (-1 : Int32))) i = true := by
          rw [b_and, bt_not _ hi, zA, z]; rfl
        have hik : k < i := by
          rcases Nat.lt_or_ge k i with y | y
          · exact y
          · by_cases e : i = k
            · subst e
              rw [rc_i (by omega)] at z
              cases z
            · rw [h4 i (by omega) (by omega)] at zA
              cases zA
        obtain ⟨j, hj, hjl⟩ := pk_least (fun j => k < j ∧ bt (A &&& (rc F J A k ^^^ (-1 : Int32))) j = true) ⟨i, hik, hb⟩
        have hji : j ≤ i := by
          rcases Nat.lt_or_ge i j with y | y
          · exact absurd ⟨hik, hb⟩ (hjl i y)
          · exact y
        have s2 : nuF (rc F J A) A j = nuF (rc F J A) A (k + 1) := by
          have := nuF_keep (q := rc F J A) (A := A) (n := k + 1) (i := 0) (j - (k + 1)) (fun y h5 h6 => by
            rw [s1]
            cases zz : bt (A &&& (rc F J A k ^^^ (-1 : Int32))) y with
            | false => rfl
            | true => exact absurd ⟨by omega, zz⟩ (hjl y (by omega)))
          rwa [show k + 1 + (j - (k + 1)) = j by omega] at this
        have s3 : (nuF (rc F J A) A (j + 1)).2 = 2 := by
          rw [nuF_succ, s2, s1]
          unfold nuT
          dsimp only
          rw [if_neg (by rw [hj.2]; decide)]
        have s4 := nuF_mono (q := rc F J A) (A := A) (n := j + 1) (F 1 - (j + 1))
        rw [show j + 1 + (F 1 - (j + 1)) = F 1 by omega] at s4
        omega
  · intro h
    unfold paS nuS
    have := nuF_keep (q := rc F J A) (A := A) (n := k + 1) (i := 0) (F 1 - (k + 1)) (fun y _ _ => by
      rw [s1]
      dsimp only
      rw [h, b_and]
      cases zz : bt A y with
      | false => rfl
      | true =>
        rw [bt_not _ (by have := hA y zz; omega), zz]
        rfl)
    rw [show k + 1 + (F 1 - (k + 1)) = F 1 by omega] at this
    rw [this, s1]
theorem sW_f {c : Nat → Bool} {w : Nat → Nat} (h : ∀ i, c i = false) : ∀ k i a, fo (fun i a => if c i = true then a + w i else a) i k a = a
  | 0, _, _ => rfl
  | k + 1, i, a => by
    show fo _ (i + 1) k (if c i = true then a + w i else a) = a
    rw [h i, if_neg (by decide)]
    exact sW_f h k (i + 1) a
/-- may the set m of a barrel A be kept rather than b? -/
noncomputable def kpc (F : Nat → Nat) (J A : Int32) (φ m b : Nat) : Bool := decide ((nI m &&& (A ^^^ (-1 : Int32))) = 0) && decide (wtS F (nI b) < wtS F (nI m)) && decide (wtS F (nI m) ≤ φ) && decide (paS F J (nI m) = 1)
noncomputable def kpT (F : Nat → Nat) (J A : Int32) (φ m b : Nat) : Nat := if kpc F J A φ m b = true then m else b
noncomputable def kpS (F : Nat → Nat) (J : Int32) (B φ : Nat) : Nat := fo (kpT F J (nI B) φ) 1 B 0
theorem kp_ext {F : Nat → Nat} {J : Int32} {B φ : Nat} (hB : B < 1024) : ∀ (k i b : Nat), B < i → i + k ≤ 1024 → fo (kpT F J (nI B) φ) i k b = b
  | 0, _, _, _, _ => rfl
  | k + 1, i, b, hi, hk => by
    show fo (kpT F J (nI B) φ) (i + 1) k (kpT F J (nI B) φ i b) = b
    have e : kpT F J (nI B) φ i b = b := by
      unfold kpT
      rw [if_neg]
      intro h
      unfold kpc at h
      simp only [Bool.and_eq_true, decide_eq_true_iff] at h
      have := nI_sub1 (by omega) hB h.1.1.1
      omega
    rw [e]
    exact kp_ext hB k (i + 1) b (by omega) (by omega)
theorem kp_all {F : Nat → Nat} {J : Int32} {B φ N : Nat} (hB : B < N) (hN : N ≤ 1024) : fo (kpT F J (nI B) φ) 1 (N - 1) 0 = kpS F J B φ := by
  have : N - 1 = B + (N - 1 - B) := by omega
  rw [this, fo_add]
  exact kp_ext (by omega) _ _ _ (by omega) (by omega)
theorem kp_lo {F : Nat → Nat} {J A : Int32} {φ : Nat} {i b : Nat} (hi : i < 1024) (hb : b < 1024) : kpT F J A φ i b < 1024 := by
  unfold kpT
  by_cases e : kpc F J A φ i b = true
  · rw [if_pos e]; exact hi
  · rw [if_neg e]; exact hb
theorem c_heaviestWhole {R : Rf} {T : Mm} {f : Nat} {F : Nat → Nat} {Jc Jm : Int32} (hF : CF R T f F) (hv : VF F) (h0 : R 33 0 = 34) (hn : ∀ k, k < 10 → T.1 34 k = nr F Jc k) {p B φ : Nat} (hB : B < 2 ^ (F 1)) (hφ : φ ≤ 198) (hA : ∀ i, bt (nI B) i = true → i < F 1 ∧ F (12 + i) = p) (hJ : ∀ j, j < F 2 → bt Jc j = (bt Jm j && decide (F (12 + F (32 + j)) = p))) : pX6_heaviestWhole R T 33 f (nI B) (nI φ) = some (nI (kpS F Jm B φ)) := by
  have v1 := hv.2.1
  have h10 : 2 ^ (F 1) ≤ 2 ^ 10 := Nat.pow_le_pow_right (n := 2) (show 0 < 2 by decide) v1
  have hw := fun x => wtS_le hv x
  unfold pX6_heaviestWhole
  rw [← kp_all (F := F) (J := Jm) (φ := φ) hB h10]
  have hpos : 0 < 2 ^ (F 1) := Nat.two_pow_pos _
  have w0 : wtS F (nI 0) = 0 := sW_f (fun i => b_0 i) _ _ _
  have key := zl3_fr (f := pX6_heaviestWhole_9 R T 33 f (nI B) (nI φ) (pX6_heaviestWhole_83 R T 33 f (nI B) (nI φ))) (fun b => nI b) (fun b => nI (wtS F (nI b))) (kpT F Jm (nI B) φ) (fun b => some (nI b)) 1 (2 ^ (F 1)) (fun _ b => b < 1024) (by omega) (by omega) (fun i b _ hi hb => kp_lo (by omega) hb) ?_ ?_ 0 (by omega)
  · rw [w0] at key
    exact key
  · intro r m b hm1 hm hb
    have w1 := hw (nI m)
    have w2 := hw (nI b)
    unfold pX6_heaviestWhole_9
    rw [hF.2.2.1, shl_nI v1, if_neg (nI_ge hm (by omega)), c_weightOfS hF hv, bd1_some]
    simp (disch := omega) only [lt, nI_1, nI_leI, nI_ltI]
    unfold kpT kpc
    by_cases e1 : (nI m &&& (nI B ^^^ (-1 : Int32))) = 0
    · rw [if_pos e1]
      by_cases e2 : wtS F (nI m) ≤ wtS F (nI b)
      · rw [if_pos e2, if_neg]
        simp only [Bool.and_eq_true, decide_eq_true_iff]
        omega
      · rw [if_neg e2]
        by_cases e3 : φ < wtS F (nI m)
        · rw [if_pos e3, if_neg]
          simp only [Bool.and_eq_true, decide_eq_true_iff]
          omega
        · rw [if_neg e3, c_leastOf, bd1_some]
          have hsub : ∀ i, bt (nI m) i = true → i < F 1 ∧ F (12 + i) = p := fun i hi => hA i (sub_bits e1 hi)
          cases hl : leS (nI m) with
          | none =>
            exfalso
            have hz := fst_none 10 0 hl
            have : nI m = 0 := by
              apply b_zero.mpr
              intro i hi
              rcases Nat.lt_or_ge i 10 with y | y
              · exact hz i (by omega) (by omega)
              · cases zz : bt (nI m) i with
                | false => rfl
                | true =>
                  have := bt_1024 (by omega) zz
                  omega
            exact nI_ne0 (by omega) (by omega) this
          | some k =>
            have hkk := fst_some 10 0 k hl
            have ho := hsub k hkk.2.2.1
            rw [oI_some, c_around hv h0 hn (by omega), bd1_some, rc_own hv ho.2 hJ]
            have hone := pa_one (J := Jm) v1 (fun i hi => (hsub i hi).1) hl
            by_cases e4 : rc F Jm (nI m) k = nI m
            · rw [if_pos e4, if_pos]
              simp only [Bool.and_eq_true, decide_eq_true_iff]
              exact ⟨⟨⟨e1, by omega⟩, by omega⟩, hone.mpr e4⟩
            · rw [if_neg e4, if_neg]
              simp only [Bool.and_eq_true, decide_eq_true_iff]
              exact fun q => e4 (hone.mp q.2)
    · rw [if_neg e1, if_neg]
      simp only [Bool.and_eq_true, decide_eq_true_iff]
      exact fun q => e1 q.1.1.1
  · intro r b _
    unfold pX6_heaviestWhole_9 pX6_heaviestWhole_83
    rw [hF.2.2.1, shl_nI v1, if_pos (nI_le (Nat.le_refl _) (by omega))]
theorem c_keep1 {R : Rf} {T : Mm} {f : Nat} {F : Nat → Nat} {C : Nat → Int32} (h : KV R T f F C) {p B φ : Nat} (hp : p < F 0) (hd : C (4 + p) < 2) (hB : B < 2 ^ (F 1)) (eB : brl F C p = nI B) (hφ : φ ≤ 198) (eφ : flS F (C 0) = nI φ) : ∃ g, pX11_keep R T 0 (nI p) = some (nI (wtS F (nI (kpS F (fjS F C p (nI (F 3))) B φ))), wI (setN T g) 0 17 (nI (kpS F (fjS F C p (nI (F 3))) B φ))) := by
  have hcs := c_canStill h (nI p)
  rw [if_pos ⟨p, hp, rfl, hd⟩] at hcs
  obtain ⟨k1, k2, k3, k4, k5, k6, k7, k8, k9, k10⟩ := id h
  have v0 := k8.1
  have hfl : ∀ g, pX3_flowOn R (setN T g) f (C 0) = some (nI φ) := by
    intro g
    rw [c_flowOn, ← eφ]
    obtain ⟨⟨q5, q6, q7, q8, q9, q10, q11, q12⟩, f0, f1, f2, f3, f4, f14, f15, cs, co, cw, ca, cb, ch⟩ := k7.sN (g := g) (by omega)
    rw [f4, f14, f15]
    rfl
  refine ⟨nr F (cjS F (C 2) p (if C (4 + p) < 2 then nI (F 3) - nI (F (7 + p)) else 0)), ?_⟩
  unfold pX11_keep
  rw [hcs, bd1_some, if_neg (by decide), k3, k1, k2, c_itemsOfS k7 k8 (by omega), bd1_some, k9.1 1 (by decide), Int32.and_comm, show ofS F p &&& C 1 = brl F C p from rfl]
  simp only [lt]
  rw [c_holdByFate k4 (by omega) k7 k8 k5 k9.1 k9.2 hp, bd1_some, setN_o (by decide), k9.1 0 (by decide), hfl, bd1_some, eB, c_heaviestWhole (k7.sN (by omega)) k8 k4 (fun k hk => setN_s hk) hB hφ (fun i hi => by rw [← eB] at hi; exact ⟨(brl_own k8 hi).1, (brl_own k8 hi).2.1⟩) (fun j hj => cj_fj k8 hj), bd1_some, wI_s, c_weightOfS ((k7.sN (by omega)).sw (by omega)) k8, bd1_some]
theorem m_keep1 {R : Rf} {T : Mm} {F : Nat → Nat} {C : Nat → Int32} (h : LV R T F C) {p B φ : Nat} (hp : p < F 0) (hd : C (4 + p) < 2) (hB : B < 2 ^ (F 1)) (eB : brl F C p = nI B) (hφ : φ ≤ 198) (eφ : flS F (C 0) = nI φ) : pX12_keep R T 105 (nI p) = some (nI (wtS F (nI (kpS F (fjS F C p (nI (F 3))) B φ))), wI (wI (wI T 105 0 0) 105 27 1) 105 25 (nI (kpS F (fjS F C p (nI (F 3))) B φ))) := by
  have l := h.sw (a := 105) (k := 0) (v := 0) (by decide)
  unfold pX12_keep
  simp only [lt]
  generalize wI T 105 0 0 = U at *
  obtain ⟨l1, l2, l3, l4, l5⟩ := id l
  have v0 := l3.1
  have h10 : 2 ^ (F 1) ≤ 2 ^ 10 := Nat.pow_le_pow_right (n := 2) (show 0 < 2 by decide) l3.2.1
  have hw := fun x => wtS_le l3 x
  rw [l.isP1 hp, bd1_some, if_neg (by decide), l.isDown (by omega), bd1_some, if_pos hd, if_pos rfl, l.barrel (by omega), bd1_some, l.fateJoins hp, bd1_some, eB]
  generalize fjS F C p (nI (F 3)) = J
  have key := zl5_fr (f := pX12_keep_41 R 105 (nI p) (pX12_keep_108 R 105 (nI p))) (fun _ => U) (fun _ => nI B) (fun _ => J) (fun b => nI b) (kpT F J (nI B) φ) (fun b => some (nI (wtS F (nI b)), wI (wI U 105 27 1) 105 25 (nI b))) 1 (B + 1) (fun _ b => b < 1024) (by omega) (by omega) (fun i b _ hi hb => kp_lo (by omega) hb) ?_ ?_ 0 (by omega)
  · exact key
  · intro r m b hm1 hm hb
    have w1 := hw (nI m)
    have w2 := hw (nI b)
    have hpl := paS_le l3 (J := J) (A := nI m)
    unfold pX12_keep_41
    rw [if_neg (nI_nlt (by omega) (by omega)), l.weighsIn, l.weighsIn, l.flow, eφ, l.partsOf]
    simp (disch := omega) only [lt, bd1_some, nI_1, nI_leI, nI_ltI, eq_lit]
    unfold kpT kpc
    by_cases e1 : (nI m &&& (nI B ^^^ (-1 : Int32))) = 0
    · rw [if_pos e1]
      by_cases e3 : φ < wtS F (nI m)
      · rw [if_pos e3, if_neg]
        simp only [Bool.and_eq_true, decide_eq_true_iff]
        omega
      · rw [if_neg e3]
        by_cases e2 : wtS F (nI m) ≤ wtS F (nI b)
        · rw [if_pos e2, if_neg]
          simp only [Bool.and_eq_true, decide_eq_true_iff]
          omega
        · rw [if_neg e2]
          by_cases e4 : paS F J (nI m) = 1
          · rw [if_pos e4, if_pos]
            simp only [Bool.and_eq_true, decide_eq_true_iff]
            exact ⟨⟨⟨e1, by omega⟩, by omega⟩, e4⟩
          · rw [if_neg e4, if_neg]
            simp only [Bool.and_eq_true, decide_eq_true_iff]
            exact fun q => e4 q.2
    · rw [if_neg e1, if_neg]
      simp only [Bool.and_eq_true, decide_eq_true_iff]
      exact fun q => e1 q.1.1.1
  · intro r b hb
    unfold pX12_keep_41 pX12_keep_108
    rw [if_pos (nI_lt (by omega) (by omega))]
    simp only [lt]
    have l' := (l.sw (a := 105) (k := 27) (v := 1) (by decide)).sw (a := 105) (k := 25) (v := nI b) (by decide)
    rw [l'.weighsIn, bd1_some]
