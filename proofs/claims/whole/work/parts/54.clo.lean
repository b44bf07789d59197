/-! which items joins hold together -/
theorem zl3_fr {A0 A1 β ρ : Type} {f : (A0 → A1 → Int32 → Option ρ) → A0 → A1 → Int32 → Option ρ} (m0 : β → A0) (m1 : β → A1) (F : Nat → β → β) (ex : β → Option ρ) (i0 n : Nat) (P : Nat → β → Prop) (h0 : i0 ≤ n) (hn : n < 100000) (hP : ∀ i b, i0 ≤ i → i < n → P i b → P (i + 1) (F i b)) (hs : ∀ (r : A0 → A1 → Int32 → Option ρ) (i : Nat) (b : β), i0 ≤ i → i < n → P i b → f r (m0 b) (m1 b) (nI i) = r (m0 (F i b)) (m1 (F i b)) (nI (i + 1))) (he : ∀ (r : A0 → A1 → Int32 → Option ρ) (b : β), P n b → f r (m0 b) (m1 b) (nI n) = ex b) (b : β) (hb : P i0 b) : zl3 f FU (m0 b) (m1 b) (nI i0) = ex (fo F i0 (n - i0) b) := by
  have key : ∀ (k fuel i : Nat) (b : β), i0 ≤ i → i + k = n → k < fuel → P i b → zl3 f fuel (m0 b) (m1 b) (nI i) = ex (fo F i k b) := by
    intro k
    induction k with
    | zero =>
      intro fuel i b h1 hi hf hp
      cases fuel with
      | zero => omega
      | succ m =>
        have e : i = n := by omega
        subst e
        rw [zl3_s, he _ _ hp]
        rfl
    | succ k ih =>
      intro fuel i b h1 hi hf hp
      cases fuel with
      | zero => omega
      | succ m =>
        rw [zl3_s, hs _ i b h1 (by omega) hp]
        exact ih m (i + 1) (F i b) (by omega) (by omega) (by omega) (hP i b h1 (by omega) hp)
  exact key (n - i0) FU i0 b (Nat.le_refl _) (by omega) (by rw [FU_eq]; omega) hb
theorem zl4_fr {A0 A1 A2 β ρ : Type} {f : (A0 → A1 → A2 → Int32 → Option ρ) → A0 → A1 → A2 → Int32 → Option ρ} (m0 : β → A0) (m1 : β → A1) (m2 : β → A2) (F : Nat → β → β) (ex : β → Option ρ) (i0 n : Nat) (P : Nat → β → Prop) (h0 : i0 ≤ n) (hn : n < 100000) (hP : ∀ i b, i0 ≤ i → i < n → P i b → P (i + 1) (F i b)) (hs : ∀ (r : A0 → A1 → A2 → Int32 → Option ρ) (i : Nat) (b : β), i0 ≤ i → i < n → P i b → f r (m0 b) (m1 b) (m2 b) (nI i) = r (m0 (F i b)) (m1 (F i b)) (m2 (F i b)) (nI (i + 1))) (he : ∀ (r : A0 → A1 → A2 → Int32 → Option ρ) (b : β), P n b → f r (m0 b) (m1 b) (m2 b) (nI n) = ex b) (b : β) (hb : P i0 b) : zl4 f FU (m0 b) (m1 b) (m2 b) (nI i0) = ex (fo F i0 (n - i0) b) := by
  have key : ∀ (k fuel i : Nat) (b : β), i0 ≤ i → i + k = n → k < fuel → P i b → zl4 f fuel (m0 b) (m1 b) (m2 b) (nI i) = ex (fo F i k b) := by
    intro k
    induction k with
    | zero =>
      intro fuel i b h1 hi hf hp
      cases fuel with
      | zero => omega
      | succ m =>
        have e : i = n := by omega
        subst e
        rw [zl4_s, he _ _ hp]
        rfl
    | succ k ih =>
      intro fuel i b h1 hi hf hp
      cases fuel with
      | zero => omega
      | succ m =>
        rw [zl4_s, hs _ i b h1 (by omega) hp]
        exact ih m (i + 1) (F i b) (by omega) (by omega) (by omega) (hP i b h1 (by omega) hp)
  exact key (n - i0) FU i0 b (Nat.le_refl _) (by omega) (by rw [FU_eq]; omega) hb
theorem zl5_fr {A0 A1 A2 A3 β ρ : Type} {f : (A0 → A1 → A2 → A3 → Int32 → Option ρ) → A0 → A1 → A2 → A3 → Int32 → Option ρ} (m0 : β → A0) (m1 : β → A1) (m2 : β → A2) (m3 : β → A3) (F : Nat → β → β) (ex : β → Option ρ) (i0 n : Nat) (P : Nat → β → Prop) (h0 : i0 ≤ n) (hn : n < 100000) (hP : ∀ i b, i0 ≤ i → i < n → P i b → P (i + 1) (F i b)) (hs : ∀ (r : A0 → A1 → A2 → A3 → Int32 → Option ρ) (i : Nat) (b : β), i0 ≤ i → i < n → P i b → f r (m0 b) (m1 b) (m2 b) (m3 b) (nI i) = r (m0 (F i b)) (m1 (F i b)) (m2 (F i b)) (m3 (F i b)) (nI (i + 1))) (he : ∀ (r : A0 → A1 → A2 → A3 → Int32 → Option ρ) (b : β), P n b → f r (m0 b) (m1 b) (m2 b) (m3 b) (nI n) = ex b) (b : β) (hb : P i0 b) : zl5 f FU (m0 b) (m1 b) (m2 b) (m3 b) (nI i0) = ex (fo F i0 (n - i0) b) := by
  have key : ∀ (k fuel i : Nat) (b : β), i0 ≤ i → i + k = n → k < fuel → P i b → zl5 f fuel (m0 b) (m1 b) (m2 b) (m3 b) (nI i) = ex (fo F i k b) := by
    intro k
    induction k with
    | zero =>
      intro fuel i b h1 hi hf hp
      cases fuel with
      | zero => omega
      | succ m =>
        have e : i = n := by omega
        subst e
        rw [zl5_s, he _ _ hp]
        rfl
    | succ k ih =>
      intro fuel i b h1 hi hf hp
      cases fuel with
      | zero => omega
      | succ m =>
        rw [zl5_s, hs _ i b h1 (by omega) hp]
        exact ih m (i + 1) (F i b) (by omega) (by omega) (by omega) (hP i b h1 (by omega) hp)
  exact key (n - i0) FU i0 b (Nat.le_refl _) (by omega) (by rw [FU_eq]; omega) hb
theorem zl6_fr {A0 A1 A2 A3 A4 β ρ : Type} {f : (A0 → A1 → A2 → A3 → A4 → Int32 → Option ρ) → A0 → A1 → A2 → A3 → A4 → Int32 → Option ρ} (m0 : β → A0) (m1 : β → A1) (m2 : β → A2) (m3 : β → A3) (m4 : β → A4) (F : Nat → β → β) (ex : β → Option ρ) (i0 n : Nat) (P : Nat → β → Prop) (h0 : i0 ≤ n) (hn : n < 100000) (hP : ∀ i b, i0 ≤ i → i < n → P i b → P (i + 1) (F i b)) (hs : ∀ (r : A0 → A1 → A2 → A3 → A4 → Int32 → Option ρ) (i : Nat) (b : β), i0 ≤ i → i < n → P i b → f r (m0 b) (m1 b) (m2 b) (m3 b) (m4 b) (nI i) = r (m0 (F i b)) (m1 (F i b)) (m2 (F i b)) (m3 (F i b)) (m4 (F i b)) (nI (i + 1))) (he : ∀ (r : A0 → A1 → A2 → A3 → A4 → Int32 → Option ρ) (b : β), P n b → f r (m0 b) (m1 b) (m2 b) (m3 b) (m4 b) (nI n) = ex b) (b : β) (hb : P i0 b) : zl6 f FU (m0 b) (m1 b) (m2 b) (m3 b) (m4 b) (nI i0) = ex (fo F i0 (n - i0) b) := by
  have key : ∀ (k fuel i : Nat) (b : β), i0 ≤ i → i + k = n → k < fuel → P i b → zl6 f fuel (m0 b) (m1 b) (m2 b) (m3 b) (m4 b) (nI i) = ex (fo F i k b) := by
    intro k
    induction k with
    | zero =>
      intro fuel i b h1 hi hf hp
      cases fuel with
      | zero => omega
      | succ m =>
        have e : i = n := by omega
        subst e
        rw [zl6_s, he _ _ hp]
        rfl
    | succ k ih =>
      intro fuel i b h1 hi hf hp
      cases fuel with
      | zero => omega
      | succ m =>
        rw [zl6_s, hs _ i b h1 (by omega) hp]
        exact ih m (i + 1) (F i b) (by omega) (by omega) (by omega) (hP i b h1 (by omega) hp)
  exact key (n - i0) FU i0 b (Nat.le_refl _) (by omega) (by rw [FU_eq]; omega) hb
theorem b_zero {x : Int32} : x = 0 ↔ ∀ i, i < 32 → bt x i = false := ⟨fun h i _ => by rw [h, b_0], fun h => b_ext (fun i hi => by rw [h i hi, b_0])⟩
def exB (c : Nat → Bool) (n : Nat) : Bool := fo (fun i a => a || c i) 0 n false
theorem exB_succ (c : Nat → Bool) (n : Nat) : exB c (n + 1) = (exB c n || c n) := by
  unfold exB
  rw [fo_succ, Nat.zero_add]
theorem exB_iff {c : Nat → Bool} : ∀ {n : Nat}, exB c n = true ↔ ∃ i, i < n ∧ c i = true
  | 0 => ⟨fun h => (by cases h), fun ⟨i, h, _⟩ => (by omega)⟩
  | n + 1 => by
    rw [exB_succ, Bool.or_eq_true, exB_iff]
    constructor
    · rintro (⟨i, h1, h2⟩ | h)
      · exact ⟨i, by omega, h2⟩
      · exact ⟨n, by omega, h⟩
    · rintro ⟨i, h1, h2⟩
      by_cases e : i = n
      · subst e
        exact Or.inr h2
      · exact Or.inl ⟨i, by omega, h2⟩
/-- how many -/
def cnt (c : Nat → Bool) (n : Nat) : Nat := sW c (fun _ => 1) n
theorem cnt_succ (c : Nat → Bool) (n : Nat) : cnt c (n + 1) = if c n = true then cnt c n + 1 else cnt c n := by
  unfold cnt sW
  rw [fo_succ, Nat.zero_add]
theorem cnt_le (c : Nat → Bool) : ∀ n, cnt c n ≤ n
  | 0 => Nat.le_refl 0
  | n + 1 => by
    have := cnt_le c n
    rw [cnt_succ]
    by_cases h : c n = true
    · rw [if_pos h]; omega
    · rw [if_neg h]; omega
theorem cnt_mono {c d : Nat → Bool} : ∀ {n : Nat}, (∀ i, i < n → c i = true → d i = true) → cnt c n ≤ cnt d n
  | 0, _ => Nat.le_refl _
  | n + 1, h => by
    have ih := cnt_mono (c := c) (d := d) (n := n) (fun i hi => h i (by omega))
    rw [cnt_succ, cnt_succ]
    by_cases h1 : c n = true
    · rw [if_pos h1, if_pos (h n (by omega) h1)]; omega
    · rw [if_neg h1]
      by_cases h2 : d n = true
      · rw [if_pos h2]; omega
      · rw [if_neg h2]; omega
theorem cnt_lt {c d : Nat → Bool} : ∀ {n : Nat}, (∀ i, i < n → c i = true → d i = true) → (∃ i, i < n ∧ d i = true ∧ c i = false) → cnt c n < cnt d n
  | 0, _, ⟨i, hi, _⟩ => by omega
  | n + 1, h, ⟨i, hi, hd, hc⟩ => by
    rw [cnt_succ, cnt_succ]
    by_cases e : i = n
    · subst e
      have ih := cnt_mono (c := c) (d := d) (n := i) (fun i hi => h i (by omega))
      rw [if_pos hd, if_neg (by rw [hc]; decide)]
      omega
    · have ih := cnt_lt (c := c) (d := d) (n := n) (fun i hi => h i (by omega)) ⟨i, by omega, hd, hc⟩
      by_cases h1 : c n = true
      · rw [if_pos h1, if_pos (h n (by omega) h1)]; omega
      · rw [if_neg h1]
        by_cases h2 : d n = true
        · rw [if_pos h2]; omega
        · rw [if_neg h2]; omega
theorem cnt_pos {c : Nat → Bool} {n i : Nat} (hi : i < n) (h : c i = true) : 0 < cnt c n := by
  have := cnt_lt (c := fun _ => false) (d := c) (n := n) (fun _ _ q => by cases q) ⟨i, hi, h, rfl⟩
  omega
/-- what is reached from i -/
def Rch (E : Nat → Nat → Prop) (i k : Nat) : Prop := ∀ S : Nat → Prop, S i → (∀ a b, S a → E a b → S b) → S k
theorem Rch.refl {E : Nat → Nat → Prop} {i : Nat} : Rch E i i := fun _ h _ => h
theorem Rch.step {E : Nat → Nat → Prop} {i a b : Nat} (h : Rch E i a) (e : E a b) : Rch E i b := fun S h1 h2 => h2 a b (h S h1 h2) e
noncomputable def rcS (E : Nat → Nat → Prop) (i : Nat) : Int32 := sB (fun k => @decide (Rch E i k) (Classical.propDecidable _)) 10
theorem bt_rcS {E : Nat → Nat → Prop} {i k : Nat} (hk : k < 32) : bt (rcS E i) k = true ↔ k < 10 ∧ Rch E i k := by
  unfold rcS
  rw [bt_sB _ (by decide) hk, Bool.and_eq_true, decide_eq_true_iff, @decide_eq_true_iff _ (Classical.propDecidable _)]
theorem rcS_congr {E E' : Nat → Nat → Prop} {i : Nat} (h : ∀ k, k < 10 → (Rch E i k ↔ Rch E' i k)) : rcS E i = rcS E' i := by
  apply b_ext
  intro k hk
  apply Bool.eq_iff_iff.mpr
  rw [bt_rcS hk, bt_rcS hk]
  constructor
  · rintro ⟨h1, h2⟩
    exact ⟨h1, (h k h1).mp h2⟩
  · rintro ⟨h1, h2⟩
    exact ⟨h1, (h k h1).mpr h2⟩
theorem rcS_is {E : Nat → Nat → Prop} {i : Nat} {P : Int32} (h1 : ∀ k, k < 32 → bt P k = true → k < 10 ∧ Rch E i k) (h2 : bt P i = true) (h3 : ∀ a b, bt P a = true → E a b → bt P b = true) : P = rcS E i := by
  apply b_ext
  intro k hk
  apply Bool.eq_iff_iff.mpr
  rw [bt_rcS hk]
  exact ⟨h1 k hk, fun q => q.2 (fun k => bt P k = true) h2 h3⟩
/-- join j goes between i and k -/
def eg (F : Nat → Nat) (i k j : Nat) : Bool := (decide (F (32 + j) = i) && decide (F (48 + j) = k)) || (decide (F (32 + j) = k) && decide (F (48 + j) = i))
/-- joins of J go from a to b, which is in A -/
def Ed (F : Nat → Nat) (J A : Int32) (a b : Nat) : Prop := (∃ j, j < F 2 ∧ bt J j = true ∧ eg F a b j = true) ∧ bt A b = true
noncomputable def rc (F : Nat → Nat) (J A : Int32) (i : Nat) : Int32 := rcS (Ed F J A) i
def nrj (F : Nat → Nat) (J : Int32) (m i : Nat) : Int32 := sB (fun k => exB (fun j => bt J j && eg F i k j) m) 10
def nr (F : Nat → Nat) (J : Int32) (i : Nat) : Int32 := nrj F J (F 2) i
theorem bt_nr {F : Nat → Nat} {J : Int32} {i k : Nat} (hk : k < 10) : bt (nr F J i) k = true ↔ ∃ j, j < F 2 ∧ bt J j = true ∧ eg F i k j = true := by
  unfold nr nrj
  rw [bt_sB _ (by decide) (by omega), Bool.and_eq_true, exB_iff]
  constructor
  · rintro ⟨_, j, h1, h2⟩
    rw [Bool.and_eq_true] at h2
    exact ⟨j, h1, h2.1, h2.2⟩
  · rintro ⟨j, h1, h2, h3⟩
    exact ⟨by simp [hk], j, h1, by rw [h2, h3]; rfl⟩
theorem bt_nr_big {F : Nat → Nat} {J : Int32} {i k : Nat} (hk : 10 ≤ k) : bt (nr F J i) k = false := by
  by_cases h : k < 32
  · unfold nr nrj
    rw [bt_sB _ (by decide) h]
    have : ¬ k < 10 := by omega
    simp [this]
  · exact b_big (by omega)
def setN (T : Mm) (g : Nat → Int32) : Mm := (fun a k => if a = 34 ∧ k < 10 then g k else T.1 a k, T.2)
theorem setN_s {T : Mm} {g : Nat → Int32} {k : Nat} (h : k < 10) : (setN T g).1 34 k = g k := by simp [setN, h]
theorem setN_o {T : Mm} {g : Nat → Int32} {a : Nat} (h : a ≠ 34) : (setN T g).1 a = T.1 a := by
  funext k
  simp [setN, h]
theorem setN_2 {T : Mm} {g : Nat → Int32} : (setN T g).2 = T.2 := rfl
theorem setN_w {T : Mm} {g : Nat → Int32} {k : Nat} {v : Int32} (h : k < 10) : wI (setN T g) 34 k v = setN T (uC g k v) := by
  unfold wI setN up2 uC
  refine Prod.ext ?_ rfl
  funext a j
  by_cases h1 : a = 34
  · subst h1
    by_cases h2 : j = k
    · subst h2
      simp [h]
    · by_cases h3 : j < 10 <;> simp [h2, h3]
  · simp [h1]
theorem setN_congr {T : Mm} {g g' : Nat → Int32} (h : ∀ k, k < 10 → g k = g' k) : setN T g = setN T g' := by
  unfold setN
  refine Prod.ext ?_ rfl
  funext a j
  by_cases h1 : a = 34 ∧ j < 10
  · simp only [if_pos h1, h j h1.2]
  · simp only [if_neg h1]
theorem setN_self {T : Mm} : setN T (T.1 34) = T := by
  unfold setN
  refine Prod.ext ?_ rfl
  funext a j
  by_cases h1 : a = 34 ∧ j < 10
  · simp [h1]
  · simp only [if_neg h1]
theorem setN_setN {T : Mm} {g g' : Nat → Int32} : setN (setN T g) g' = setN T g' := by
  unfold setN
  refine Prod.ext ?_ rfl
  funext a j
  by_cases h1 : a = 34 ∧ j < 10
  · simp [h1]
  · simp only [if_neg h1]
theorem CF.sN {R : Rf} {T : Mm} {f : Nat} {F : Nat → Nat} {g : Nat → Int32} (h : CF R T f F) (hf : 34 < f) : CF R (setN T g) f F := h.of (fun a h1 h2 => setN_o (by omega))
theorem c_hold {R : Rf} {T : Mm} {f : Nat} {F : Nat → Nat} (h0 : R 33 0 = 34) (hF : CF R T f F) (hv : VF F) (hf : 34 < f) (J : Int32) : pX6_hold R T 33 f J = some (setN T (nr F J)) := by
  obtain ⟨v0, v1, v2, v3, v4, v5, v6, vs, vo, vj⟩ := id hv
  have hF' : ∀ g, CF R (setN T g) f F := fun g => hF.sN hf
  have e0 : T = setN T (T.1 34) := setN_self.symm
  unfold pX6_hold
  have k1 := zl2_forI (f := pX6_hold_2 R 33 f J (pX6_hold_21 R 33 f J)) (fun g => setN T g) (fun i g => uC g i 0) (fun g => pX6_hold_21 R 33 f J (setN T g)) 10 (fun _ _ => True) (by omega) (fun _ _ _ _ => trivial) ?_ ?_ (T.1 34) trivial
  · rw [← e0] at k1
    rw [k1]
    have k0 : ∀ k, k < 10 → fo (fun i g => uC g i (0 : Int32)) 0 10 (T.1 34) k = nrj F J 0 k := by
      intro k hk
      have hz : nrj F J 0 k = 0 := by
        unfold nrj
        apply b_zero.mpr
        intro i hi
        rw [bt_sB _ (by decide) hi]
        simp [exB, fo]
      rw [hz]
      show uC (uC (uC (uC (uC (uC (uC (uC (uC (uC (T.1 34) 0 0) 1 0) 2 0) 3 0) 4 0) 5 0) 6 0) 7 0) 8 0) 9 0 k = 0
      unfold uC
      have : k = 0 ∨ k = 1 ∨ k = 2 ∨ k = 3 ∨ k = 4 ∨ k = 5 ∨ k = 6 ∨ k = 7 ∨ k = 8 ∨ k = 9 := by omega
      rcases this with h | h | h | h | h | h | h | h | h | h <;> simp [h]
    rw [setN_congr k0]
    unfold pX6_hold_21
    refine zl2_wp (f := pX6_hold_23 R 33 f J (pX6_hold_89 R 33 f J)) (P := fun m U i => ∃ j, i = nI j ∧ j + m = F 2 ∧ U = setN T (nrj F J j)) (Q := fun z => z = some (setN T (nr F J))) ?_ FU (F 2) _ 0 (by rw [FU_eq]; omega) ⟨0, rfl, by omega, rfl⟩
    rintro m r U i ⟨j, rfl, hj, rfl⟩ hr
    have k := hF' (nrj F J j)
    obtain ⟨⟨q5, q6, q7, q8, q9, q10, q11, q12⟩, f0, f1, f2, f3, f4, f14, f15, cs, co, cw, ca, cb, ch⟩ := k
    unfold pX6_hold_23 pX6_hold_89
    rw [f2]
    by_cases hm : j < F 2
    · obtain ⟨hA, hB, hne, _⟩ := vj j hm
      rw [if_neg (nI_ge hm (by omega))]
      have goon : ∀ V, V = setN T (nrj F J (j + 1)) → r V (nI (j + 1)) = some (setN T (nr F J)) := fun V hV => hr (m - 1) V _ (by omega) ⟨j + 1, rfl, by omega, hV⟩
      simp only [bt_test J (show j < 32 by omega), lt, nI_1]
      by_cases e : bt J j = false
      · rw [if_pos e]
        apply goon
        apply setN_congr
        intro k hk
        unfold nrj
        apply sB_congr
        intro q _
        rw [exB_succ]
        simp [e]
      · rw [if_neg e]
        have e' : bt J j = true := by simpa using e
        simp (disch := omega) only [lt, jn, bd1_some, bd2_some, ix_nI, ix_lit, nI_clamp, lit_clamp, lit_add, add_lit, nI_add, nI_leI, nI_ltI, nI_eq, lit_le, le_lit, lit_lt, lt_lit, lit_eq, eq_lit, if_pos, if_neg, q10, q11, ca, cb, h0, setN_s, setN_w, setN_o, ne_eq, not_false_eq_true]
        have g1 : ∀ g a, (setN T g).1 (f + 6) a = T.1 (f + 6) a := fun g a => by rw [setN_o (by omega)]
        have g2 : ∀ g a, (setN T g).1 (f + 7) a = T.1 (f + 7) a := fun g a => by rw [setN_o (by omega)]
        have hfa : T.1 (f + 6) j = nI (F (32 + j)) := by rw [← g1 (nrj F J j), ca j hm]
        have hfb : T.1 (f + 7) j = nI (F (48 + j)) := by rw [← g2 (nrj F J j), cb j hm]
        simp (disch := omega) only [lt, jn, bd1_some, bd2_some, ix_nI, ix_lit, nI_clamp, lit_clamp, lit_add, add_lit, nI_add, nI_leI, nI_ltI, nI_eq, lit_le, le_lit, lit_lt, lt_lit, lit_eq, eq_lit, if_pos, if_neg, g1, g2, hfa, hfb, setN_s, setN_w]
        apply goon
        apply setN_congr
        intro k hk
        apply b_ext
        intro q hq
        by_cases e1 : k = F (48 + j)
        · rw [uC_e e1, b_or, bt_one _ (by omega) hq, uC_n (by omega)]
          subst e1
          unfold nrj
          rw [bt_sB _ (by decide) hq, bt_sB _ (by decide) hq, exB_succ, e']
          by_cases e2 : q = F (32 + j)
          · subst e2
            have : F (32 + j) < 10 := by omega
            simp [eg, this]
          · have e3 : ¬ F (32 + j) = q := fun z => e2 z.symm
            simp [eg, e2, e3, hne]
        · rw [uC_n e1]
          by_cases e2 : k = F (32 + j)
          · rw [uC_e e2, b_or, bt_one _ (by omega) hq]
            subst e2
            unfold nrj
            rw [bt_sB _ (by decide) hq, bt_sB _ (by decide) hq, exB_succ, e']
            by_cases e3 : q = F (48 + j)
            · subst e3
              have : F (48 + j) < 10 := by omega
              simp [eg, this]
            · have e4 : ¬ F (48 + j) = q := fun z => e3 z.symm
              have e5 : ¬ F (48 + j) = F (32 + j) := fun z => hne z.symm
              simp [eg, e3, e4, e5]
          · rw [uC_n e2]
            unfold nrj
            rw [bt_sB _ (by decide) hq, bt_sB _ (by decide) hq, exB_succ, e']
            have e3 : ¬ F (32 + j) = k := fun z => e2 z.symm
            have e4 : ¬ F (48 + j) = k := fun z => e1 z.symm
            simp [eg, e3, e4]
    · have e : j = F 2 := by omega
      subst e
      rw [if_pos (nI_le (Nat.le_refl _) (by omega))]
      rfl
  · intro r i g hi _
    unfold pX6_hold_2
    simp (disch := omega) only [lt, jn, bd1_some, bd2_some, ix_nI, ix_lit, nI_clamp, lit_clamp, lit_add, add_lit, nI_add, nI_leI, nI_ltI, nI_eq, lit_le, le_lit, lit_lt, lt_lit, lit_eq, eq_lit, if_pos, if_neg, h0, setN_w]
  · intro r g _
    unfold pX6_hold_2
    rw [if_pos (by decide)]
