/-! sets and sums that loops make -/
/-- the set of those i below n with c i -/
def sB (c : Nat → Bool) (n : Nat) : Int32 := fo (fun i a => if c i = true then a ||| (1 <<< (nI i &&& 31)) else a) 0 n 0
theorem bt_fo (c : Nat → Bool) : ∀ (k i : Nat) (a : Int32), i + k ≤ 32 → ∀ j, j < 32 → bt (fo (fun i a => if c i = true then a ||| ((1 : Int32) <<< (nI i &&& 31)) else a) i k a) j = (bt a j || (decide (i ≤ j) && decide (j < i + k) && c j))
  | 0, i, a, _, j, _ => by
    have : (decide (i ≤ j) && decide (j < i + 0)) = false := by
      rcases Nat.lt_or_ge j i with h | h
      · simp <;> omega
      · simp <;> omega
    show bt a j = _
    rw [this]
    simp
  | k + 1, i, a, hk, j, hj => by
    show bt (fo _ (i + 1) k _) j = _
    rw [bt_fo c k (i + 1) _ (by omega) j hj]
    dsimp only
    by_cases hc : c i = true
    · rw [if_pos hc, b_or, bt_one i (by omega) hj]
      by_cases e : j = i
      · subst e
        simp [hc]
      · have h1 : decide (i + 1 ≤ j) = decide (i ≤ j) := by
          apply decide_eq_decide.mpr; omega
        have h2 : decide (j < i + 1 + k) = decide (j < i + (k + 1)) := by
          apply decide_eq_decide.mpr; omega
        rw [h1, h2]
        simp [e]
    · rw [if_neg hc]
      by_cases e : j = i
      · subst e
        have : c j = false := by simpa using hc
        simp [this]
      · have h1 : decide (i + 1 ≤ j) = decide (i ≤ j) := by
          apply decide_eq_decide.mpr; omega
        have h2 : decide (j < i + 1 + k) = decide (j < i + (k + 1)) := by
          apply decide_eq_decide.mpr; omega
        rw [h1, h2]
theorem bt_sB (c : Nat → Bool) {n : Nat} (hn : n ≤ 32) {j : Nat} (hj : j < 32) : bt (sB c n) j = (decide (j < n) && c j) := by
  unfold sB
  rw [bt_fo c n 0 0 (by omega) j hj, b_0]
  simp
theorem sB_congr {c d : Nat → Bool} {n : Nat} (h : ∀ i, i < n → c i = d i) : sB c n = sB d n := fo_congr n 0 0 (fun j b _ h2 => by rw [h j (by omega)])
/-- a loop that makes a set -/
theorem zl2_set {ρ : Type} {f : (Int32 → Int32 → Option ρ) → Int32 → Int32 → Option ρ} (c : Nat → Bool) (ex : Int32 → Option ρ) {n : Nat} (hn : n < 100000) (hs : ∀ (r : Int32 → Int32 → Option ρ) (i : Nat) (a : Int32), i < n → f r a (nI i) = r (if c i = true then a ||| (1 <<< (nI i &&& 31)) else a) (nI (i + 1))) (he : ∀ (r : Int32 → Int32 → Option ρ) (a : Int32), f r a (nI n) = ex a) : zl2 f FU 0 0 = ex (sB c n) :=
  zl2_for (f := f) (fun i a => if c i = true then a ||| (1 <<< (nI i &&& 31)) else a) ex n (fun _ _ => True) (fun _ _ _ _ => trivial) (fun r i a hi _ => hs r i a hi) (fun r a _ => he r a) n FU 0 0 (by omega) (by rw [FU_eq]; omega) trivial
/-- the sum of w i for those i below n with c i -/
def sW (c : Nat → Bool) (w : Nat → Nat) (n : Nat) : Nat := fo (fun i a => if c i = true then a + w i else a) 0 n 0
theorem sW_nI (c : Nat → Bool) (w : Nat → Nat) : ∀ (k i a : Nat), fo (fun i (a : Int32) => if c i = true then a + nI (w i) else a) i k (nI a) = nI (fo (fun i a => if c i = true then a + w i else a) i k a)
  | 0, _, _ => rfl
  | k + 1, i, a => by
    show fo _ (i + 1) k _ = nI (fo _ (i + 1) k _)
    rw [← sW_nI c w k (i + 1)]
    congr 1
    dsimp only
    by_cases h : c i = true
    · rw [if_pos h, if_pos h, nI_add]
    · rw [if_neg h, if_neg h]
theorem sW_congr {c d : Nat → Bool} {w v : Nat → Nat} {n : Nat} (h : ∀ i, i < n → c i = d i) (h' : ∀ i, i < n → w i = v i) : sW c w n = sW d v n := fo_congr n 0 0 (fun j b _ h2 => by rw [h j (by omega), h' j (by omega)])
theorem sW_le (c : Nat → Bool) (w : Nat → Nat) (m : Nat) : ∀ (k i a : Nat), (∀ j, i ≤ j → j < i + k → w j ≤ m) → fo (fun i a => if c i = true then a + w i else a) i k a ≤ a + k * m
  | 0, _, _, _ => by show _ ≤ _; simp [fo]
  | k + 1, i, a, h => by
    have ih := sW_le c w m k (i + 1) (if c i = true then a + w i else a) (fun j h1 h2 => h j (by omega) (by omega))
    have hw := h i (Nat.le_refl i) (by omega)
    show fo _ (i + 1) k _ ≤ _
    refine Nat.le_trans ih ?_
    have e : (k + 1) * m = k * m + m := Nat.succ_mul k m
    by_cases hc : c i = true
    · rw [if_pos hc]; omega
    · rw [if_neg hc]; omega
theorem sW_bound {c : Nat → Bool} {w : Nat → Nat} {n m : Nat} (h : ∀ j, j < n → w j ≤ m) : sW c w n ≤ n * m := by
  have := sW_le c w m n 0 0 (fun j _ h2 => h j (by omega))
  unfold sW
  omega
/-- a loop that sums -/
theorem zl2_sum {ρ : Type} {f : (Int32 → Int32 → Option ρ) → Int32 → Int32 → Option ρ} (c : Nat → Bool) (w : Nat → Nat) (ex : Int32 → Option ρ) {n : Nat} (hn : n < 100000) (hs : ∀ (r : Int32 → Int32 → Option ρ) (i : Nat) (a : Int32), i < n → f r a (nI i) = r (if c i = true then a + nI (w i) else a) (nI (i + 1))) (he : ∀ (r : Int32 → Int32 → Option ρ) (a : Int32), f r a (nI n) = ex a) : zl2 f FU 0 0 = ex (nI (sW c w n)) := by
  have h := zl2_for (f := f) (fun i a => if c i = true then a + nI (w i) else a) ex n (fun _ _ => True) (fun _ _ _ _ => trivial) (fun r i a hi _ => hs r i a hi) (fun r a _ => he r a) n FU 0 0 (by omega) (by rw [FU_eq]; omega) trivial
  rw [show (0 : Int32) = nI 0 from rfl] at h ⊢
  rw [h, sW_nI]
  rfl
/-- the first i from on with c i, of k -/
def fst (c : Nat → Bool) : Nat → Nat → Option Nat
  | _, 0 => none
  | i, k + 1 => if c i = true then some i else fst c (i + 1) k
theorem fst_congr {c d : Nat → Bool} : ∀ (k i : Nat), (∀ j, i ≤ j → j < i + k → c j = d j) → fst c i k = fst d i k
  | 0, _, _ => rfl
  | k + 1, i, h => by
    show (if c i = true then some i else fst c (i + 1) k) = (if d i = true then some i else fst d (i + 1) k)
    rw [h i (Nat.le_refl i) (by omega), fst_congr k (i + 1) (fun j h1 h2 => h j (by omega) (by omega))]
theorem fst_some {c : Nat → Bool} : ∀ (k i x : Nat), fst c i k = some x → i ≤ x ∧ x < i + k ∧ c x = true ∧ ∀ j, i ≤ j → j < x → c j = false
  | 0, _, _, h => by cases h
  | k + 1, i, x, h => by
    unfold fst at h
    by_cases hc : c i = true
    · rw [if_pos hc] at h
      cases h
      exact ⟨Nat.le_refl _, by omega, hc, fun j h1 h2 => by omega⟩
    · rw [if_neg hc] at h
      obtain ⟨h1, h2, h3, h4⟩ := fst_some k (i + 1) x h
      refine ⟨by omega, by omega, h3, fun j h5 h6 => ?_⟩
      by_cases e : j = i
      · subst e
        simpa using hc
      · exact h4 j (by omega) h6
theorem fst_none {c : Nat → Bool} : ∀ (k i : Nat), fst c i k = none → ∀ j, i ≤ j → j < i + k → c j = false
  | 0, _, _, j, h1, h2 => by omega
  | k + 1, i, h, j, h1, h2 => by
    unfold fst at h
    by_cases hc : c i = true
    · rw [if_pos hc] at h
      cases h
    · rw [if_neg hc] at h
      by_cases e : j = i
      · subst e
        simpa using hc
      · exact fst_none k (i + 1) h j (by omega) (by omega)
theorem fst_is {c : Nat → Bool} {x : Nat} : ∀ (k i : Nat), i ≤ x → x < i + k → c x = true → (∀ j, i ≤ j → j < x → c j = false) → fst c i k = some x
  | 0, i, h1, h2, _, _ => by omega
  | k + 1, i, h1, h2, h3, h4 => by
    unfold fst
    by_cases e : i = x
    · subst e
      rw [if_pos h3]
    · rw [if_neg (by rw [h4 i (Nat.le_refl i) (by omega)]; decide)]
      exact fst_is k (i + 1) (by omega) (by omega) h3 (fun j h5 h6 => h4 j (by omega) h6)
theorem fst_no {c : Nat → Bool} : ∀ (k i : Nat), (∀ j, i ≤ j → j < i + k → c j = false) → fst c i k = none
  | 0, _, _ => rfl
  | k + 1, i, h => by
    unfold fst
    rw [if_neg (by rw [h i (Nat.le_refl i) (by omega)]; decide)]
    exact fst_no k (i + 1) (fun j h1 h2 => h j (by omega) (by omega))
/-- a number, or -1 -/
def oI : Option Nat → Int32
  | none => -1
  | some n => nI n
/-- a loop that seeks -/
theorem zl1_seek {ρ : Type} {f : (Int32 → Option ρ) → Int32 → Option ρ} (c : Nat → Bool) (e1 : Nat → Option ρ) (e2 : Option ρ) {n : Nat} (i0 : Nat) (h0 : i0 ≤ n) (hn : n < 100000) (hs : ∀ (r : Int32 → Option ρ) (i : Nat), i0 ≤ i → i < n → f r (nI i) = if c i = true then e1 i else r (nI (i + 1))) (he : ∀ (r : Int32 → Option ρ), f r (nI n) = e2) : zl1 f FU (nI i0) = (fst c i0 (n - i0)).elim e2 e1 := by
  have key : ∀ (k fuel i : Nat), i0 ≤ i → i + k = n → k < fuel → zl1 f fuel (nI i) = (fst c i k).elim e2 e1 := by
    intro k
    induction k with
    | zero =>
      intro fuel i h1 hi hf
      cases fuel with
      | zero => omega
      | succ m =>
        have e : i = n := by omega
        subst e
        rw [zl1_s, he]
        rfl
    | succ k ih =>
      intro fuel i h1 hi hf
      cases fuel with
      | zero => omega
      | succ m =>
        rw [zl1_s, hs _ i h1 (by omega)]
        show _ = (if c i = true then some i else fst c (i + 1) k).elim e2 e1
        by_cases hc : c i = true
        · rw [if_pos hc, if_pos hc]
          rfl
        · rw [if_neg hc, if_neg hc]
          exact ih m (i + 1) (by omega) (by omega) (by omega)
  exact key (n - i0) FU i0 (Nat.le_refl _) (by omega) (by rw [FU_eq]; omega)
