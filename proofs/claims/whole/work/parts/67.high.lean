/-! HEIGHTS: the class's -/
theorem fo_first {α : Type} {G : Nat → α → α} {i k : Nat} {a : α} : fo G i (k + 1) a = fo G (i + 1) k (G i a) := rfl
noncomputable def pnS (F : Nat → Nat) (C : Nat → Int32) (p h : Nat) : Nat := paS F (fjS F C p (nI h)) (brl F C p)
/-- HIGH h agrees with the first n pairs -/
noncomputable def agS (F : Nat → Nat) (C : Nat → Int32) (b : Nat → Nat) (h n : Nat) : Bool := fo (fun q a => a && decide (pnS F C (b (2 * q)) h = b (2 * q + 1))) 0 n true
theorem agS_succ {F : Nat → Nat} {C : Nat → Int32} {b : Nat → Nat} {h n : Nat} : agS F C b h (n + 1) = (agS F C b h n && decide (pnS F C (b (2 * n)) h = b (2 * n + 1))) := by
  unfold agS
  rw [fo_succ, Nat.zero_add]
/-- the HIGHS, h of 1 to 30 -/
noncomputable def HG (F : Nat → Nat) (C : Nat → Int32) (b : Nat → Nat) (n h : Nat) : Bool := decide (1 ≤ h) && agS F C b h n
/-- how many of the HIGHS below m have number x by q -/
def nmS (H : Nat → Bool) (q : Nat → Nat) (x m : Nat) : Nat := cnt (fun h => H h && decide (q h = x)) m
def mxS (c : Nat → Nat) (n : Nat) : Nat := fo (fun i m => if c i ≤ m then m else c i) 0 n 0
theorem mxS_succ {c : Nat → Nat} {n : Nat} : mxS c (n + 1) = if c n ≤ mxS c n then mxS c n else c n := by
  unfold mxS
  rw [fo_succ, Nat.zero_add]
theorem mxS_ge {c : Nat → Nat} : ∀ {n i : Nat}, i < n → c i ≤ mxS c n
  | 0, _, h => by omega
  | n + 1, i, h => by
    rw [mxS_succ]
    by_cases e : i = n
    · subst e
      by_cases e2 : c i ≤ mxS c i
      · rw [if_pos e2]; exact e2
      · rw [if_neg e2]; omega
    · have := mxS_ge (c := c) (n := n) (i := i) (by omega)
      by_cases e2 : c n ≤ mxS c n
      · rw [if_pos e2]; exact this
      · rw [if_neg e2]; omega
theorem mxS_le {c : Nat → Nat} {M : Nat} : ∀ {n : Nat}, (∀ i, i < n → c i ≤ M) → mxS c n ≤ M
  | 0, _ => Nat.zero_le _
  | n + 1, h => by
    have := mxS_le (c := c) (M := M) (n := n) (fun i hi => h i (by omega))
    have h2 := h n (by omega)
    rw [mxS_succ]
    by_cases e2 : c n ≤ mxS c n
    · rw [if_pos e2]; exact this
    · rw [if_neg e2]; exact h2
theorem mxS_congr {c d : Nat → Nat} {n : Nat} (h : ∀ i, i < n → c i = d i) : mxS c n = mxS d n := fo_congr n 0 0 (fun j b _ h2 => by rw [h j (by omega)])
/-- the most that may be left by one -/
def mlS (H : Nat → Bool) (q : Nat → Nat) (m : Nat) : Nat := mxS (fun x => nmS H q x m) 11
theorem nmS_le {H : Nat → Bool} {q : Nat → Nat} {x m : Nat} : nmS H q x m ≤ m := cnt_le _ _
theorem nmS_succ {H : Nat → Bool} {q : Nat → Nat} {x m : Nat} : nmS H q x (m + 1) = if (H m && decide (q m = x)) = true then nmS H q x m + 1 else nmS H q x m := cnt_succ _ _
def bwS (H : Nat → Nat → Nat) (n : Nat) : Option Nat := fo (fun p o => match o with | none => some p | some q => if H q 0 ≤ H p 0 then some q else some p) 0 n none
theorem c_mostLeft {R : Rf} {T : Mm} {H : Nat → Bool} {q : Nat → Nat} {hs : Int32} {p : Nat} (r35 : R 35 0 = 36) (r36 : R 36 p = 37 + p) (hp : p < 5) (hh : ∀ h, h < 31 → bt hs h = H h) (h0 : H 0 = false) (hq : ∀ h, 1 ≤ h → h ≤ 30 → T.1 (37 + p) h = nI (q h)) (hq10 : ∀ h, q h ≤ 10) : pX4_mostLeft R T 35 hs (nI p) = some (nI (mlS H q 31)) := by
  unfold pX4_mostLeft mlS
  refine zl2_forI (f := pX4_mostLeft_5 R T 35 hs (nI p) (pX4_mostLeft_76 R T 35 hs (nI p))) (fun m => nI m) (fun x m => if nmS H q x 31 ≤ m then m else nmS H q x 31) (fun m => some (nI m)) 11 (fun _ m => m ≤ 31) (by omega) ?_ ?_ ?_ 0 (by omega)
  · intro x m hx hm
    have := nmS_le (H := H) (q := q) (x := x) (m := 31)
    by_cases e : nmS H q x 31 ≤ m
    · rw [if_pos e]; exact hm
    · rw [if_neg e]; exact this
  · intro r x m hx hm
    unfold pX4_mostLeft_5
    rw [if_neg (show ¬ (10 : Int32) < nI x from nI_nlt (a := 10) (by omega) (by decide))]
    have key := zl4_fr (f := pX4_mostLeft_18 R T 35 hs (nI p) (pX4_mostLeft_57 R T 35 hs (nI p) r (pX4_mostLeft_76 R T 35 hs (nI p)))) (fun _ => nI m) (fun _ => nI x) (fun k => nI k) (fun h k => if (H h && decide (q h = x)) = true then k + 1 else k) (fun k => pX4_mostLeft_57 R T 35 hs (nI p) r (pX4_mostLeft_76 R T 35 hs (nI p)) (nI m) (nI x) (nI k)) 1 31 (fun _ _ => True) (by omega) (by omega) (fun _ _ _ _ _ => trivial) ?_ ?_ 0 trivial
    · have e1 : fo (fun h k => if (H h && decide (q h = x)) = true then k + 1 else k) 1 (31 - 1) 0 = nmS H q x 31 := by
        show _ = fo (fun h k => if (H h && decide (q h = x)) = true then k + 1 else k) 1 30 (if (H 0 && decide (q 0 = x)) = true then 0 + 1 else 0)
        rw [h0]
        rfl
      rw [e1] at key
      have hle := nmS_le (H := H) (q := q) (x := x) (m := 31)
      have key2 : zl4 (pX4_mostLeft_18 R T 35 hs (nI p) (pX4_mostLeft_57 R T 35 hs (nI p) r (pX4_mostLeft_76 R T 35 hs (nI p)))) FU (nI m) (nI x) 0 1 = _ := key
      rw [key2]
      unfold pX4_mostLeft_57
      simp (disch := omega) only [lt, nI_1, nI_leI]
      by_cases e : nmS H q x 31 ≤ m
      · rw [if_pos e, if_pos e]
      · rw [if_neg e, if_neg e]
    · intro r' h k h1 h2 _
      have := hq10 h
      unfold pX4_mostLeft_18
      rw [if_neg (show ¬ (30 : Int32) < nI h from nI_nlt (a := 30) (by omega) (by decide))]
      simp (disch := omega) only [lt, jn, bd1_some, bd2_some, ix_nI, ix_lit, nI_clamp, lit_clamp, lit_add, add_lit, nI_add, nI_leI, nI_ltI, nI_eq, lit_le, le_lit, lit_lt, lt_lit, lit_eq, eq_lit, if_pos, if_neg, bt_test, r35, r36, hh, hq]
      cases z : H h with
      | false => simp
      | true =>
        by_cases e : q h = x
        · simp [e]
        · simp [e]
    · intro r' k _
      unfold pX4_mostLeft_18
      rw [if_pos (by decide)]
  · intro r m _
    unfold pX4_mostLeft_5
    rw [if_pos (by decide)]
    rfl
theorem bw_lt {H : Nat → Nat → Nat} {p : Nat} {o : Option Nat} (hP : ∀ k, o = some k → k < p) : ∀ k, (match o with | none => some p | some q => if H q 0 ≤ H p 0 then some q else some p) = some k → k < p + 1 := by
  intro k hk
  cases o with
  | none => cases hk; omega
  | some q =>
    have := hP q rfl
    dsimp only at hk
    by_cases e2 : H q 0 ≤ H p 0
    · rw [if_pos e2] at hk; cases hk; omega
    · rw [if_neg e2] at hk; cases hk; omega
theorem c_bestWatched {R : Rf} {T : Mm} {hs : Int32} {n : Nat} {W : Nat → Nat → Nat} (hn : n ≤ 5) (hm : ∀ p, p < n → pX4_mostLeft R T 35 hs (nI p) = some (nI (W p 0))) (hW : ∀ p, p < n → W p 0 ≤ 30) : pX4_bestWatched R T 35 hs (nI n) = some (oI (bwS W n)) := by
  unfold pX4_bestWatched
  refine zl3_fr (f := pX4_bestWatched_9 R T 35 hs (nI n) (pX4_bestWatched_44 R T 35 hs (nI n))) oI (fun o => match o with | none => 31 | some q => nI (W q 0)) _ (fun o => some (oI o)) 0 n (fun p o => ∀ k, o = some k → k < p) (by omega) (by omega) (fun p o _ _ hP => bw_lt hP) ?_ ?_ none (fun _ h => by cases h)
  · intro r p o _ hp hP
    unfold pX4_bestWatched_9
    have h1 := hW p hp
    rw [if_neg (nI_ge hp (by omega)), hm p hp, bd1_some]
    simp only [lt, nI_1]
    cases o with
    | none =>
      rw [if_neg (show ¬ (31 : Int32) ≤ nI (W p 0) from nI_ge (b := 31) (by omega) (by decide))]
      rfl
    | some q =>
      have h2 := hW q (by have := hP q rfl; omega)
      dsimp only
      simp (disch := omega) only [nI_leI]
      by_cases e : W q 0 ≤ W p 0
      · simp only [if_pos e]
      · simp only [if_neg e]
        rfl
  · intro r o _
    unfold pX4_bestWatched_9 pX4_bestWatched_44
    rw [if_pos (nI_le (Nat.le_refl _) (by omega))]
theorem c_agreeing {R : Rf} {T : Mm} {F : Nat → Nat} {C : Nat → Int32} (hv : VF F) {b : Nat → Nat} {n : Nat} (r35 : R 35 0 = 36) (r36 : ∀ p, p < 5 → R 36 p = 37 + p) (hn : n ≤ 5) (hb : ∀ k, k < 2 * n → b k < 256 ∧ T.1 2 k = nI (b k)) (hp : ∀ q, q < n → b (2 * q) < F 0) (hfill : ∀ p, p < F 0 → ∀ h, 1 ≤ h → h ≤ 30 → T.1 (37 + p) h = nI (pnS F C p h)) : pX4_agreeing R T 35 2 (nI (2 * n)) = some (sB (HG F C b n) 31) := by
  have v0 := hv.1
  have hpl : ∀ p h, pnS F C p h ≤ 10 := fun p h => paS_le hv
  unfold pX4_agreeing
  have k0 := zl2_fr1 (f := pX4_agreeing_5 R T 35 2 (nI (2 * n)) (pX4_agreeing_83 R T 35 2 (nI (2 * n)))) (fun a => a) (fun h a => if agS F C b h n = true then a ||| ((1 : Int32) <<< (nI h &&& 31)) else a) (fun a => some a) 1 31 (by omega) (by omega) ?_ ?_ 0
  · have e1 : fo (fun h (a : Int32) => if agS F C b h n = true then a ||| ((1 : Int32) <<< (nI h &&& 31)) else a) 1 (31 - 1) 0 = sB (HG F C b n) 31 := by
      have h00 : HG F C b n 0 = false := by unfold HG; simp
      unfold sB
      rw [show fo (fun i (a : Int32) => if HG F C b n i = true then a ||| ((1 : Int32) <<< (nI i &&& 31)) else a) 0 31 0 = fo (fun i (a : Int32) => if HG F C b n i = true then a ||| ((1 : Int32) <<< (nI i &&& 31)) else a) 1 30 (if HG F C b n 0 = true then 0 ||| ((1 : Int32) <<< (nI 0 &&& 31)) else 0) from fo_first (k := 30), h00, if_neg (show ¬ false = true by decide)]
      apply fo_congr
      intro j a h1 h2
      have : HG F C b n j = agS F C b j n := by
        unfold HG
        simp [h1]
      rw [this]
    rw [e1] at k0
    exact k0
  · intro r h a h1 h2
    unfold pX4_agreeing_5
    rw [if_neg (show ¬ (30 : Int32) < nI h from nI_nlt (a := 30) (by omega) (by decide))]
    refine zl4_wp (f := pX4_agreeing_18 R T 35 2 (nI (2 * n)) (pX4_agreeing_65 R T 35 2 (nI (2 * n)) r (pX4_agreeing_83 R T 35 2 (nI (2 * n))))) (P := fun m x3 x4 x5 x6 => x3 = a ∧ x4 = nI h ∧ ∃ q, x6 = nI (2 * q) ∧ q + m = n ∧ x5 = if agS F C b h q = true then 1 else 0) (Q := fun z => z = r (if agS F C b h n = true then a ||| ((1 : Int32) <<< (nI h &&& 31)) else a) (nI (h + 1))) ?_ FU n a (nI h) 1 0 (by rw [FU_eq]; omega) ⟨rfl, rfl, 0, rfl, by omega, rfl⟩
    rintro m r' x3 x4 x5 x6 ⟨rfl, rfl, q, rfl, hq, rfl⟩ hr
    unfold pX4_agreeing_18 pX4_agreeing_65
    by_cases hqn : q < n
    · obtain ⟨g1, g2⟩ := hb (2 * q) (by omega)
      obtain ⟨g3, g4⟩ := hb (2 * q + 1) (by omega)
      have g5 := hp q hqn
      have g6 := hpl (b (2 * q)) h
      have g7 := hfill _ g5 h h1 (by omega)
      have g8 := r36 (b (2 * q)) (by omega)
      simp (disch := omega) only [lt, jn, bd1_some, bd2_some, ix_nI, ix_lit, nI_clamp, lit_clamp, lit_add, add_lit, nI_add, nI_leI, nI_ltI, nI_eq, lit_le, le_lit, lit_lt, lt_lit, lit_eq, eq_lit, if_pos, if_neg, g2, g4, r35, g8, g7]
      by_cases e : agS F C b h q = true
      · simp only [if_pos e]
        rw [if_neg (by decide)]
        by_cases e2 : pnS F C (b (2 * q)) h = b (2 * q + 1)
        · rw [if_pos e2]
          exact hr (m - 1) _ _ _ _ (by omega) ⟨rfl, rfl, q + 1, rfl, by omega, by rw [agS_succ, e]; simp [e2]⟩
        · rw [if_neg e2]
          exact hr (m - 1) _ _ _ _ (by omega) ⟨rfl, rfl, q + 1, rfl, by omega, by rw [agS_succ, e]; simp [e2]⟩
      · simp only [if_neg e]
        rw [if_pos trivial]
        have e' : agS F C b h q = false := by simpa using e
        exact hr (m - 1) _ _ _ _ (by omega) ⟨rfl, rfl, q + 1, rfl, by omega, by rw [agS_succ, e']; simp⟩
    · have e : q = n := by omega
      subst e
      simp (disch := omega) only [lt, jn, bd1_some, bd2_some, ix_nI, ix_lit, nI_clamp, lit_clamp, lit_add, add_lit, nI_add, nI_leI, nI_ltI, nI_eq, lit_le, le_lit, lit_lt, lt_lit, lit_eq, eq_lit, if_pos, if_neg]
      by_cases e : agS F C b h q = true
      · simp [e]
      · simp [e]
  · intro r a
    unfold pX4_agreeing_5 pX4_agreeing_83
    rw [if_pos (by decide)]
theorem c_hleast {R : Rf} {T : Mm} {hs : Int32} : pX4_leastOf R T hs = some (oI (fst (bt hs) 1 30)) := by
  unfold pX4_leastOf
  have key := zl1_seek (f := pX4_leastOf_2 R T hs (pX4_leastOf_16 R T hs) (pX4_leastOf_24 R T hs)) (bt hs) (fun k => some (nI k)) (some (-1)) (n := 31) 1 (by omega) (by omega) ?_ ?_
  · rw [show (1 : Int32) = nI 1 from rfl, key]
    show (fst (bt hs) 1 30).elim _ _ = _
    cases fst (bt hs) 1 30 <;> rfl
  · intro r i h1 hi
    unfold pX4_leastOf_2 pX4_leastOf_16
    rw [if_neg (show ¬ (30 : Int32) < nI i from nI_nlt (a := 30) (by omega) (by decide))]
    simp (disch := omega) only [bt_test, lt, nI_1]
    by_cases e : bt hs i = false
    · simp [e]
    · simp [e]
  · intro r
    unfold pX4_leastOf_2 pX4_leastOf_24
    rw [if_pos (by decide)]
