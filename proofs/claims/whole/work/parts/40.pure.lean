/-! PURE PART: loops that count, indices in range -/
theorem ix_ok {ρ : Type} {i : Int32} {n : Nat} {k : Option ρ} (h : inb i n = true) : ix i n k = k := if_pos h
theorem inb_nI {j n : Nat} (h : j < n) (hn : n < 2 ^ 31) : inb (nI j) n = true := by
  have h1 : ¬ nI j < 0 := nI_pos (by omega)
  have h2 : (nI j).toNatClampNeg = j := nI_clamp (by omega)
  simp [inb, h1, h2, h]
theorem ix_nI {ρ : Type} {j n : Nat} {k : Option ρ} (h : j < n) (hn : n < 2 ^ 31) : ix (nI j) n k = k := ix_ok (inb_nI h hn)
/-- f n from i on, k times -/
def fo {α : Type} (F : Nat → α → α) : Nat → Nat → α → α
  | _, 0, a => a
  | i, k + 1, a => fo F (i + 1) k (F i a)
theorem fo_congr {α : Type} {F G : Nat → α → α} : ∀ (k i : Nat) (a : α), (∀ j b, i ≤ j → j < i + k → F j b = G j b) → fo F i k a = fo G i k a
  | 0, _, _, _ => rfl
  | k + 1, i, a, h => by
    show fo F (i + 1) k (F i a) = fo G (i + 1) k (G i a)
    rw [h i a (Nat.le_refl i) (by omega)]
    exact fo_congr k (i + 1) _ (fun j b h1 h2 => h j b (by omega) (by omega))
theorem fo_succ {α : Type} {F : Nat → α → α} : ∀ (k i : Nat) (a : α), fo F i (k + 1) a = F (i + k) (fo F i k a)
  | 0, _, _ => rfl
  | k + 1, i, a => by
    show fo F (i + 1) (k + 1) (F i a) = F (i + (k + 1)) (fo F (i + 1) k (F i a))
    rw [fo_succ k (i + 1), show i + 1 + k = i + (k + 1) by omega]
theorem zl2_for {α ρ : Type} {f : (α → Int32 → Option ρ) → α → Int32 → Option ρ} (F : Nat → α → α) (ex : α → Option ρ) (n : Nat) (P : Nat → α → Prop) (hP : ∀ i a, i < n → P i a → P (i + 1) (F i a)) (hs : ∀ (r : α → Int32 → Option ρ) (i : Nat) (a : α), i < n → P i a → f r a (nI i) = r (F i a) (nI (i + 1))) (he : ∀ (r : α → Int32 → Option ρ) (a : α), P n a → f r a (nI n) = ex a) : ∀ (k fuel i : Nat) (a : α), i + k = n → k < fuel → P i a → zl2 f fuel a (nI i) = ex (fo F i k a) := by
  intro k
  induction k with
  | zero =>
    intro fuel i a hi hf hp
    cases fuel with
    | zero => omega
    | succ m =>
      have e : i = n := by omega
      subst e
      rw [zl2_s, he _ _ hp]
      rfl
  | succ k ih =>
    intro fuel i a hi hf hp
    cases fuel with
    | zero => omega
    | succ m =>
      rw [zl2_s, hs _ i a (by omega) hp]
      exact ih m (i + 1) (F i a) (by omega) (by omega) (hP i a (by omega) hp)
theorem zl1_for {ρ : Type} {f : (Int32 → Option ρ) → Int32 → Option ρ} (x : Option ρ) (n : Nat) (hs : ∀ (r : Int32 → Option ρ) (i : Nat), i < n → f r (nI i) = r (nI (i + 1))) (he : ∀ r : Int32 → Option ρ, f r (nI n) = x) : ∀ (k fuel i : Nat), i + k = n → k < fuel → zl1 f fuel (nI i) = x := by
  intro k
  induction k with
  | zero =>
    intro fuel i hi hf
    cases fuel with
    | zero => omega
    | succ m =>
      have e : i = n := by omega
      subst e
      rw [zl1_s, he]
  | succ k ih =>
    intro fuel i hi hf
    cases fuel with
    | zero => omega
    | succ m =>
      rw [zl1_s, hs _ i (by omega)]
      exact ih m (i + 1) (by omega) (by omega)
theorem FU_eq : FU = 1000000 := rfl
/-- the bits i below n where own i is p -/
def itI (own : Nat → Int32) (n : Nat) (p : Int32) : Int32 := fo (fun i a => if own i = p then a ||| (1 <<< (nI i &&& 31)) else a) 0 n 0
theorem itI_congr {own own' : Nat → Int32} {n : Nat} {p : Int32} (h : ∀ i, i < n → own i = own' i) : itI own n p = itI own' n p := fo_congr n 0 0 (fun j b _ h2 => by rw [h j (by omega)])
/-- Falls.itemsOf -/
theorem c_itemsOf {R : Rf} {T : Mm} {f n : Nat} (hn : T.1 f 1 = nI n) (h10 : n ≤ 10) (p : Int32) : pX3_itemsOf R T f p = some (itI (T.1 (R f 8)) n p) := by
  unfold pX3_itemsOf
  refine zl2_for (f := pX3_itemsOf_4 R T f p (pX3_itemsOf_34 R T f p)) (fun i a => if T.1 (R f 8) i = p then a ||| (1 <<< (nI i &&& 31)) else a) (fun a => some a) n (fun _ _ => True) (fun _ _ _ _ => trivial) ?_ ?_ n FU 0 0 (by omega) (by rw [FU_eq]; omega) trivial
  · intro r i a hi _
    unfold pX3_itemsOf_4
    rw [hn, if_neg (nI_ge hi (by omega)), ix_nI (by omega) (by omega), nI_clamp (by omega), nI_1]
    by_cases c : T.1 (R f 8) i = p
    · rw [if_pos c, if_pos c]
    · rw [if_neg c, if_neg c]
  · intro r a _
    unfold pX3_itemsOf_4
    rw [hn, if_pos (nI_le (Nat.le_refl n) (by omega))]
    rfl
/-- GoingOverModel.allOf -/
theorem m_allOf {R : Rf} {T : Mm} {n a0 : Nat} (hn : T.1 (R a0 6) 1 = nI n) (h10 : n ≤ 10) (p : Int32) : pX12_allOf R T a0 p = some (itI (fun i => T.1 (R a0 6) (12 + i)) n p) := by
  unfold pX12_allOf
  have h1 : (1 : Int32).toNatClampNeg = 1 := rfl
  refine zl2_for (f := pX12_allOf_4 R T a0 p (pX12_allOf_43 R T a0 p)) (fun i a => if T.1 (R a0 6) (12 + i) = p then a ||| (1 <<< (nI i &&& 31)) else a) (fun a => some a) n (fun _ _ => True) (fun _ _ _ _ => trivial) ?_ ?_ n FU 0 0 (by omega) (by rw [FU_eq]; omega) trivial
  · intro r i a hi _
    unfold pX12_allOf_4
    have e : (12 : Int32) + nI i = nI (12 + i) := nI_add 12 i
    rw [ix_ok (by decide), h1, hn, if_neg (nI_ge hi (by omega)), e, ix_nI (by omega) (by omega), nI_clamp (by omega), nI_1]
    by_cases c : T.1 (R a0 6) (12 + i) = p
    · rw [if_pos c, if_pos c]
    · rw [if_neg c, if_neg c]
      show r (a ||| 0) (nI (i + 1)) = r a (nI (i + 1))
      rw [Int32.or_zero]
  · intro r a _
    unfold pX12_allOf_4
    rw [ix_ok (by decide), h1, hn, if_pos (nI_le (Nat.le_refl n) (by omega))]
    rfl
