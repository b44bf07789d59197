/-! PURE PART: words for going through pure functions -/
theorem bd1_some {α ρ : Type} {a : α} {k : α → Option ρ} : bd1 (some a) k = k a := rfl
theorem bd2_some {α β ρ : Type} {a : α} {b : β} {k : α → β → Option ρ} : bd2 (some (a, b)) k = k a b := rfl
theorem bd2_some' {α β ρ : Type} {x : α × β} {k : α → β → Option ρ} : bd2 (some x) k = k x.1 x.2 := rfl
theorem ix_lit {ρ : Type} {j n : Nat} {k : Option ρ} (h : (OfNat.ofNat j : Nat) < n) (hn : n < 2 ^ 31) : ix (no_index (OfNat.ofNat j) : Int32) n k = k := ix_nI h hn
theorem lit_clamp {n : Nat} (h : (OfNat.ofNat n : Nat) < 2 ^ 31) : (no_index (OfNat.ofNat n) : Int32).toNatClampNeg = OfNat.ofNat n := nI_clamp h
theorem lit_add (a b : Nat) : (no_index (OfNat.ofNat a) : Int32) + nI b = nI (OfNat.ofNat a + b) := nI_add a b
theorem add_lit (a b : Nat) : nI a + (no_index (OfNat.ofNat b) : Int32) = nI (a + OfNat.ofNat b) := nI_add a b
theorem lit_mul (a b : Nat) : (no_index (OfNat.ofNat a) : Int32) * nI b = nI (OfNat.ofNat a * b) := pk_mul a b
theorem lit_le {a b : Nat} (ha : (OfNat.ofNat a : Nat) < 2 ^ 31) (hb : b < 2 ^ 31) : (no_index (OfNat.ofNat a) : Int32) ≤ nI b ↔ (OfNat.ofNat a : Nat) ≤ b := nI_leI ha hb
theorem le_lit {a b : Nat} (ha : a < 2 ^ 31) (hb : (OfNat.ofNat b : Nat) < 2 ^ 31) : nI a ≤ (no_index (OfNat.ofNat b) : Int32) ↔ a ≤ (OfNat.ofNat b : Nat) := nI_leI ha hb
theorem lit_lt {a b : Nat} (ha : (OfNat.ofNat a : Nat) < 2 ^ 31) (hb : b < 2 ^ 31) : (no_index (OfNat.ofNat a) : Int32) < nI b ↔ (OfNat.ofNat a : Nat) < b := nI_ltI ha hb
theorem lt_lit {a b : Nat} (ha : a < 2 ^ 31) (hb : (OfNat.ofNat b : Nat) < 2 ^ 31) : nI a < (no_index (OfNat.ofNat b) : Int32) ↔ a < (OfNat.ofNat b : Nat) := nI_ltI ha hb
theorem lit_eq {a b : Nat} (ha : (OfNat.ofNat a : Nat) < 2 ^ 31) (hb : b < 2 ^ 31) : (no_index (OfNat.ofNat a) : Int32) = nI b ↔ (OfNat.ofNat a : Nat) = b := nI_eq ha hb
theorem eq_lit {a b : Nat} (ha : a < 2 ^ 31) (hb : (OfNat.ofNat b : Nat) < 2 ^ 31) : nI a = (no_index (OfNat.ofNat b) : Int32) ↔ a = (OfNat.ofNat b : Nat) := nI_eq ha hb
theorem ne_m1 {a : Nat} (ha : a < 2 ^ 31) : ¬ nI a = -1 := fun h => nI_pos ha (by rw [h]; decide)
theorem sub_lit {a b : Nat} (h : (OfNat.ofNat b : Nat) ≤ a) : nI a - (no_index (OfNat.ofNat b) : Int32) = nI (a - OfNat.ofNat b) := pk_sub h
/-- every number that is not below 0 -/
theorem nI_all {x : Int32} (h : ¬ x < 0) : ∃ j : Nat, j < 2 ^ 31 ∧ x = nI j := nI_of h
theorem zl0_wp {ρ : Type} {f : (Option ρ) → Option ρ} (P : Nat → Prop) (Q : Option ρ → Prop) (h : ∀ (m : Nat) (r : Option ρ), P m → (∀ (m' : Nat), m' < m → P m' → Q (r)) → Q (f r)) : ∀ (fuel m : Nat), m < fuel → P m → Q (zl0 f fuel) := by
  intro fuel
  induction fuel with
  | zero => intro m hm; omega
  | succ n ih =>
    intro m hm hp
    rw [zl0_s]
    exact h m _ hp (fun m' hlt hp' => ih m' (by omega) hp')
theorem zl1_wp {A0 ρ : Type} {f : (A0 → Option ρ) → A0 → Option ρ} (P : Nat → A0 → Prop) (Q : Option ρ → Prop) (h : ∀ (m : Nat) (r : A0 → Option ρ) (a0 : A0), P m a0 → (∀ (m' : Nat) (b0 : A0), m' < m → P m' b0 → Q (r b0)) → Q (f r a0)) : ∀ (fuel m : Nat) (a0 : A0), m < fuel → P m a0 → Q (zl1 f fuel a0) := by
  intro fuel
  induction fuel with
  | zero => intro m a0 hm; omega
  | succ n ih =>
    intro m a0 hm hp
    rw [zl1_s]
    exact h m _ a0 hp (fun m' b0 hlt hp' => ih m' b0 (by omega) hp')
theorem zl2_wp {A0 A1 ρ : Type} {f : (A0 → A1 → Option ρ) → A0 → A1 → Option ρ} (P : Nat → A0 → A1 → Prop) (Q : Option ρ → Prop) (h : ∀ (m : Nat) (r : A0 → A1 → Option ρ) (a0 : A0) (a1 : A1), P m a0 a1 → (∀ (m' : Nat) (b0 : A0) (b1 : A1), m' < m → P m' b0 b1 → Q (r b0 b1)) → Q (f r a0 a1)) : ∀ (fuel m : Nat) (a0 : A0) (a1 : A1), m < fuel → P m a0 a1 → Q (zl2 f fuel a0 a1) := by
  intro fuel
  induction fuel with
  | zero => intro m a0 a1 hm; omega
  | succ n ih =>
    intro m a0 a1 hm hp
    rw [zl2_s]
    exact h m _ a0 a1 hp (fun m' b0 b1 hlt hp' => ih m' b0 b1 (by omega) hp')
theorem zl3_wp {A0 A1 A2 ρ : Type} {f : (A0 → A1 → A2 → Option ρ) → A0 → A1 → A2 → Option ρ} (P : Nat → A0 → A1 → A2 → Prop) (Q : Option ρ → Prop) (h : ∀ (m : Nat) (r : A0 → A1 → A2 → Option ρ) (a0 : A0) (a1 : A1) (a2 : A2), P m a0 a1 a2 → (∀ (m' : Nat) (b0 : A0) (b1 : A1) (b2 : A2), m' < m → P m' b0 b1 b2 → Q (r b0 b1 b2)) → Q (f r a0 a1 a2)) : ∀ (fuel m : Nat) (a0 : A0) (a1 : A1) (a2 : A2), m < fuel → P m a0 a1 a2 → Q (zl3 f fuel a0 a1 a2) := by
  intro fuel
  induction fuel with
  | zero => intro m a0 a1 a2 hm; omega
  | succ n ih =>
    intro m a0 a1 a2 hm hp
    rw [zl3_s]
    exact h m _ a0 a1 a2 hp (fun m' b0 b1 b2 hlt hp' => ih m' b0 b1 b2 (by omega) hp')
theorem zl4_wp {A0 A1 A2 A3 ρ : Type} {f : (A0 → A1 → A2 → A3 → Option ρ) → A0 → A1 → A2 → A3 → Option ρ} (P : Nat → A0 → A1 → A2 → A3 → Prop) (Q : Option ρ → Prop) (h : ∀ (m : Nat) (r : A0 → A1 → A2 → A3 → Option ρ) (a0 : A0) (a1 : A1) (a2 : A2) (a3 : A3), P m a0 a1 a2 a3 → (∀ (m' : Nat) (b0 : A0) (b1 : A1) (b2 : A2) (b3 : A3), m' < m → P m' b0 b1 b2 b3 → Q (r b0 b1 b2 b3)) → Q (f r a0 a1 a2 a3)) : ∀ (fuel m : Nat) (a0 : A0) (a1 : A1) (a2 : A2) (a3 : A3), m < fuel → P m a0 a1 a2 a3 → Q (zl4 f fuel a0 a1 a2 a3) := by
  intro fuel
  induction fuel with
  | zero => intro m a0 a1 a2 a3 hm; omega
  | succ n ih =>
    intro m a0 a1 a2 a3 hm hp
    rw [zl4_s]
    exact h m _ a0 a1 a2 a3 hp (fun m' b0 b1 b2 b3 hlt hp' => ih m' b0 b1 b2 b3 (by omega) hp')
theorem zl5_wp {A0 A1 A2 A3 A4 ρ : Type} {f : (A0 → A1 → A2 → A3 → A4 → Option ρ) → A0 → A1 → A2 → A3 → A4 → Option ρ} (P : Nat → A0 → A1 → A2 → A3 → A4 → Prop) (Q : Option ρ → Prop) (h : ∀ (m : Nat) (r : A0 → A1 → A2 → A3 → A4 → Option ρ) (a0 : A0) (a1 : A1) (a2 : A2) (a3 : A3) (a4 : A4), P m a0 a1 a2 a3 a4 → (∀ (m' : Nat) (b0 : A0) (b1 : A1) (b2 : A2) (b3 : A3) (b4 : A4), m' < m → P m' b0 b1 b2 b3 b4 → Q (r b0 b1 b2 b3 b4)) → Q (f r a0 a1 a2 a3 a4)) : ∀ (fuel m : Nat) (a0 : A0) (a1 : A1) (a2 : A2) (a3 : A3) (a4 : A4), m < fuel → P m a0 a1 a2 a3 a4 → Q (zl5 f fuel a0 a1 a2 a3 a4) := by
  intro fuel
  induction fuel with
  | zero => intro m a0 a1 a2 a3 a4 hm; omega
  | succ n ih =>
    intro m a0 a1 a2 a3 a4 hm hp
    rw [zl5_s]
    exact h m _ a0 a1 a2 a3 a4 hp (fun m' b0 b1 b2 b3 b4 hlt hp' => ih m' b0 b1 b2 b3 b4 (by omega) hp')
theorem zl6_wp {A0 A1 A2 A3 A4 A5 ρ : Type} {f : (A0 → A1 → A2 → A3 → A4 → A5 → Option ρ) → A0 → A1 → A2 → A3 → A4 → A5 → Option ρ} (P : Nat → A0 → A1 → A2 → A3 → A4 → A5 → Prop) (Q : Option ρ → Prop) (h : ∀ (m : Nat) (r : A0 → A1 → A2 → A3 → A4 → A5 → Option ρ) (a0 : A0) (a1 : A1) (a2 : A2) (a3 : A3) (a4 : A4) (a5 : A5), P m a0 a1 a2 a3 a4 a5 → (∀ (m' : Nat) (b0 : A0) (b1 : A1) (b2 : A2) (b3 : A3) (b4 : A4) (b5 : A5), m' < m → P m' b0 b1 b2 b3 b4 b5 → Q (r b0 b1 b2 b3 b4 b5)) → Q (f r a0 a1 a2 a3 a4 a5)) : ∀ (fuel m : Nat) (a0 : A0) (a1 : A1) (a2 : A2) (a3 : A3) (a4 : A4) (a5 : A5), m < fuel → P m a0 a1 a2 a3 a4 a5 → Q (zl6 f fuel a0 a1 a2 a3 a4 a5) := by
  intro fuel
  induction fuel with
  | zero => intro m a0 a1 a2 a3 a4 a5 hm; omega
  | succ n ih =>
    intro m a0 a1 a2 a3 a4 a5 hm hp
    rw [zl6_s]
    exact h m _ a0 a1 a2 a3 a4 a5 hp (fun m' b0 b1 b2 b3 b4 b5 hlt hp' => ih m' b0 b1 b2 b3 b4 b5 (by omega) hp')
theorem zl7_wp {A0 A1 A2 A3 A4 A5 A6 ρ : Type} {f : (A0 → A1 → A2 → A3 → A4 → A5 → A6 → Option ρ) → A0 → A1 → A2 → A3 → A4 → A5 → A6 → Option ρ} (P : Nat → A0 → A1 → A2 → A3 → A4 → A5 → A6 → Prop) (Q : Option ρ → Prop) (h : ∀ (m : Nat) (r : A0 → A1 → A2 → A3 → A4 → A5 → A6 → Option ρ) (a0 : A0) (a1 : A1) (a2 : A2) (a3 : A3) (a4 : A4) (a5 : A5) (a6 : A6), P m a0 a1 a2 a3 a4 a5 a6 → (∀ (m' : Nat) (b0 : A0) (b1 : A1) (b2 : A2) (b3 : A3) (b4 : A4) (b5 : A5) (b6 : A6), m' < m → P m' b0 b1 b2 b3 b4 b5 b6 → Q (r b0 b1 b2 b3 b4 b5 b6)) → Q (f r a0 a1 a2 a3 a4 a5 a6)) : ∀ (fuel m : Nat) (a0 : A0) (a1 : A1) (a2 : A2) (a3 : A3) (a4 : A4) (a5 : A5) (a6 : A6), m < fuel → P m a0 a1 a2 a3 a4 a5 a6 → Q (zl7 f fuel a0 a1 a2 a3 a4 a5 a6) := by
  intro fuel
  induction fuel with
  | zero => intro m a0 a1 a2 a3 a4 a5 a6 hm; omega
  | succ n ih =>
    intro m a0 a1 a2 a3 a4 a5 a6 hm hp
    rw [zl7_s]
    exact h m _ a0 a1 a2 a3 a4 a5 a6 hp (fun m' b0 b1 b2 b3 b4 b5 b6 hlt hp' => ih m' b0 b1 b2 b3 b4 b5 b6 (by omega) hp')
theorem zl8_wp {A0 A1 A2 A3 A4 A5 A6 A7 ρ : Type} {f : (A0 → A1 → A2 → A3 → A4 → A5 → A6 → A7 → Option ρ) → A0 → A1 → A2 → A3 → A4 → A5 → A6 → A7 → Option ρ} (P : Nat → A0 → A1 → A2 → A3 → A4 → A5 → A6 → A7 → Prop) (Q : Option ρ → Prop) (h : ∀ (m : Nat) (r : A0 → A1 → A2 → A3 → A4 → A5 → A6 → A7 → Option ρ) (a0 : A0) (a1 : A1) (a2 : A2) (a3 : A3) (a4 : A4) (a5 : A5) (a6 : A6) (a7 : A7), P m a0 a1 a2 a3 a4 a5 a6 a7 → (∀ (m' : Nat) (b0 : A0) (b1 : A1) (b2 : A2) (b3 : A3) (b4 : A4) (b5 : A5) (b6 : A6) (b7 : A7), m' < m → P m' b0 b1 b2 b3 b4 b5 b6 b7 → Q (r b0 b1 b2 b3 b4 b5 b6 b7)) → Q (f r a0 a1 a2 a3 a4 a5 a6 a7)) : ∀ (fuel m : Nat) (a0 : A0) (a1 : A1) (a2 : A2) (a3 : A3) (a4 : A4) (a5 : A5) (a6 : A6) (a7 : A7), m < fuel → P m a0 a1 a2 a3 a4 a5 a6 a7 → Q (zl8 f fuel a0 a1 a2 a3 a4 a5 a6 a7) := by
  intro fuel
  induction fuel with
  | zero => intro m a0 a1 a2 a3 a4 a5 a6 a7 hm; omega
  | succ n ih =>
    intro m a0 a1 a2 a3 a4 a5 a6 a7 hm hp
    rw [zl8_s]
    exact h m _ a0 a1 a2 a3 a4 a5 a6 a7 hp (fun m' b0 b1 b2 b3 b4 b5 b6 b7 hlt hp' => ih m' b0 b1 b2 b3 b4 b5 b6 b7 (by omega) hp')
theorem zl9_wp {A0 A1 A2 A3 A4 A5 A6 A7 A8 ρ : Type} {f : (A0 → A1 → A2 → A3 → A4 → A5 → A6 → A7 → A8 → Option ρ) → A0 → A1 → A2 → A3 → A4 → A5 → A6 → A7 → A8 → Option ρ} (P : Nat → A0 → A1 → A2 → A3 → A4 → A5 → A6 → A7 → A8 → Prop) (Q : Option ρ → Prop) (h : ∀ (m : Nat) (r : A0 → A1 → A2 → A3 → A4 → A5 → A6 → A7 → A8 → Option ρ) (a0 : A0) (a1 : A1) (a2 : A2) (a3 : A3) (a4 : A4) (a5 : A5) (a6 : A6) (a7 : A7) (a8 : A8), P m a0 a1 a2 a3 a4 a5 a6 a7 a8 → (∀ (m' : Nat) (b0 : A0) (b1 : A1) (b2 : A2) (b3 : A3) (b4 : A4) (b5 : A5) (b6 : A6) (b7 : A7) (b8 : A8), m' < m → P m' b0 b1 b2 b3 b4 b5 b6 b7 b8 → Q (r b0 b1 b2 b3 b4 b5 b6 b7 b8)) → Q (f r a0 a1 a2 a3 a4 a5 a6 a7 a8)) : ∀ (fuel m : Nat) (a0 : A0) (a1 : A1) (a2 : A2) (a3 : A3) (a4 : A4) (a5 : A5) (a6 : A6) (a7 : A7) (a8 : A8), m < fuel → P m a0 a1 a2 a3 a4 a5 a6 a7 a8 → Q (zl9 f fuel a0 a1 a2 a3 a4 a5 a6 a7 a8) := by
  intro fuel
  induction fuel with
  | zero => intro m a0 a1 a2 a3 a4 a5 a6 a7 a8 hm; omega
  | succ n ih =>
    intro m a0 a1 a2 a3 a4 a5 a6 a7 a8 hm hp
    rw [zl9_s]
    exact h m _ a0 a1 a2 a3 a4 a5 a6 a7 a8 hp (fun m' b0 b1 b2 b3 b4 b5 b6 b7 b8 hlt hp' => ih m' b0 b1 b2 b3 b4 b5 b6 b7 b8 (by omega) hp')
/-- a memory with other numbers alone in some cells -/
def Fr (S : Nat → Prop) (T T' : Mm) : Prop := ∀ a, ¬ S a → T'.1 a = T.1 a ∧ T'.2 = T.2
theorem Fr.refl {S : Nat → Prop} {T : Mm} : Fr S T T := fun _ _ => ⟨rfl, rfl⟩
theorem Fr.trans {S : Nat → Prop} {T U V : Mm} (h : Fr S T U) (h' : Fr S U V) : Fr S T V := fun a ha => ⟨(h' a ha).1.trans (h a ha).1, (h' a ha).2.trans (h a ha).2⟩
theorem Fr.mono {S S' : Nat → Prop} {T U : Mm} (h : Fr S T U) (hs : ∀ a, S a → S' a) : Fr S' T U := fun a ha => h a (fun q => ha (hs a q))
theorem Fr.sw {S : Nat → Prop} {T U : Mm} {a k : Nat} {v : Int32} (h : Fr S T U) (ha : S a) : Fr S T (wI U a k v) := fun b hb => ⟨(up2_row (a := a) (b := b) (fun e => hb (by rw [e]; exact ha))).trans (h b hb).1, (h b hb).2⟩
theorem wI_1 {T : Mm} {a k : Nat} {v : Int32} : (wI T a k v).1 = up2 T.1 a k v := rfl
theorem wJ_1 {T : Mm} {a k : Nat} {v : Int64} : (wJ T a k v).1 = T.1 := rfl
theorem wJ_2 {T : Mm} {a k : Nat} {v : Int64} : (wJ T a k v).2 = up2 T.2 a k v := rfl
/-- one bit of a set -/
theorem bt_test (x : Int32) {i : Nat} (hi : i < 32) : ((x >>> (nI i &&& 31)) &&& 1) = 0 ↔ bt x i = false := by
  have h0 : bt ((x >>> (nI i &&& 31)) &&& 1) 0 = bt x i := by
    rw [b_and, b_sshr i hi x (by omega)]
    have : bt 1 0 = true := by decide
    rw [this, if_pos (by omega), Nat.add_zero, Bool.and_true]
  constructor
  · intro h
    rw [h, b_0] at h0
    exact h0.symm
  · intro h
    rcases and1 (x >>> (nI i &&& 31)) with q | q
    · exact q
    · rw [q, h] at h0
      exact absurd h0 (by decide)
theorem bt_one (n : Nat) (hn : n < 32) {i : Nat} (hi : i < 32) : bt ((1 : Int32) <<< (nI n &&& 31)) i = decide (i = n) := by
  rw [b_shl n hn 1 hi]
  by_cases h : i = n
  · subst h
    have : bt 1 0 = true := by decide
    simp [this]
  · have : n ≤ i → bt 1 (i - n) = false := by
      intro q
      have e : ∀ k, k < 32 → 0 < k → bt 1 k = false := by decide +kernel
      exact e _ (by omega) (by omega)
    by_cases q : n ≤ i
    · simp [this q, h]
    · simp [q, h]
theorem bt_not (x : Int32) {i : Nat} (hi : i < 32) : bt (x ^^^ (-1 : Int32)) i = !bt x i := by rw [b_xor, b_m1 i hi]; simp
