theorem zl2_fr1 {α β ρ : Type} {f : (α → Int32 → Option ρ) → α → Int32 → Option ρ} (m0 : β → α) (F : Nat → β → β) (ex : β → Option ρ) (i0 n : Nat) (h0 : i0 ≤ n) (hn : n < 100000) (hs : ∀ (r : α → Int32 → Option ρ) (i : Nat) (b : β), i0 ≤ i → i < n → f r (m0 b) (nI i) = r (m0 (F i b)) (nI (i + 1))) (he : ∀ (r : α → Int32 → Option ρ) (b : β), f r (m0 b) (nI n) = ex b) (b : β) : zl2 f FU (m0 b) (nI i0) = ex (fo F i0 (n - i0) b) := by
  have key : ∀ (k fuel i : Nat) (b : β), i0 ≤ i → i + k = n → k < fuel → zl2 f fuel (m0 b) (nI i) = ex (fo F i k b) := by
    intro k
    induction k with
    | zero =>
      intro fuel i b h1 hi hf
      cases fuel with
      | zero => omega
      | succ m =>
        have e : i = n := by omega
        subst e
        rw [zl2_s, he]
        rfl
    | succ k ih =>
      intro fuel i b h1 hi hf
      cases fuel with
      | zero => omega
      | succ m =>
        rw [zl2_s, hs _ i b h1 (by omega)]
        exact ih m (i + 1) (F i b) (by omega) (by omega) (by omega)
  exact key (n - i0) FU i0 b (Nat.le_refl _) (by omega) (by rw [FU_eq]; omega)
