/-! what can be undone -/
theorem c_copy {R : Rf} {T : Mm} {a b : Nat} {C : Nat → Int32} (ra : R a 4 = a + 1) (rb : R b 4 = b + 1) (hab : a + 1 < b ∨ b + 1 < a) (h : CC T b C) : pX1_copy R T a b = some (setC T a C) := by
  unfold pX1_copy
  simp only [lt]
  rw [ra, rb]
  congr 1
  have h0 := h.1 0 (by decide)
  have h1 := h.1 1 (by decide)
  have h2 := h.1 2 (by decide)
  have h3 := h.1 3 (by decide)
  have n1 : ∀ (U : Mm) (k v j), (wI U a k v).1 b j = U.1 b j := fun U k v j => wI_n (Or.inl (by omega))
  have n2 : ∀ (U : Mm) (k v j), (wI U a k v).1 (b + 1) j = U.1 (b + 1) j := fun U k v j => wI_n (Or.inl (by omega))
  unfold cpI setC
  refine Prod.ext ?_ rfl
  funext x j
  dsimp only
  by_cases e1 : x = a + 1
  · subst e1
    by_cases e2 : j < 5
    · rw [if_pos ⟨rfl, e2⟩, n2, n2, n2, n2, h.2 j e2, if_neg (by omega), if_pos rfl, if_pos e2]
    · rw [if_neg (fun q => e2 q.2), if_neg (by omega), if_pos rfl, if_neg e2, wI_n (Or.inl (by omega)), wI_n (Or.inl (by omega)), wI_n (Or.inl (by omega)), wI_n (Or.inl (by omega))]
  · rw [if_neg (fun q => e1 q.1)]
    by_cases e3 : x = a
    · subst e3
      rw [if_pos rfl]
      by_cases j0 : j = 0
      · subst j0
        rw [wI_n (Or.inr (by decide)), wI_n (Or.inr (by decide)), wI_n (Or.inr (by decide)), wI_s, if_pos (by decide), h0]
      · by_cases j1 : j = 1
        · subst j1
          rw [wI_n (Or.inr (by decide)), wI_n (Or.inr (by decide)), wI_s, if_pos (by decide), n1, h1]
        · by_cases j2 : j = 2
          · subst j2
            rw [wI_n (Or.inr (by decide)), wI_s, if_pos (by decide), n1, n1, h2]
          · by_cases j3 : j = 3
            · subst j3
              rw [wI_s, if_pos (by decide), n1, n1, n1, h3]
            · rw [wI_n (Or.inr j3), wI_n (Or.inr j2), wI_n (Or.inr j1), wI_n (Or.inr j0), if_neg (by omega)]
    · rw [wI_n (Or.inl e3), wI_n (Or.inl e3), wI_n (Or.inl e3), wI_n (Or.inl e3), if_neg e3, if_neg e1]
/-- a row of nine, as the reference keeps it -/
def r9 (n : Nat) (C : Nat → Int32) (i : Nat) : Int32 := if i = 2 then wh n (C 2) else C i
theorem MC.row {T : Mm} {n : Nat} {C : Nat → Int32} (h : MC T n C) : ∀ i, i < 9 → T.1 107 (80 + i) = r9 n C i := by
  obtain ⟨h0, h1, h2, h3, h4⟩ := h
  intro i hi
  unfold r9
  by_cases e : 4 ≤ i
  · have := h4 (i - 4) (by omega)
    rw [show 84 + (i - 4) = 80 + i by omega, show 4 + (i - 4) = i by omega] at this
    rw [this, if_neg (by omega)]
  · have : i = 0 ∨ i = 1 ∨ i = 2 ∨ i = 3 := by omega
    rcases this with rfl | rfl | rfl | rfl
    · exact h0
    · exact h1
    · exact h2
    · exact h3
/-- n places copied -/
def cpR (T : Mm) (a i0 b j0 n : Nat) : Mm := (fun x k => if x = a ∧ i0 ≤ k ∧ k < i0 + n then T.1 b (j0 + (k - i0)) else T.1 x k, T.2)
theorem cpR_0 {T : Mm} {a i0 b j0 : Nat} : cpR T a i0 b j0 0 = T := by
  unfold cpR
  refine Prod.ext ?_ rfl
  funext x k
  exact if_neg (by omega)
theorem cpR_o {T : Mm} {a i0 b j0 n x : Nat} (h : x ≠ a) : (cpR T a i0 b j0 n).1 x = T.1 x := by
  funext k
  exact if_neg (fun q => h q.1)
theorem cpR_s {T : Mm} {a i0 b j0 n i : Nat} (h : i < n) : (cpR T a i0 b j0 n).1 a (i0 + i) = T.1 b (j0 + i) := by
  unfold cpR
  dsimp only
  rw [if_pos ⟨rfl, by omega, by omega⟩, show j0 + (i0 + i - i0) = j0 + i by omega]
theorem cpR_n {T : Mm} {a i0 b j0 n k : Nat} (h : k < i0 ∨ i0 + n ≤ k) : (cpR T a i0 b j0 n).1 a k = T.1 a k := if_neg (by omega)
theorem cpR_w {T : Mm} {a i0 b j0 i : Nat} : wI (cpR T a i0 b j0 i) a (i0 + i) (T.1 b (j0 + i)) = cpR T a i0 b j0 (i + 1) := by
  unfold wI cpR up2
  refine Prod.ext ?_ rfl
  funext x k
  dsimp only
  by_cases e : x = a ∧ k = i0 + i
  · obtain ⟨rfl, rfl⟩ := e
    rw [if_pos ⟨rfl, rfl⟩, if_pos ⟨rfl, by omega, by omega⟩, show j0 + (i0 + i - i0) = j0 + i by omega]
  · rw [if_neg e]
    by_cases e2 : x = a ∧ i0 ≤ k ∧ k < i0 + i
    · rw [if_pos e2, if_pos ⟨e2.1, e2.2.1, by omega⟩]
    · rw [if_neg e2, if_neg]
      rintro ⟨h1, h2, h3⟩
      by_cases e3 : k = i0 + i
      · exact e ⟨h1, e3⟩
      · exact e2 ⟨h1, h2, by omega⟩
/-- a loop that copies -/
theorem zl2_copy {ρ : Type} {f : (Mm → Int32 → Option ρ) → Mm → Int32 → Option ρ} (T : Mm) (a i0 b j0 n : Nat) (ex : Mm → Option ρ) (hab : b ≠ a) (hn : n < 100000) (hs : ∀ (r : Mm → Int32 → Option ρ) (U : Mm) (i : Nat), (∀ x, x ≠ a → U.1 x = T.1 x) → i < n → f r U (nI i) = r (wI U a (i0 + i) (U.1 b (j0 + i))) (nI (i + 1))) (he : ∀ (r : Mm → Int32 → Option ρ) (U : Mm), f r U (nI n) = ex U) : zl2 f FU T 0 = ex (cpR T a i0 b j0 n) := by
  refine zl2_wp (f := f) (P := fun m U x => ∃ i, x = nI i ∧ i + m = n ∧ U = cpR T a i0 b j0 i) (Q := fun z => z = ex (cpR T a i0 b j0 n)) ?_ FU n T 0 (by rw [FU_eq]; omega) ⟨0, rfl, by omega, cpR_0.symm⟩
  rintro m r U x ⟨i, rfl, hi, rfl⟩ hr
  by_cases e : i < n
  · rw [hs r _ i (fun x hx => cpR_o hx) e, cpR_o hab, cpR_w]
    exact hr (m - 1) _ _ (by omega) ⟨i + 1, rfl, by omega, rfl⟩
  · have : i = n := by omega
    subst this
    rw [he]
theorem cpR_M {T : Mm} {b j0 n : Nat} {C : Nat → Int32} (hb : b ≠ 107) (h : ∀ i, i < 9 → T.1 b (j0 + i) = r9 n C i) : cpR T 107 80 b j0 9 = setM T n C := by
  unfold cpR setM
  refine Prod.ext ?_ rfl
  funext x k
  dsimp only
  by_cases e : x = 107 ∧ 80 ≤ k ∧ k < 89
  · rw [if_pos e, if_pos e, h (k - 80) (by omega)]
    unfold r9
    by_cases e2 : k = 82
    · subst e2; rfl
    · rw [if_neg e2, if_neg (by omega)]
  · rw [if_neg e, if_neg e]
/-- the class's past, and the reference's -/
def PP (T : Mm) (n fs : Nat) (H : Nat → Nat → Int32) : Prop := n ≤ 8 ∧ fs < 8 ∧ T.1 12 0 = nI n ∧ T.1 12 1 = nI fs ∧ ∀ k, k < n → CC T (14 + 2 * ((fs + k) % 8)) (H k)
def PM (T : Mm) (n N : Nat) (H : Nat → Nat → Int32) : Prop := T.1 105 23 = nI n ∧ ∀ k, k < n → ∀ i, i < 9 → T.1 112 (9 * k + i) = r9 N (H k) i
def phN (n : Nat) : Nat := if n < 8 then n + 1 else 8
def phH (n : Nat) (H : Nat → Nat → Int32) (C : Nat → Int32) : Nat → Nat → Int32 := if n < 8 then fun k => if k = n then C else H k else fun k => if k = 7 then C else H (k + 1)
def S12 (a : Nat) : Prop := a = 12 ∨ (14 ≤ a ∧ a ≤ 29)
def RP (R : Rf) : Prop := R 12 2 = 13 ∧ (∀ k, k < 8 → R 13 k = 14 + 2 * k) ∧ ∀ k, k < 8 → R (14 + 2 * k) 4 = 14 + 2 * k + 1
theorem Fr.sC {S : Nat → Prop} {T U : Mm} {c : Nat} {C : Nat → Int32} (h : Fr S T U) (h1 : S c) (h2 : S (c + 1)) : Fr S T (setC U c C) := fun b hb => ⟨(setC_o (fun e => hb (by rw [e]; exact h1)) (fun e => hb (by rw [e]; exact h2))).trans (h b hb).1, (h b hb).2⟩
theorem c_push {R : Rf} {T : Mm} {n fs : Nat} {H : Nat → Nat → Int32} {C : Nat → Int32} (hR : RP R) (r8 : R 8 4 = 9) (hp : PP T n fs H) (hC : CC T 8 C) : ∃ T' fs', pX7_push R T 12 8 = some T' ∧ PP T' (phN n) fs' (phH n H C) ∧ Fr S12 T T' := by
  obtain ⟨h1, h2, h3, h4, h5⟩ := hp
  obtain ⟨q1, q2, q3⟩ := hR
  have hm : nI fs + nI n - (nI fs + nI n) / 8 * 8 = nI ((fs + n) % 8) := by
    rw [nI_add]
    exact pk_rem (d := 8) (by omega) (by decide) (by decide)
  have hlt : (fs + n) % 8 < 8 := Nat.mod_lt _ (by decide)
  unfold pX7_push
  rw [h3, h4, hm, ix_nI hlt (by decide), nI_clamp (by omega), q1, q2 _ hlt, c_copy (q3 _ hlt) r8 (by omega) hC, bd1_some]
  have e0 : (setC T (14 + 2 * ((fs + n) % 8)) C).1 12 = T.1 12 := setC_o (by omega) (by omega)
  rw [e0, h3, h4]
  simp only [lt]
  by_cases e : n < 8
  · rw [if_neg (show ¬ (8 : Int32) ≤ nI n from nI_ge (b := 8) e (by decide)), nI_1]
    refine ⟨_, fs, rfl, ?_, (Fr.refl.sC (by unfold S12; omega) (by unfold S12; omega)).sw (by unfold S12; omega)⟩
    unfold phN phH
    rw [if_pos e, if_pos e]
    refine ⟨by omega, h2, wI_s, ?_, ?_⟩
    · rw [wI_n (Or.inr (by decide)), e0, h4]
    · intro k hk
      have hc : ∀ a, a ≠ 12 → (wI (setC T (14 + 2 * ((fs + n) % 8)) C) 12 0 (nI (n + 1))).1 a = (setC T (14 + 2 * ((fs + n) % 8)) C).1 a := fun a ha => by rw [wI_1, up2_row ha]
      by_cases ek : k = n
      · subst ek
        dsimp only
        rw [if_pos rfl]
        exact CC.sC.of (hc _ (by omega)) (hc _ (by omega))
      · dsimp only
        rw [if_neg ek]
        refine (h5 k (by omega)).of ?_ ?_
        · rw [hc _ (by omega), setC_o (by omega) (by omega)]
        · rw [hc _ (by omega), setC_o (by omega) (by omega)]
  · have en : n = 8 := by omega
    subst en
    rw [if_pos (by decide)]
    have hm2 : nI fs + 1 - (nI fs + 1) / 8 * 8 = nI ((fs + 1) % 8) := by
      rw [nI_1]
      exact pk_rem (d := 8) (by omega) (by decide) (by decide)
    rw [hm2]
    refine ⟨_, (fs + 1) % 8, rfl, ?_, (Fr.refl.sC (by unfold S12; omega) (by unfold S12; omega)).sw (by unfold S12; omega)⟩
    unfold phN phH
    rw [if_neg (by decide), if_neg (by decide)]
    refine ⟨by omega, Nat.mod_lt _ (by decide), ?_, wI_s, ?_⟩
    · rw [wI_n (Or.inr (by decide)), e0, h3]
    · intro k hk
      have hc : ∀ a, a ≠ 12 → (wI (setC T (14 + 2 * ((fs + 8) % 8)) C) 12 1 (nI ((fs + 1) % 8))).1 a = (setC T (14 + 2 * ((fs + 8) % 8)) C).1 a := fun a ha => by rw [wI_1, up2_row ha]
      by_cases ek : k = 7
      · subst ek
        dsimp only
        rw [if_pos rfl, show ((fs + 1) % 8 + 7) % 8 = (fs + 8) % 8 by omega]
        exact CC.sC.of (hc _ (by omega)) (hc _ (by omega))
      · dsimp only
        rw [if_neg ek, show ((fs + 1) % 8 + k) % 8 = (fs + (k + 1)) % 8 by omega]
        refine (h5 (k + 1) (by omega)).of ?_ ?_
        · rw [hc _ (by omega), setC_o (by omega) (by omega)]
        · rw [hc _ (by omega), setC_o (by omega) (by omega)]
