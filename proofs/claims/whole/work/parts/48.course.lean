/-! what becomes of a course: the acts and days, once for both programs -/
def flS (F : Nat → Nat) (day : Int32) : Int32 := flI (nI (F 4)) (nI (F 5)) (nI (F 6)) day
/-- what one has in the barrel weighs -/
def wtC (F : Nat → Nat) (C : Nat → Int32) (p : Nat) : Nat := sW (fun i => decide (F (12 + i) = p) && bt (C 1) i) (fun i => F (22 + i)) (F 1)
/-- his joins that break when he drops -/
def brS (F : Nat → Nat) (p : Nat) : Int32 := sB (fun j => decide (F (12 + F (32 + j)) = p) && !decide (nI (F 3) - nI (F (7 + p)) ≤ nI (F (64 + j)))) (F 2)
def dropS (F : Nat → Nat) (C : Nat → Int32) (p : Nat) : Nat → Int32 :=
  if C (4 + p) = 1 ∧ nI (wtC F C p) ≤ flS F (C 0) then uC (uC (uC C 2 (C 2 ||| brS F p)) (4 + p) 2) 3 (C 3 + 1) else C
def jaS (F : Nat → Nat) (i : Nat) : Int32 := sB (fun j => decide (F (32 + j) = i) || decide (F (48 + j) = i)) (F 2)
def goS (F : Nat → Nat) (C : Nat → Int32) (p : Nat) : Int32 × (Nat → Int32) := if C (4 + p) = 0 then (0, dropS F (uC C (4 + p) 1) p) else (1, C)
def frS (C : Nat → Int32) (p : Nat) : Int32 × (Nat → Int32) := if C (4 + p) = 2 then (0, uC C (4 + p) 3) else (1, C)
def unS (F : Nat → Nat) (C : Nat → Int32) (i : Nat) : Int32 × (Nat → Int32) := if bt (C 1) i = false then (1, C) else if C (4 + F (12 + i)) < 2 then (0, dropS F (uC (uC C 1 (C 1 &&& ((1 <<< (nI i &&& 31)) ^^^ (-1 : Int32)))) 2 (C 2 ||| jaS F i)) (F (12 + i))) else (2, C)
def ldS (F : Nat → Nat) (C : Nat → Int32) (i : Nat) : Int32 × (Nat → Int32) := if bt (C 1) i = false then (if C (4 + F (12 + i)) = 0 then (0, uC C 1 (C 1 ||| (1 <<< (nI i &&& 31)))) else (2, C)) else (1, C)
def bdS (F : Nat → Nat) (C : Nat → Int32) (j : Nat) : Int32 × (Nat → Int32) := if bt (C 2) j = false then (1, C) else if bt (C 1) (F (32 + j)) = false then (2, C) else if bt (C 1) (F (48 + j)) = false then (2, C) else if C (4 + F (12 + F (32 + j))) = 0 then (0, uC C 2 (C 2 &&& ((1 <<< (nI j &&& 31)) ^^^ (-1 : Int32)))) else (3, C)
def dayS (F : Nat → Nat) (C : Nat → Int32) : Nat → Int32 := fo (fun p D => dropS F D p) 0 (F 0) (uC C 0 (C 0 + 1))
theorem fo_or (c : Nat → Bool) {n : Nat} (hn : n ≤ 32) (a : Int32) : fo (fun i a => if c i = true then a ||| ((1 : Int32) <<< (nI i &&& 31)) else a) 0 n a = a ||| sB c n := by
  apply b_ext
  intro j hj
  rw [bt_fo c n 0 a (by omega) j hj, b_or, bt_sB c hn hj]
  simp
/-- a counting loop over something kept as the numbers β -/
theorem zl2_forE {α β ρ : Type} {f : (α → Int32 → Option ρ) → α → Int32 → Option ρ} (emb : β → α) (F : Nat → β → β) (ex : β → Option ρ) (n : Nat) (hn : n < 100000) (hs : ∀ (r : α → Int32 → Option ρ) (i : Nat) (b : β), i < n → f r (emb b) (nI i) = r (emb (F i b)) (nI (i + 1))) (he : ∀ (r : α → Int32 → Option ρ) (b : β), f r (emb b) (nI n) = ex b) (b : β) : zl2 f FU (emb b) 0 = ex (fo F 0 n b) := by
  have key : ∀ (k fuel i : Nat) (b : β), i + k = n → k < fuel → zl2 f fuel (emb b) (nI i) = ex (fo F i k b) := by
    intro k
    induction k with
    | zero =>
      intro fuel i b hi hf
      cases fuel with
      | zero => omega
      | succ m =>
        have e : i = n := by omega
        subst e
        rw [zl2_s, he]
        rfl
    | succ k ih =>
      intro fuel i b hi hf
      cases fuel with
      | zero => omega
      | succ m =>
        rw [zl2_s, hs _ i b (by omega)]
        exact ih m (i + 1) (F i b) (by omega) (by omega)
  exact key n FU 0 b (by omega) (by rw [FU_eq]; omega)
/-- Course.weight -/
theorem c_weight {R : Rf} {T : Mm} {f c : Nat} {F : Nat → Nat} {C : Nat → Int32} (hF : CF R T f F) (hv : VF F) (hC : T.1 c 1 = C 1) {p : Nat} (hp : p < 5) : pX1_weight R T c f (nI p) = some (nI (wtC F C p)) := by
  obtain ⟨v0, v1, v2, v3, v4, v5, v6, vs, vo, vj⟩ := hv
  obtain ⟨⟨q5, q6, q7, q8, q9, q10, q11, q12⟩, f0, f1, f2, f3, f4, f14, f15, cs, co, cw, ca, cb, ch⟩ := hF
  unfold pX1_weight wtC
  refine zl2_sum (f := pX1_weight_5 R T c f (nI p) (pX1_weight_53 R T c f (nI p))) _ _ (fun a => some a) (n := F 1) (by omega) ?_ ?_
  · intro r i a hi
    have ho := (vo i hi).1
    unfold pX1_weight_5
    simp (disch := omega) only [lt, jn, bd1_some, bd2_some, ix_nI, ix_lit, nI_clamp, lit_clamp, lit_add, add_lit, nI_add, nI_leI, nI_ltI, nI_eq, lit_le, le_lit, lit_lt, lt_lit, lit_eq, eq_lit, if_pos, if_neg, f1, q8, q9, co, cw, hC, bt_test]
    by_cases h1 : F (12 + i) = p
    · by_cases h2 : bt (C 1) i = false
      · simp [h1, h2]
      · simp [h1, h2]
    · simp [h1]
  · intro r a
    unfold pX1_weight_5
    simp (disch := omega) only [lt, jn, bd1_some, bd2_some, ix_nI, ix_lit, nI_clamp, lit_clamp, lit_add, add_lit, nI_add, nI_leI, nI_ltI, nI_eq, lit_le, le_lit, lit_lt, lt_lit, lit_eq, eq_lit, if_pos, if_neg, f1]
    rfl
