/-! a SENTENCE: the stack machine at the TOKENS (ops and codes: latest first) -/
abbrev Cod := List (Nat × Nat × Nat)
abbrev SSt := Bool × List Nat × Cod × Nat × Nat × Nat
def ntS : List Nat → Cod → Nat → List Nat × Cod × Nat
  | [], c, d => ([], c, d)
  | x :: o, c, d => if x = 20 then ntS o ((20, 0, 0) :: c) (d - 1) else (x :: o, c, d)
def joS (m : Nat) : List Nat → Cod → List Nat × Cod
  | [], c => ([], c)
  | x :: o, c => if x = 21 ∨ (x = 22 ∧ m = 22) then joS m o ((x, 0, 0) :: c) else (x :: o, c)
theorem ntS_20 {o : List Nat} {c : Cod} {d : Nat} : ntS (20 :: o) c d = ntS o ((20, 0, 0) :: c) (d - 1) := if_pos rfl
theorem ntS_no {x : Nat} {o : List Nat} {c : Cod} {d : Nat} (h : x ≠ 20) : ntS (x :: o) c d = (x :: o, c, d) := if_neg h
theorem joS_y {m x : Nat} {o : List Nat} {c : Cod} (h : x = 21 ∨ (x = 22 ∧ m = 22)) : joS m (x :: o) c = joS m o ((x, 0, 0) :: c) := if_pos h
theorem joS_n {m x : Nat} {o : List Nat} {c : Cod} (h : ¬ (x = 21 ∨ (x = 22 ∧ m = 22))) : joS m (x :: o) c = (x :: o, c) := if_neg h
/-- an operand is wanted -/
def opS (b : Nat → Nat) (L M : Nat) (F : Nat → Nat) (N : Nat → List Nat) (o : List Nat) (c : Cod) (ones d t : Nat) : Pa SSt :=
  if (kkS b L M t = 4 ∧ 13 ≤ vvS b L t) ∨ (kkS b L M t = 5 ∧ vvS b L t = 40) then
    (if ones = 20 ∨ 8 < d then paB 4 (psS b L M t)
    else if kkS b L M t = 5 then paO (false, 23 :: o, c, ones + 1, d + 1, t + 1)
    else if vvS b L t = 13 then paO (false, 20 :: o, c, ones + 1, d + 1, t + 1)
    else if vvS b L t < 19 then paO (true, o, (vvS b L t - 14, 0, 0) :: c, ones + 1, d, t + 1)
    else if vvS b L t = 19 then paD (naP b L M (t + 1) (fnI F N (wwS b L (t + 1)))) fun i => paO (true, o, (5, 0, i) :: c, ones + 1, d, t + 2)
    else if kkS b L M (t + 1) = 5 ∧ 60 ≤ vvS b L (t + 1) ∧ vvS b L (t + 1) ≤ 62 then paD (nuP b L M (t + 2) 0 999) fun v => paO (true, o, (vvS b L t - 14, vvS b L (t + 1), v) :: c, ones + 1, d, t + 3)
    else paB 1 (psS b L M (t + 1)))
  else paB 1 (psS b L M t)
/-- behind an operand -/
def beS (b : Nat → Nat) (L M : Nat) (o : List Nat) (c : Cod) (ones d t : Nat) : Pa (Sum SSt (Cod × Nat)) :=
  if kkS b L M t = 0 ∧ ¬ M < L then (if (joS 22 (ntS o c d).1 (ntS o c d).2.1).1 = [] then paO (Sum.inr ((joS 22 (ntS o c d).1 (ntS o c d).2.1).2, ones)) else paB 1 (psS b L M t))
  else if kkS b L M t = 4 ∧ vvS b L t = 12 then paO (Sum.inl (false, 21 :: (joS 21 (ntS o c d).1 (ntS o c d).2.1).1, (joS 21 (ntS o c d).1 (ntS o c d).2.1).2, ones, (ntS o c d).2.2, t + 1))
  else if kkS b L M t = 4 ∧ vvS b L t = 11 then paO (Sum.inl (false, 22 :: (joS 22 (ntS o c d).1 (ntS o c d).2.1).1, (joS 22 (ntS o c d).1 (ntS o c d).2.1).2, ones, (ntS o c d).2.2, t + 1))
  else if (kkS b L M t = 5 ∧ vvS b L t = 41) ∧ (joS 22 (ntS o c d).1 (ntS o c d).2.1).1 ≠ [] then paO (Sum.inl (true, (joS 22 (ntS o c d).1 (ntS o c d).2.1).1.tail, (joS 22 (ntS o c d).1 (ntS o c d).2.1).2, ones, (ntS o c d).2.2 - 1, t + 1))
  else paB 1 (psS b L M t)
def stS (b : Nat → Nat) (L M : Nat) (F : Nat → Nat) (N : Nat → List Nat) (s : SSt) : Pa (Sum SSt (Cod × Nat)) :=
  if s.1 = true then beS b L M s.2.1 s.2.2.1 s.2.2.2.1 s.2.2.2.2.1 s.2.2.2.2.2 else paD (opS b L M F N s.2.1 s.2.2.1 s.2.2.2.1 s.2.2.2.2.1 s.2.2.2.2.2) fun s' => paO (Sum.inl s')
def ruS (b : Nat → Nat) (L M : Nat) (F : Nat → Nat) (N : Nat → List Nat) : Nat → SSt → Pa (Cod × Nat)
  | 0, _ => paB 1 0
  | n + 1, s => paD (stS b L M F N s) fun r => Sum.elim (ruS b L M F N n) paO r
theorem ruS_succ {b : Nat → Nat} {L M : Nat} {F : Nat → Nat} {N : Nat → List Nat} {n : Nat} {s : SSt} : ruS b L M F N (n + 1) s = paD (stS b L M F N s) fun r => Sum.elim (ruS b L M F N n) paO r := rfl
/-- s comes to s' in j steps -/
def goT (b : Nat → Nat) (L M : Nat) (F : Nat → Nat) (N : Nat → List Nat) (s s' : SSt) (j : Nat) : Prop := ∀ n, ruS b L M F N (n + j) s = ruS b L M F N n s'
theorem goT_0 {b : Nat → Nat} {L M : Nat} {F : Nat → Nat} {N : Nat → List Nat} {s : SSt} : goT b L M F N s s 0 := fun _ => rfl
theorem goT_t {b : Nat → Nat} {L M : Nat} {F : Nat → Nat} {N : Nat → List Nat} {s s' s'' : SSt} {i j : Nat} (h : goT b L M F N s s' i) (h' : goT b L M F N s' s'' j) : goT b L M F N s s'' (j + i) := fun n => by
  rw [← Nat.add_assoc, h (n + j), h' n]
theorem goT_1 {b : Nat → Nat} {L M : Nat} {F : Nat → Nat} {N : Nat → List Nat} {s s' : SSt} (h : stS b L M F N s = paO (Sum.inl s')) : goT b L M F N s s' 1 := fun n => by
  rw [ruS_succ, h, paD_o]
  rfl
/-- s comes to a fault after j steps -/
def baT (b : Nat → Nat) (L M : Nat) (F : Nat → Nat) (N : Nat → List Nat) (s : SSt) (k p j : Nat) : Prop := ∀ n, ruS b L M F N (n + j) s = paB k p
theorem baT_1 {b : Nat → Nat} {L M : Nat} {F : Nat → Nat} {N : Nat → List Nat} {s : SSt} {k p : Nat} (h : stS b L M F N s = paB k p) : baT b L M F N s k p 1 := fun n => by
  rw [ruS_succ, h, paD_b]
theorem baT_t {b : Nat → Nat} {L M : Nat} {F : Nat → Nat} {N : Nat → List Nat} {s s' : SSt} {k p i j : Nat} (h : goT b L M F N s s' i) (h' : baT b L M F N s' k p j) : baT b L M F N s k p (j + i) := fun n => by
  rw [← Nat.add_assoc, h (n + j), h' n]
