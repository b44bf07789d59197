/-! words as numbers of digits: five bits a letter (the class), eight (the reference) -/
def spB (B o N : Nat) : Nat → List Nat
  | 0 => []
  | k + 1 => (if N / B ^ k % B = 0 then [] else [o + N / B ^ k % B]) ++ spB B o N k
def enB (B o : Nat) (w : List Nat) : Nat := w.foldl (fun a c => a * B + (c - o)) 0
theorem enB_snoc {B o : Nat} {w : List Nat} {c : Nat} : enB B o (w ++ [c]) = enB B o w * B + (c - o) := by
  unfold enB
  rw [List.foldl_append]
  rfl
theorem spB_0 {B o : Nat} : ∀ k, spB B o 0 k = []
  | 0 => rfl
  | k + 1 => by
    unfold spB
    rw [Nat.zero_div, Nat.zero_mod, if_pos rfl, spB_0 k]
    rfl
theorem spB_snoc {B o a d : Nat} (hB : 0 < B) (hd : d < B) : ∀ k, spB B o (a * B + d) (k + 1) = spB B o a k ++ (if d = 0 then [] else [o + d])
  | 0 => by
    unfold spB
    rw [Nat.pow_zero, Nat.div_one, Nat.mul_add_mod_self_right, Nat.mod_eq_of_lt hd]
    unfold spB
    simp
  | k + 1 => by
    have h1 : (a * B + d) / B ^ (k + 1) = a / B ^ k := by
      rw [Nat.pow_succ, Nat.mul_comm (B ^ k) B, ← Nat.div_div_eq_div_mul, Nat.mul_comm a B, Nat.mul_add_div hB, Nat.div_eq_of_lt hd, Nat.add_zero]
    have ih := spB_snoc (o := o) (a := a) hB hd k
    show (if (a * B + d) / B ^ (k + 1) % B = 0 then [] else [o + (a * B + d) / B ^ (k + 1) % B]) ++ spB B o (a * B + d) (k + 1) = ((if a / B ^ k % B = 0 then [] else [o + a / B ^ k % B]) ++ spB B o a k) ++ (if d = 0 then [] else [o + d])
    rw [h1, ih, List.append_assoc]
theorem sp_en {B o : Nat} (hB : 0 < B) : ∀ (n : Nat) (w : List Nat), w.length = n → (∀ c, c ∈ w → o < c ∧ c - o < B) → ∀ k, n ≤ k → spB B o (enB B o w) k = w := by
  intro n
  induction n with
  | zero =>
    intro w hw _ k _
    have : w = [] := List.eq_nil_of_length_eq_zero hw
    subst this
    exact spB_0 k
  | succ n ih =>
    intro w hw hc k hk
    have hne : w ≠ [] := by
      intro z
      rw [z] at hw
      cases hw
    have e := List.dropLast_concat_getLast hne
    obtain ⟨k, rfl⟩ : ∃ k', k = k' + 1 := ⟨k - 1, by omega⟩
    have hl := hc (w.getLast hne) (List.getLast_mem hne)
    rw [← e, enB_snoc, spB_snoc hB hl.2, ih w.dropLast (by rw [List.length_dropLast]; omega) (fun c h => hc c (List.dropLast_subset w h)) k (by omega), if_neg (by omega)]
    congr 2
    omega
theorem enB_lt {B o : Nat} (hB : 0 < B) : ∀ (n : Nat) (w : List Nat), w.length = n → (∀ c, c ∈ w → o < c ∧ c - o < B) → enB B o w < B ^ n := by
  intro n
  induction n with
  | zero =>
    intro w hw _
    have : w = [] := List.eq_nil_of_length_eq_zero hw
    subst this
    exact Nat.one_pos
  | succ n ih =>
    intro w hw hc
    have hne : w ≠ [] := by
      intro z
      rw [z] at hw
      cases hw
    have e := List.dropLast_concat_getLast hne
    have hl := hc (w.getLast hne) (List.getLast_mem hne)
    have h1 := ih w.dropLast (by rw [List.length_dropLast]; omega) (fun c h => hc c (List.dropLast_subset w h))
    rw [← e, enB_snoc, Nat.pow_succ]
    have h2 : (enB B o w.dropLast + 1) * B ≤ B ^ n * B := Nat.mul_le_mul_right B h1
    rw [Nat.add_mul, Nat.one_mul] at h2
    omega
/-- a WORD -/
def IW (w : List Nat) : Prop := 1 ≤ w.length ∧ w.length ≤ 7 ∧ ∀ c, c ∈ w → 97 ≤ c ∧ c ≤ 122
def w5 (w : List Nat) : Int64 := lN (enB 32 96 w)
def w8 (w : List Nat) : Int64 := lN (enB 256 0 w)
theorem IW.c5 {w : List Nat} (h : IW w) : ∀ c, c ∈ w → 96 < c ∧ c - 96 < 32 := fun c hc => by have := h.2.2 c hc; omega
theorem IW.c8 {w : List Nat} (h : IW w) : ∀ c, c ∈ w → 0 < c ∧ c - 0 < 256 := fun c hc => by have := h.2.2 c hc; omega
theorem IW.lt5 {w : List Nat} (h : IW w) : enB 32 96 w < 2 ^ 35 := by
  have h1 := enB_lt (B := 32) (o := 96) (by decide) w.length w rfl h.c5
  have h2 : 32 ^ w.length ≤ 32 ^ 7 := Nat.pow_le_pow_right (by decide) h.2.1
  exact Nat.lt_of_lt_of_le h1 h2
theorem IW.lt8 {w : List Nat} (h : IW w) : enB 256 0 w < 2 ^ 56 := by
  have h1 := enB_lt (B := 256) (o := 0) (by decide) w.length w rfl h.c8
  have h2 : 256 ^ w.length ≤ 256 ^ 7 := Nat.pow_le_pow_right (by decide) h.2.1
  exact Nat.lt_of_lt_of_le h1 h2
theorem w5_inj {w v : List Nat} (h : IW w) (h' : IW v) : w5 w = w5 v ↔ w = v := by
  constructor
  · intro e
    have e2 := (pk_lEQ (by have := h.lt5; omega) (by have := h'.lt5; omega)).mp e
    have a := sp_en (B := 32) (o := 96) (by decide) w.length w rfl h.c5 7 h.2.1
    have b := sp_en (B := 32) (o := 96) (by decide) v.length v rfl h'.c5 7 h'.2.1
    rw [e2, b] at a
    exact a.symm
  · intro e
    rw [e]
theorem w8_inj {w v : List Nat} (h : IW w) (h' : IW v) : w8 w = w8 v ↔ w = v := by
  constructor
  · intro e
    have e2 := (pk_lEQ (by have := h.lt8; omega) (by have := h'.lt8; omega)).mp e
    have a := sp_en (B := 256) (o := 0) (by decide) w.length w rfl h.c8 7 h.2.1
    have b := sp_en (B := 256) (o := 0) (by decide) v.length v rfl h'.c8 7 h'.2.1
    rw [e2, b] at a
    exact a.symm
  · intro e
    rw [e]
/-- the class's name and the reference's are of one WORD -/
def NR (a b : Int64) : Prop := ∃ w, IW w ∧ a = w5 w ∧ b = w8 w
theorem NR.eq {a b c d : Int64} (h : NR a b) (h' : NR c d) : a = c ↔ b = d := by
  obtain ⟨w, hw, rfl, rfl⟩ := h
  obtain ⟨v, hv, rfl, rfl⟩ := h'
  rw [w5_inj hw hv, w8_inj hw hv]
/-! MEAN: the greatest common divisor by both ways -/
def comK (x0 x1 : Int32) : Option Int32 := zl1 (fun (r : Int32 → Option Int32) (x2 : Int32) => if x2 ≤ 1 then some 1 else nz x2 (if (x0 - x0 / x2 * x2) = 0 then nz x2 (if (x1 - x1 / x2 * x2) = 0 then some x2 else r (x2 + (-1))) else r (x2 + (-1)))) FU x1
theorem com_K {R : Rf} {T : Mm} {x0 x1 : Int32} : pX11_commonOf R T x0 x1 = comK x0 x1 := rfl
def euK (x3 x4 : Int32) : Option Int32 := zl2 (fun (r : Int32 → Int32 → Option Int32) (x3 x4 : Int32) => if x4 = 0 then some x3 else nz x4 (r x4 (x3 - x3 / x4 * x4))) FU x3 x4
theorem gcd_all : ∀ n, n < 11 → ∀ a, a < 201 → (n = 0 ∨ (comK (nI a) (nI n) = euK (nI n) (nI a) ∧ comK (nI a) (nI n) ≠ none ∧ comK (nI a) (nI n) ≠ some 0)) := by decide +kernel
theorem eu_K {R : Rf} {x1 x2 : Int32} {ex : Mm → Int32 → Option (Int32 × Mm)} {T : Mm} : ∀ (fuel : Nat) (x3 x4 : Int32), zl3 (pX12_mean_55 R 105 x1 x2 ex) fuel T x3 x4 = bd1 (zl2 (fun (r : Int32 → Int32 → Option Int32) (x3 x4 : Int32) => if x4 = 0 then some x3 else nz x4 (r x4 (x3 - x3 / x4 * x4))) fuel x3 x4) (fun d => ex T d)
  | 0, _, _ => rfl
  | n + 1, x3, x4 => by
    rw [zl3_s, zl2_s]
    unfold pX12_mean_55
    by_cases e : x4 = 0
    · rw [if_pos e, if_pos e, bd1_some]
    · rw [if_neg e, if_neg e]
      unfold nz
      rw [if_neg e, if_neg e]
      exact eu_K (R := R) (x1 := x1) (x2 := x2) n x4 _
