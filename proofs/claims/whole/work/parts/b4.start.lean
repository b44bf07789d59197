/-! the memory at the start, and that what holds between two calls holds there -/
def tT : Mm := (pX10_initZ reX10 zeroM 0).getD zeroM
def tM : Mm := (pX12_initZ reX12 zeroM 0).getD zeroM
theorem some_get {α : Type} {o : Option α} {d : α} (h : o.isSome = true) : o = some (o.getD d) := by
  cases o with
  | none => cases h
  | some a => rfl
theorem tT_ok : pX10_initZ reX10 zeroM 0 = some tT := some_get ini10
theorem tM_ok : pX12_initZ reX12 zeroM 0 = some tM := some_get ini12
def gv0 : Nat → Int32 := fun k => if k = 15 then 0 else -1
def fl0 : Nat → Int32 := fun k => if k = 3 then 10 else if k = 4 then 20 else 0
def tld0 : Nat → Int32 := upd (upd (upd (upd (fun _ => 0) (nI 0).toNatClampNeg (-1)) (nI 1).toNatClampNeg (-1)) (nI 2).toNatClampNeg (-1)) (nI 3).toNatClampNeg (-1)
def Tzi (A B : Mm) (a : Nat) : Nat → Int32 := if a < 105 then (if a = 0 then gv0 else if a < 8 then A.1 (a - 1) else if a = 78 then tld0 else if a = 47 ∨ a = 63 ∨ a = 79 ∨ a = 88 then fl0 else fun _ => 0) else if a < 124 then B.1 (a - 105) else fun _ => 0
def Tzj (A B : Mm) (a : Nat) : Nat → Int64 := if a < 105 then (if 0 < a ∧ a < 8 then A.2 (a - 1) else fun _ => 0) else if a < 124 then B.2 (a - 105) else fun _ => 0
def Tz (A B : Mm) : Mm := (Tzi A B, Tzj A B)
def T0 : Mm := Tz tT tM
theorem Tz_105 (A B : Mm) (k : Nat) : (Tz A B).1 105 k = B.1 0 k := rfl
theorem Tz_107 (A B : Mm) (k : Nat) : (Tz A B).1 107 k = B.1 2 k := rfl
theorem Tz_123 (A B : Mm) (k : Nat) : (Tz A B).1 123 k = B.1 18 k := rfl
theorem Tz_7 (A B : Mm) (k : Nat) : (Tz A B).2 7 k = A.2 6 k := rfl
theorem Tz_1 (A B : Mm) (k : Nat) : (Tz A B).1 1 k = A.1 0 k := rfl
theorem Tz_111 (A B : Mm) (k : Nat) : (Tz A B).2 111 k = B.2 6 k := rfl
theorem tT_kw : ∀ k, k < 24 → tT.2 6 k = w5 (kwk k) := by decide +kernel
theorem tM_kw : ∀ k, k < 24 → tM.2 6 k = w8 (kwk k) := by decide +kernel
theorem tM_s : ∀ k, k < 90 → tM.1 2 k = if k = 3 then 10 else if k = 4 then 20 else 0 := by decide +kernel
theorem tM_f : ∀ k, k < 50 → k = 2 ∨ k = 15 ∨ (23 ≤ k ∧ k ≤ 31) ∨ k = 35 ∨ k = 39 → tM.1 0 k = 0 := by decide +kernel
theorem tM_i : ∀ k, k < 2 → tM.1 18 k = 0 := by decide +kernel
theorem tT_n : tT.1 0 1 = 0 := by decide +kernel
theorem T0_105 (k : Nat) : T0.1 105 k = tM.1 0 k := Tz_105 tT tM k
theorem T0_107 (k : Nat) : T0.1 107 k = tM.1 2 k := Tz_107 tT tM k
theorem tld_m : ∀ j, j < 4 → tld0 j = -1 := by decide +kernel
theorem F0_nI : ∀ k, k < 80 → (if k = 3 then 10 else if k = 4 then 20 else (0 : Int32)) = nI (F0f k) := by decide +kernel
theorem bt_zero {i : Nat} : bt 0 i = false := by simp [bt]
theorem z0 : (∃ d, d ≤ 400 ∧ (0 : Int32) = nI d) := ⟨0, by decide, rfl⟩
theorem iv_A : jA F0f (fun _ => []) (fun _ => 0) 0 (fun _ _ => 0) [] := ⟨F0_v, ⟨z0, fun i h => by rw [bt_zero] at h; exact absurd h (by decide), fun j h => by rw [bt_zero] at h; exact absurd h (by decide), fun p _ => Or.inl rfl, fun j h => absurd h (by show ¬ j < 0; omega)⟩, by decide, fun k h => absurd h (by omega), by decide, Or.inl rfl⟩
theorem iv_R : RR R0 79 88 97 101 := ⟨fun _ _ _ => rfl, by decide, by decide, by decide, by decide, by decide, by decide⟩
theorem iv_B : jB R0 T0 79 F0f (fun _ => []) (fun _ => 0) 0 0 (fun _ _ => 0) := by
  have n0 : ∀ {P : Nat → Prop}, ∀ p, p < F0f 0 → P p := fun p h => absurd h (by show ¬ p < 0; omega)
  have n1 : ∀ {P : Nat → Prop}, ∀ p, p < F0f 1 → P p := fun p h => absurd h (by show ¬ p < 0; omega)
  have n2 : ∀ {P : Nat → Prop}, ∀ p, p < F0f 2 → P p := fun p h => absurd h (by show ¬ p < 0; omega)
  refine ⟨⟨⟨iv_R.rg (by omega), rfl, rfl, rfl, rfl, rfl, rfl, rfl, n0, n1, n1, n2, n2, n2⟩, rfl, n0, n1⟩, ⟨fun k _ => rfl, fun k _ => rfl⟩, by decide, by decide, rfl, rfl, fun k h => absurd h (by omega)⟩
theorem iv_C : jC T0 F0f (fun _ => []) (fun _ => 0) 0 (fun _ _ => 0) := by
  refine ⟨fun k hk => ?_, ⟨?_, ?_, ?_, ?_, fun p hp => ?_⟩, ⟨?_, fun k h => absurd h (by omega)⟩, fun p h => absurd h (by show ¬ p < 0; omega), fun p h => absurd h (by show ¬ p < 0; omega)⟩
  · rw [T0_107, tM_s k (by omega)]
    exact F0_nI k hk
  · rw [T0_107, tM_s 80 (by omega)]; rfl
  · rw [T0_107, tM_s 81 (by omega)]; rfl
  · rw [T0_107, tM_s 82 (by omega)]; rfl
  · rw [T0_107, tM_s 83 (by omega)]; rfl
  · rw [T0_107, tM_s (84 + p) (by omega), if_neg (by omega), if_neg (by omega)]
  · rw [T0_105, tM_f 23 (by omega) (by omega)]; rfl
theorem iv_D : jD T0 (fun _ => 0) 0 := ⟨⟨by decide, (Tz_1 tT tM 1).trans tT_n, fun k h => absurd h (by omega), fun k h => (Tz_7 tT tM k).trans (tT_kw k h)⟩, by rw [T0_105, tM_f 2 (by omega) (by omega)]; rfl, fun k h => absurd h (by omega), fun k h => (Tz_111 tT tM k).trans (tM_kw k h)⟩
theorem iv_E : jE T0 97 [] 0 := ⟨⟨rfl, rfl, trivial⟩, by rw [T0_107, tM_s 89 (by omega)]; rfl, trivial⟩
theorem iv_G : jG T0 := by
  refine ⟨?_, ?_, ?_, ?_, ?_, fun j hj => ?_⟩
  · rw [T0_105, tM_f 15 (by omega) (by omega)]; rfl
  · rw [T0_105, T0_105, tM_f 26 (by omega) (by omega), if_pos rfl]; rfl
  · rw [T0_105, T0_105, tM_f 27 (by omega) (by omega), if_pos rfl]; rfl
  · rw [T0_105, T0_105, tM_f 31 (by omega) (by omega), if_pos rfl]; rfl
  · rw [T0_105, T0_105, tM_f 31 (by omega) (by omega), if_pos rfl]; rfl
  · rw [T0_105, tM_f 39 (by omega) (by omega), if_pos rfl]; exact tld_m j hj
theorem iv_T : jT T0 [] := ⟨⟨rfl, fun k h => absurd h (by show ¬ k < 0; omega)⟩, ⟨by rw [T0_105, tM_f 35 (by omega) (by omega)]; rfl, fun k h => absurd h (by show ¬ k < 0; omega)⟩, by decide⟩
theorem iv_I : jI R0 T0 := by
  intro k hk
  have e : T0.1 123 k = 0 := (Tz_123 tT tM k).trans (tM_i k hk)
  refine ⟨?_, Or.inl e⟩
  rw [e]
  have : k = 0 ∨ k = 1 := by omega
  rcases this with rfl | rfl <;> rfl
theorem iv0 : IV R0 T0 := ⟨79, 88, 97, 101, F0f, _, _, 0, 0, _, _, 0, [], 0, [], iv_R, iv_A, iv_B, iv_C, iv_D, iv_E, iv_G, iv_T, iv_I⟩
theorem ty0a : ∀ i, i < 125 → ∀ k, k < 64 → rk (kdL.getD i 999) k = 999 ∨ kdL.getD (R0 i k) 999 = rk (kdL.getD i 999) k := by decide +kernel
theorem ty0b : ∀ i, i < 125 → (kdL.getD i 999 ≠ 50008 ∧ kdL.getD i 999 ≠ 60002 ∧ kdL.getD i 999 ≠ 70005) ∨ i = 13 ∨ i = 36 ∨ i = 45 := by decide +kernel
theorem getD_far {l : List Nat} {k d : Nat} (h : l.length ≤ k) : l.getD k d = d := by
  rw [List.getD_eq_getElem?_getD, List.getElem?_eq_none h]
  rfl
theorem ty0 {g : Gl} (h : g.2.2.2.1 = kdL) : Ty g R0 := by
  intro i k hk
  unfold kd at hk ⊢
  rw [h] at hk ⊢
  have hl : kdL.length = 125 := by decide +kernel
  rcases Nat.lt_or_ge i 125 with hi | hi
  · rcases Nat.lt_or_ge k 64 with q | q
    · exact (ty0a i hi k q).resolve_left hk
    · rcases ty0b i hi with c | rfl | rfl | rfl
      · exact absurd (rk_far c q) hk
      · rw [show R0 13 k = 14 from getD_far (Nat.le_trans (show 8 ≤ 64 by decide) q)]
        rfl
      · rw [show R0 36 k = 37 from getD_far (Nat.le_trans (show 5 ≤ 64 by decide) q)]
        rfl
      · rw [show R0 45 k = 46 from getD_far (Nat.le_trans (show 2 ≤ 64 by decide) q)]
        rfl
  · exfalso
    apply hk
    rw [getD_far (by rw [hl]; exact hi)]
    unfold rk
    rw [if_neg (by decide), if_neg (by decide), if_neg (by decide), if_neg (by decide)]
