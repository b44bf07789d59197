/-- Course.whoAre -/
theorem c_whoAre {R : Rf} {T : Mm} {c f n : Nat} (hn : T.1 f 0 = nI n) (h5 : n ≤ 5) (so : Int32) : pX1_whoAre R T c f so = some (itI (T.1 (R c 4)) n so) := by
  unfold pX1_whoAre
  refine zl2_for (f := pX1_whoAre_5 R T c f so (pX1_whoAre_38 R T c f so)) (fun i a => if T.1 (R c 4) i = so then a ||| (1 <<< (nI i &&& 31)) else a) (fun a => some a) n (fun _ _ => True) (fun _ _ _ _ => trivial) ?_ ?_ n FU 0 0 (by omega) (by rw [FU_eq]; omega) trivial
  · intro r i a hi _
    unfold pX1_whoAre_5
    rw [hn, if_neg (nI_ge hi (by omega)), ix_nI (by omega) (by omega), nI_clamp (by omega), nI_1]
    by_cases c1 : T.1 (R c 4) i = so
    · rw [if_pos c1, if_pos c1]
    · rw [if_neg c1, if_neg c1]
  · intro r a _
    unfold pX1_whoAre_5
    rw [hn, if_pos (nI_le (Nat.le_refl n) (by omega))]
    rfl
/-- GoingOverModel.who0 -/
theorem m_who0 {R : Rf} {T : Mm} {n a0 : Nat} (hn : T.1 (R a0 6) 0 = nI n) (h5 : n ≤ 5) (so : Int32) : pX12_who0 R T a0 so = some (itI (fun i => T.1 (R a0 6) (84 + i)) n so) := by
  unfold pX12_who0
  have h0 : (0 : Int32).toNatClampNeg = 0 := rfl
  refine zl2_for (f := pX12_who0_4 R T a0 so (pX12_who0_43 R T a0 so)) (fun i a => if T.1 (R a0 6) (84 + i) = so then a ||| (1 <<< (nI i &&& 31)) else a) (fun a => some a) n (fun _ _ => True) (fun _ _ _ _ => trivial) ?_ ?_ n FU 0 0 (by omega) (by rw [FU_eq]; omega) trivial
  · intro r i a hi _
    unfold pX12_who0_4
    have e : (84 : Int32) + nI i = nI (84 + i) := nI_add 84 i
    rw [ix_ok (by decide), h0, hn, if_neg (nI_ge hi (by omega)), e, ix_nI (by omega) (by omega), nI_clamp (by omega), nI_1]
    by_cases c : T.1 (R a0 6) (84 + i) = so
    · rw [if_pos c, if_pos c]
    · rw [if_neg c, if_neg c]
      show r (a ||| 0) (nI (i + 1)) = r a (nI (i + 1))
      rw [Int32.or_zero]
  · intro r a _
    unfold pX12_who0_4
    rw [ix_ok (by decide), h0, hn, if_pos (nI_le (Nat.le_refl n) (by omega))]
    rfl
/-- the joins at an item, as bits -/
def jaI (jf js : Nat → Int32) (n : Nat) (x : Int32) : Int32 := fo (fun i a => if jf i = x ∨ js i = x then a ||| (1 <<< (nI i &&& 31)) else a) 0 n 0
/-- Falls.joinsAt -/
theorem c_joinsAt {R : Rf} {T : Mm} {f n : Nat} (hn : T.1 f 2 = nI n) (h16 : n ≤ 16) (x : Int32) : pX3_joinsAt R T f x = some (jaI (T.1 (R f 10)) (T.1 (R f 11)) n x) := by
  unfold pX3_joinsAt
  refine zl2_for (f := pX3_joinsAt_4 R T f x (pX3_joinsAt_44 R T f x)) (fun i a => if T.1 (R f 10) i = x ∨ T.1 (R f 11) i = x then a ||| (1 <<< (nI i &&& 31)) else a) (fun a => some a) n (fun _ _ => True) (fun _ _ _ _ => trivial) ?_ ?_ n FU 0 0 (by omega) (by rw [FU_eq]; omega) trivial
  · intro r i a hi _
    unfold pX3_joinsAt_4 pX3_joinsAt_32
    rw [hn, if_neg (nI_ge hi (by omega)), ix_nI (by omega) (by omega), ix_nI (by omega) (by omega), nI_clamp (by omega), nI_1]
    by_cases c : T.1 (R f 10) i = x
    · rw [if_pos c, if_pos (Or.inl c)]
    · rw [if_neg c]
      by_cases d : T.1 (R f 11) i = x
      · rw [if_pos d, if_pos (Or.inr d)]
      · rw [if_neg d, if_neg (by rintro (z | z); exact c z; exact d z)]
  · intro r a _
    unfold pX3_joinsAt_4
    rw [hn, if_pos (nI_le (Nat.le_refl n) (by omega))]
    rfl
/-- Falls.hasPerson, hasItem, hasJoin -/
theorem c_hasPerson {R : Rf} {T : Mm} {f n : Nat} (hn : T.1 f 0 = nI n) (hb : n < 2 ^ 31) (x : Int32) : pX3_hasPerson R T f x = some (if ∃ j, j < n ∧ x = nI j then 1 else 0) := by
  unfold pX3_hasPerson
  rw [hn]
  rcases pk_ix x hb with h | h | ⟨j, hj, rfl⟩
  · rw [if_pos h, if_neg (by rintro ⟨j, hj, rfl⟩; exact nI_pos (by omega) h)]
  · by_cases h0 : x < 0
    · rw [if_pos h0, if_neg (by rintro ⟨j, hj, rfl⟩; exact nI_pos (by omega) h0)]
    · rw [if_neg h0, if_pos h, if_neg (by rintro ⟨j, hj, rfl⟩; exact nI_ge hj hb h)]
  · rw [if_neg (nI_pos (by omega)), if_neg (nI_ge hj hb), if_pos ⟨j, hj, rfl⟩]
