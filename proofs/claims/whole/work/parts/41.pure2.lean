theorem and1 (y : Int32) : y &&& 1 = 0 ∨ y &&& 1 = 1 := by
  obtain ⟨j, hj, e⟩ := pk_andE y (m := 1) 1 (by decide)
  rw [e]
  rcases (show j = 0 ∨ j = 1 by omega) with rfl | rfl
  · exact Or.inl rfl
  · exact Or.inr rfl
/-- GoingOverModel.bitOf -/
theorem m_bitOf {R : Rf} {T : Mm} {x k : Int32} : pX12_bitOf R T x k = some (if ((x >>> (k &&& 31)) &&& 1) = 0 then 0 else 1) := by
  unfold pX12_bitOf
  rcases and1 (x >>> (k &&& 31)) with h | h
  · rw [h, if_neg (by decide), if_pos rfl]
  · rw [h, if_pos rfl, if_neg (by decide)]
/-- what the items of a set weigh -/
def wtI (wt : Nat → Int32) (n : Nat) (set : Int32) : Int32 := fo (fun i a => if ((set >>> (nI i &&& 31)) &&& 1) = 0 then a else a + wt i) 0 n 0
theorem wtI_congr {wt wt' : Nat → Int32} {n : Nat} {set : Int32} (h : ∀ i, i < n → wt i = wt' i) : wtI wt n set = wtI wt' n set := fo_congr n 0 0 (fun j b _ h2 => by rw [h j (by omega)])
/-- Falls.weightOf -/
theorem c_weightOf {R : Rf} {T : Mm} {f n : Nat} (hn : T.1 f 1 = nI n) (h10 : n ≤ 10) (set : Int32) : pX3_weightOf R T f set = some (wtI (T.1 (R f 9)) n set) := by
  unfold pX3_weightOf
  refine zl2_for (f := pX3_weightOf_4 R T f set (pX3_weightOf_35 R T f set)) (fun i a => if ((set >>> (nI i &&& 31)) &&& 1) = 0 then a else a + T.1 (R f 9) i) (fun a => some a) n (fun _ _ => True) (fun _ _ _ _ => trivial) ?_ ?_ n FU 0 0 (by omega) (by rw [FU_eq]; omega) trivial
  · intro r i a hi _
    unfold pX3_weightOf_4
    rw [hn, if_neg (nI_ge hi (by omega)), ix_nI (by omega) (by omega), nI_clamp (by omega), nI_1]
    by_cases c : ((set >>> (nI i &&& 31)) &&& 1) = 0
    · rw [if_pos c, if_pos c]
    · rw [if_neg c, if_neg c]
  · intro r a _
    unfold pX3_weightOf_4
    rw [hn, if_pos (nI_le (Nat.le_refl n) (by omega))]
    rfl
/-- GoingOverModel.weighsIn -/
theorem m_weighsIn {R : Rf} {T : Mm} {n a0 : Nat} (hn : T.1 (R a0 6) 1 = nI n) (h10 : n ≤ 10) (set : Int32) : pX12_weighsIn R T a0 set = some (wtI (fun i => T.1 (R a0 6) (22 + i)) n set) := by
  unfold pX12_weighsIn
  have h1 : (1 : Int32).toNatClampNeg = 1 := rfl
  refine zl2_for (f := pX12_weighsIn_4 R T a0 set (pX12_weighsIn_44 R T a0 set)) (fun i a => if ((set >>> (nI i &&& 31)) &&& 1) = 0 then a else a + T.1 (R a0 6) (22 + i)) (fun a => some a) n (fun _ _ => True) (fun _ _ _ _ => trivial) ?_ ?_ n FU 0 0 (by omega) (by rw [FU_eq]; omega) trivial
  · intro r i a hi _
    unfold pX12_weighsIn_4
    have e : (22 : Int32) + nI i = nI (22 + i) := nI_add 22 i
    rw [ix_ok (by decide), h1, hn, if_neg (nI_ge hi (by omega)), m_bitOf]
    show (if (if ((set >>> (nI i &&& 31)) &&& 1) = 0 then (0 : Int32) else 1) = 0 then _ else _) = _
    rw [e, ix_nI (by omega) (by omega), nI_clamp (by omega), nI_1]
    by_cases c : ((set >>> (nI i &&& 31)) &&& 1) = 0
    · rw [if_pos c, if_pos rfl, if_pos c]
      show r (a + 0) (nI (i + 1)) = r a (nI (i + 1))
      rw [Int32.add_zero]
    · rw [if_neg c, if_neg (by decide), if_neg c]
  · intro r a _
    unfold pX12_weighsIn_4
    rw [ix_ok (by decide), h1, hn, if_pos (nI_le (Nat.le_refl n) (by omega))]
    rfl
/-- Falls.flowOn and GoingOverModel.flowOn: the flow, and the rain's more on its days -/
def flI (flow every rain day : Int32) : Int32 := if every ≤ 0 then flow else if day - day / every * every = 0 then flow + rain else flow
theorem c_flowOn {R : Rf} {T : Mm} {f : Nat} {day : Int32} : pX3_flowOn R T f day = some (flI (T.1 f 4) (T.1 f 14) (T.1 f 15) day) := by
  unfold pX3_flowOn flI nz
  by_cases c : T.1 f 14 ≤ 0
  · rw [if_pos c, if_pos c]
  · have c0 : ¬ T.1 f 14 = 0 := fun z => c (by rw [z]; decide)
    rw [if_neg c, if_neg c, if_neg c0]
    by_cases d : day - day / T.1 f 14 * T.1 f 14 = 0
    · rw [if_pos d, if_pos d]
    · rw [if_neg d, if_neg d]
theorem m_flowOn {R : Rf} {T : Mm} {a0 : Nat} {day : Int32} : pX12_flowOn R T a0 day = some (flI (T.1 (R a0 6) 4) (T.1 (R a0 6) 5) (T.1 (R a0 6) 6) day) := by
  unfold pX12_flowOn flI nz
  have h4 : (4 : Int32).toNatClampNeg = 4 := rfl
  have h5 : (5 : Int32).toNatClampNeg = 5 := rfl
  have h6 : (6 : Int32).toNatClampNeg = 6 := rfl
  rw [ix_ok (by decide), ix_ok (by decide), ix_ok (by decide), ix_ok (by decide), h4, h5, h6]
  by_cases c : T.1 (R a0 6) 5 ≤ 0
  · rw [if_pos c, if_pos c, Int32.add_zero]
  · have c0 : ¬ T.1 (R a0 6) 5 = 0 := fun z => c (by rw [z]; decide)
    rw [if_neg c, if_neg c, if_neg c0]
    by_cases d : day - day / T.1 (R a0 6) 5 * T.1 (R a0 6) 5 = 0
    · rw [if_pos d, if_pos d]
    · rw [if_neg d, if_neg d, Int32.add_zero]
