/-- the low eight bits behind a shift by at most 24 are the same, with the sign or without -/
theorem low8 (x : Int32) (n : Nat) (hn : n ≤ 24) : (x >>> (nI n &&& 31)) &&& 255 = us x (nI n) &&& 255 := by
  apply b_ext
  intro i hi
  unfold us
  rw [b_and, b_and, b_255, b_sshr n (by omega) x hi, b_ushr n (by omega) x i]
  by_cases h : i < 8
  · rw [if_pos (by omega)]
  · simp [h]
theorem byte_same (x : Int32) (n : Nat) (hn : n ≤ 24) : (((x >>> (nI n &&& 31)).toInt8.toInt32).toInt8.toInt32) &&& 255 = us x (nI n) &&& 255 := by
  rw [bp_b, bp_b]
  exact low8 x n hn
