/-! reading a BOOK: what is read -/
def rB (b : Nat → Nat) (L M : Nat) (F : Nat → Nat) (N : Nat → List Nat) (m t : Nat) : Pa (Nat × Nat) :=
  if kkS b L M t = 4 ∧ 7 ≤ vvS b L t ∧ vvS b L t ≤ 10 then (if m < 40 then paD (if vvS b L t = 9 then nuP b L M (t + 1) 0 15 else if vvS b L t = 10 then nuP b L M (t + 1) 1 60 else naP b L M (t + 1) (fnI F N (wwS b L (t + 1)))) fun x => paO (vvS b L t - 5, x) else paB 4 (psS b L M t))
  else paD (naP b L M t (fnP F N (wwS b L t))) fun p => if m < 40 then (if kkS b L M (t + 1) = 4 ∧ (vvS b L (t + 1) = 5 ∨ vvS b L (t + 1) = 6) then paO (vvS b L (t + 1) - 5, p) else paB 1 (psS b L M (t + 1))) else paB 4 (psS b L M t)
def rBL (b : Nat → Nat) (L M : Nat) (F : Nat → Nat) (N : Nat → List Nat) (m t : Nat) : Pa (Nat × Nat) := paD (rB b L M F N m t) fun y => paD (maP b L M (t + 2) 59) fun _ => paO y
abbrev BSt := (Nat → Nat) × (Nat → Nat) × Nat
def rBW (b : Nat → Nat) (L M : Nat) (F : Nat → Nat) (N : Nat → List Nat) : Nat → BSt → Nat → Pa BSt
  | 0, _, _ => paB 1 0
  | j + 1, s, t => if kkS b L M t = 0 then (if M < L then paB 1 (psS b L M t) else paO s) else paD (rBL b L M F N s.2.2 t) fun y => rBW b L M F N j (uT s.1 s.2.2 y.1, uT s.2.1 s.2.2 y.2, s.2.2 + 1) (t + 3)
theorem rBW_succ {b : Nat → Nat} {L M : Nat} {F : Nat → Nat} {N : Nat → List Nat} {j m t : Nat} {W X : Nat → Nat} : rBW b L M F N (j + 1) (W, X, m) t = if kkS b L M t = 0 then (if M < L then paB 1 (psS b L M t) else paO (W, X, m)) else paD (rBL b L M F N m t) fun y => rBW b L M F N j (uT W m y.1, uT X m y.2, m + 1) (t + 3) := rfl
theorem rB_ok {b : Nat → Nat} {L M : Nat} {F : Nat → Nat} {N : Nat → List Nat} {m t w x : Nat} (h : rB b L M F N m t = paO (w, x)) : VL F w x ∧ m < 40 := by
  unfold rB at h
  by_cases e : kkS b L M t = 4 ∧ 7 ≤ vvS b L t ∧ vvS b L t ≤ 10
  · rw [if_pos e] at h
    by_cases em : m < 40
    · rw [if_pos em] at h
      obtain ⟨y, h1, h⟩ := paD_okI h
      cases h
      unfold VL
      by_cases e9 : vvS b L t = 9
      · rw [if_pos e9] at h1
        obtain ⟨a1, a2, _⟩ := nuP_ok h1
        omega
      · rw [if_neg e9] at h1
        by_cases e10 : vvS b L t = 10
        · rw [if_pos e10] at h1
          obtain ⟨a1, a2, _⟩ := nuP_ok h1
          omega
        · rw [if_neg e10] at h1
          have := fnI_lt (naP_ok h1).2
          omega
    · rw [if_neg em] at h; cases h
  · rw [if_neg e] at h
    obtain ⟨y, h1, h⟩ := paD_okI h
    have := fnP_lt (naP_ok h1).2
    by_cases em : m < 40
    · rw [if_pos em] at h
      by_cases e5 : kkS b L M (t + 1) = 4 ∧ (vvS b L (t + 1) = 5 ∨ vvS b L (t + 1) = 6)
      · rw [if_pos e5] at h
        cases h
        unfold VL
        omega
      · rw [if_neg e5] at h; cases h
    · rw [if_neg em] at h; cases h
theorem rBL_ok {b : Nat → Nat} {L M : Nat} {F : Nat → Nat} {N : Nat → List Nat} {m t w x : Nat} (h : rBL b L M F N m t = paO (w, x)) : VL F w x ∧ m < 40 := by
  obtain ⟨y, h1, h⟩ := paD_okI h
  obtain ⟨_, _, h⟩ := paD_okI h
  cases h
  exact rB_ok h1
theorem rB_bad {b : Nat → Nat} {L M : Nat} {F : Nat → Nat} {N : Nat → List Nat} {m t k p : Nat} (h : rB b L M F N m t = paB k p) : gB L M k p := by
  have hp := fun u => psS_le (b := b) (L := L) (M := M) (t := u)
  unfold rB at h
  by_cases e : kkS b L M t = 4 ∧ 7 ≤ vvS b L t ∧ vvS b L t ≤ 10
  · rw [if_pos e] at h
    by_cases em : m < 40
    · rw [if_pos em] at h
      rcases paD_badI h with h1 | ⟨_, _, h⟩
      · by_cases e9 : vvS b L t = 9
        · rw [if_pos e9] at h1; exact nuP_bad h1
        · rw [if_neg e9] at h1
          by_cases e10 : vvS b L t = 10
          · rw [if_pos e10] at h1; exact nuP_bad h1
          · rw [if_neg e10] at h1; exact naP_bad h1
      · cases h
    · rw [if_neg em] at h; cases h; exact ⟨by omega, by omega, hp _⟩
  · rw [if_neg e] at h
    rcases paD_badI h with h1 | ⟨_, _, h⟩
    · exact naP_bad h1
    · by_cases em : m < 40
      · rw [if_pos em] at h
        by_cases e5 : kkS b L M (t + 1) = 4 ∧ (vvS b L (t + 1) = 5 ∨ vvS b L (t + 1) = 6)
        · rw [if_pos e5] at h; cases h
        · rw [if_neg e5] at h; cases h; exact ⟨by omega, by omega, hp _⟩
      · rw [if_neg em] at h; cases h; exact ⟨by omega, by omega, hp _⟩
theorem rBL_bad {b : Nat → Nat} {L M : Nat} {F : Nat → Nat} {N : Nat → List Nat} {m t k p : Nat} (h : rBL b L M F N m t = paB k p) : gB L M k p := by
  rcases paD_badI h with h | ⟨_, _, h⟩
  · exact rB_bad h
  · rcases paD_badI h with h | ⟨_, _, h⟩
    · exact maP_bad h
    · cases h
