/-! what is read stays as FALLS may be -/
theorem paD_okI {α β : Type} {x : Pa α} {f : α → Pa β} {r : β} (h : paD x f = paO r) : ∃ a, x = paO a ∧ f a = paO r := by
  cases x with
  | inl e => cases h
  | inr a => exact ⟨a, rfl, h⟩
theorem paD_badI {α β : Type} {x : Pa α} {f : α → Pa β} {k p : Nat} (h : paD x f = paB k p) : x = paB k p ∨ ∃ a, x = paO a ∧ f a = paB k p := by
  cases x with
  | inl e => left; cases h; rfl
  | inr a => exact Or.inr ⟨a, rfl, h⟩
def VSt (F : Nat → Nat) (N : Nat → List Nat) : Prop := VF F ∧ NW F N ∧ F 80 ≤ 1
def cnF (F : Nat → Nat) : Nat := F 80 + (if F 5 = 0 then 0 else 1) + F 0 + F 1 + F 2
theorem VSt.cnt {F : Nat → Nat} {N : Nat → List Nat} (h : VSt F N) : cnF F ≤ 33 := by
  obtain ⟨⟨v0, v1, v2, v3, v4, v5, v6, vs, vo, vj⟩, _, h8⟩ := h
  unfold cnF
  by_cases e : F 5 = 0
  · rw [if_pos e]; omega
  · rw [if_neg e]; omega
/-- a fault: of 1 .. 4, at a place of the text -/
def gB (L M k p : Nat) : Prop := 1 ≤ k ∧ k ≤ 4 ∧ p ≤ min L M
theorem nuP_bad {b : Nat → Nat} {L M t lo hi k p : Nat} (h : nuP b L M t lo hi = paB k p) : gB L M k p := by
  have hp := psS_le (b := b) (L := L) (M := M) (t := t)
  unfold nuP at h
  by_cases e : kkS b L M t = 2
  · rw [if_pos e] at h
    by_cases e2 : lo ≤ vvS b L t ∧ vvS b L t ≤ hi
    · rw [if_pos e2] at h; cases h
    · rw [if_neg e2] at h; cases h; exact ⟨by omega, by omega, hp⟩
  · rw [if_neg e] at h; cases h; exact ⟨by omega, by omega, hp⟩
theorem naP_bad {b : Nat → Nat} {L M t k p : Nat} {o : Option Nat} (h : naP b L M t o = paB k p) : gB L M k p := by
  have hp := psS_le (b := b) (L := L) (M := M) (t := t)
  unfold naP at h
  by_cases e : kkS b L M t = 3
  · rw [if_pos e] at h
    cases o with
    | none => cases h; exact ⟨by omega, by omega, hp⟩
    | some v => cases h
  · rw [if_neg e] at h; cases h; exact ⟨by omega, by omega, hp⟩
theorem naP_ok {b : Nat → Nat} {L M t v : Nat} {o : Option Nat} (h : naP b L M t o = paO v) : kkS b L M t = 3 ∧ o = some v := by
  unfold naP at h
  by_cases e : kkS b L M t = 3
  · rw [if_pos e] at h
    cases o with
    | none => cases h
    | some v => cases h; exact ⟨e, rfl⟩
  · rw [if_neg e] at h; cases h
theorem neP_bad {b : Nat → Nat} {L M t k p : Nat} {F : Nat → Nat} {N : Nat → List Nat} (h : neP b L M t F N = paB k p) : gB L M k p := by
  have hp := psS_le (b := b) (L := L) (M := M) (t := t)
  unfold neP at h
  by_cases e : kkS b L M t = 3
  · rw [if_pos e] at h
    by_cases e2 : fnP F N (wwS b L t) = none ∧ fnI F N (wwS b L t) = none
    · rw [if_pos e2] at h; cases h
    · rw [if_neg e2] at h; cases h; exact ⟨by omega, by omega, hp⟩
  · rw [if_neg e] at h; cases h; exact ⟨by omega, by omega, hp⟩
theorem neP_ok {b : Nat → Nat} {L M t : Nat} {F : Nat → Nat} {N : Nat → List Nat} {u : Unit} (h : neP b L M t F N = paO u) : IW (wwS b L t) := by
  unfold neP at h
  by_cases e : kkS b L M t = 3
  · exact (kk_word (Or.inl e)).1
  · rw [if_neg e] at h; cases h
theorem maP_bad {b : Nat → Nat} {L M t c k p : Nat} (h : maP b L M t c = paB k p) : gB L M k p := by
  have hp := psS_le (b := b) (L := L) (M := M) (t := t)
  unfold maP at h
  by_cases e : kkS b L M t = 5 ∧ vvS b L t = c
  · rw [if_pos e] at h; cases h
  · rw [if_neg e] at h; cases h; exact ⟨by omega, by omega, hp⟩
theorem rF0_ok {b : Nat → Nat} {L M t t' : Nat} {F F' : Nat → Nat} {N N' : Nat → List Nat} (hs : VSt F N) (h : rF0 b L M F N t = paO (F', N', t')) : VSt F' N' ∧ cnF F' = cnF F + 1 := by
  obtain ⟨⟨v0, v1, v2, v3, v4, v5, v6, vs, vo, vj⟩, hN, h8⟩ := hs
  unfold rF0 at h
  by_cases e : F 80 = 0
  · rw [if_pos e] at h
    obtain ⟨v, n1, h⟩ := paD_okI h
    obtain ⟨w, n2, h⟩ := paD_okI h
    obtain ⟨a1, a2, _⟩ := nuP_ok n1
    obtain ⟨a3, a4, _⟩ := nuP_ok n2
    cases h
    refine ⟨⟨⟨?_, ?_, ?_, ?_, ?_, ?_, ?_, ?_, ?_, ?_⟩, ⟨?_, ?_⟩, ?_⟩, ?_⟩
    · simp (disch := omega) only [uT_n]; exact v0
    · simp (disch := omega) only [uT_n]; exact v1
    · simp (disch := omega) only [uT_n]; exact v2
    · simp (disch := omega) only [uT_n, uT_s]; omega
    · simp (disch := omega) only [uT_s]; omega
    · simp (disch := omega) only [uT_n]; exact v5
    · simp (disch := omega) only [uT_n]; exact v6
    · intro p hp; simp (disch := omega) only [uT_n] at hp; simp (disch := omega) only [uT_n]; exact vs p hp
    · intro p hp; simp (disch := omega) only [uT_n] at hp; simp (disch := omega) only [uT_n]; exact vo p hp
    · intro p hp; simp (disch := omega) only [uT_n] at hp
      obtain ⟨j1, j2, _⟩ := vj p hp
      simp (disch := omega) only [uT_n]; exact vj p hp
    · intro p hp; simp (disch := omega) only [uT_n] at hp; exact hN.1 p hp
    · intro p hp; simp (disch := omega) only [uT_n] at hp; exact hN.2 p hp
    · simp (disch := omega) only [uT_n, uT_s]; omega
    · unfold cnF; simp (disch := omega) only [uT_n, uT_s]; omega
  · rw [if_neg e] at h; cases h
theorem rF1_ok {b : Nat → Nat} {L M t t' : Nat} {F F' : Nat → Nat} {N N' : Nat → List Nat} (hs : VSt F N) (h : rF1 b L M F N t = paO (F', N', t')) : VSt F' N' ∧ cnF F' = cnF F + 1 := by
  obtain ⟨⟨v0, v1, v2, v3, v4, v5, v6, vs, vo, vj⟩, hN, h8⟩ := hs
  unfold rF1 at h
  by_cases e : F 5 = 0
  · rw [if_pos e] at h
    obtain ⟨v, n1, h⟩ := paD_okI h
    obtain ⟨w, n2, h⟩ := paD_okI h
    obtain ⟨a1, a2, _⟩ := nuP_ok n1
    obtain ⟨a3, a4, _⟩ := nuP_ok n2
    cases h
    refine ⟨⟨⟨?_, ?_, ?_, ?_, ?_, ?_, ?_, ?_, ?_, ?_⟩, ⟨?_, ?_⟩, ?_⟩, ?_⟩
    · simp (disch := omega) only [uT_n]; exact v0
    · simp (disch := omega) only [uT_n]; exact v1
    · simp (disch := omega) only [uT_n]; exact v2
    · simp (disch := omega) only [uT_n]; exact v3
    · simp (disch := omega) only [uT_n]; exact v4
    · simp (disch := omega) only [uT_n, uT_s]; omega
    · simp (disch := omega) only [uT_s]; omega
    · intro p hp; simp (disch := omega) only [uT_n] at hp; simp (disch := omega) only [uT_n]; exact vs p hp
    · intro p hp; simp (disch := omega) only [uT_n] at hp; simp (disch := omega) only [uT_n]; exact vo p hp
    · intro p hp; simp (disch := omega) only [uT_n] at hp
      obtain ⟨j1, j2, _⟩ := vj p hp
      simp (disch := omega) only [uT_n]; exact vj p hp
    · intro p hp; simp (disch := omega) only [uT_n] at hp; exact hN.1 p hp
    · intro p hp; simp (disch := omega) only [uT_n] at hp; exact hN.2 p hp
    · simp (disch := omega) only [uT_n]; omega
    · unfold cnF; simp (disch := omega) only [uT_n, uT_s]
      rw [if_pos e, if_neg (by omega)]; omega
  · rw [if_neg e] at h; cases h
theorem rF2_ok {b : Nat → Nat} {L M t t' : Nat} {F F' : Nat → Nat} {N N' : Nat → List Nat} (hs : VSt F N) (h : rF2 b L M F N t = paO (F', N', t')) : VSt F' N' ∧ cnF F' = cnF F + 1 := by
  obtain ⟨⟨v0, v1, v2, v3, v4, v5, v6, vs, vo, vj⟩, hN, h8⟩ := hs
  unfold rF2 at h
  by_cases e : F 0 < 5
  · rw [if_pos e] at h
    obtain ⟨u, n1, h⟩ := paD_okI h
    obtain ⟨v, n2, h⟩ := paD_okI h
    have hw := neP_ok n1
    obtain ⟨a3, a4, _⟩ := nuP_ok n2
    cases h
    refine ⟨⟨⟨?_, ?_, ?_, ?_, ?_, ?_, ?_, ?_, ?_, ?_⟩, ⟨?_, ?_⟩, ?_⟩, ?_⟩
    · simp (disch := omega) only [uT_s]; omega
    · simp (disch := omega) only [uT_n]; exact v1
    · simp (disch := omega) only [uT_n]; exact v2
    · simp (disch := omega) only [uT_n]; exact v3
    · simp (disch := omega) only [uT_n]; exact v4
    · simp (disch := omega) only [uT_n]; exact v5
    · simp (disch := omega) only [uT_n]; exact v6
    · intro p hp; simp (disch := omega) only [uT_s] at hp
      by_cases e2 : p = F 0
      · subst e2; simp (disch := omega) only [uT_n, uT_s]; omega
      · simp (disch := omega) only [uT_n]; exact vs p (by omega)
    · intro p hp; simp (disch := omega) only [uT_n] at hp; simp (disch := omega) only [uT_n, uT_s]
      have := vo p hp
      omega
    · intro p hp; simp (disch := omega) only [uT_n] at hp
      obtain ⟨j1, j2, _⟩ := vj p hp
      simp (disch := omega) only [uT_n]; exact vj p hp
    · intro p hp; simp (disch := omega) only [uT_s] at hp
      by_cases e2 : p = F 0
      · subst e2; rw [uT_s]; exact hw
      · rw [uT_n e2]; exact hN.1 p (by omega)
    · intro p hp; simp (disch := omega) only [uT_n] at hp; rw [uT_n (by omega)]; exact hN.2 p hp
    · simp (disch := omega) only [uT_n]; omega
    · unfold cnF; simp (disch := omega) only [uT_n, uT_s]; omega
  · rw [if_neg e] at h; cases h
theorem rF3_ok {b : Nat → Nat} {L M t t' : Nat} {F F' : Nat → Nat} {N N' : Nat → List Nat} (hs : VSt F N) (h : rF3 b L M F N t = paO (F', N', t')) : VSt F' N' ∧ cnF F' = cnF F + 1 := by
  obtain ⟨⟨v0, v1, v2, v3, v4, v5, v6, vs, vo, vj⟩, hN, h8⟩ := hs
  unfold rF3 at h
  by_cases e : F 1 < 10
  · rw [if_pos e] at h
    obtain ⟨u, n1, h⟩ := paD_okI h
    obtain ⟨x, n3, h⟩ := paD_okI h
    obtain ⟨v, n2, h⟩ := paD_okI h
    have hw := neP_ok n1
    have hx := fnP_lt (naP_ok n3).2
    obtain ⟨a3, a4, _⟩ := nuP_ok n2
    cases h
    refine ⟨⟨⟨?_, ?_, ?_, ?_, ?_, ?_, ?_, ?_, ?_, ?_⟩, ⟨?_, ?_⟩, ?_⟩, ?_⟩
    · simp (disch := omega) only [uT_n]; exact v0
    · simp (disch := omega) only [uT_s]; omega
    · simp (disch := omega) only [uT_n]; exact v2
    · simp (disch := omega) only [uT_n]; exact v3
    · simp (disch := omega) only [uT_n]; exact v4
    · simp (disch := omega) only [uT_n]; exact v5
    · simp (disch := omega) only [uT_n]; exact v6
    · intro p hp; simp (disch := omega) only [uT_n] at hp; simp (disch := omega) only [uT_n]; exact vs p hp
    · intro p hp; simp (disch := omega) only [uT_s] at hp
      by_cases e2 : p = F 1
      · subst e2; simp (disch := omega) only [uT_n, uT_s]; omega
      · simp (disch := omega) only [uT_n]; exact vo p (by omega)
    · intro p hp; simp (disch := omega) only [uT_n] at hp
      have hj := vj p hp
      obtain ⟨j1, j2, _⟩ := id hj
      simp (disch := omega) only [uT_n, uT_s]
      omega
    · intro p hp; simp (disch := omega) only [uT_n] at hp; rw [uT_n (by omega)]; exact hN.1 p hp
    · intro p hp; simp (disch := omega) only [uT_s] at hp
      by_cases e2 : p = F 1
      · subst e2; rw [uT_s]; exact hw
      · rw [uT_n (by omega)]; exact hN.2 p (by omega)
    · simp (disch := omega) only [uT_n]; omega
    · unfold cnF; simp (disch := omega) only [uT_n, uT_s]; omega
  · rw [if_neg e] at h; cases h
theorem rF4_ok {b : Nat → Nat} {L M t t' : Nat} {F F' : Nat → Nat} {N N' : Nat → List Nat} (hs : VSt F N) (h : rF4 b L M F N t = paO (F', N', t')) : VSt F' N' ∧ cnF F' = cnF F + 1 := by
  obtain ⟨⟨v0, v1, v2, v3, v4, v5, v6, vs, vo, vj⟩, hN, h8⟩ := hs
  unfold rF4 at h
  by_cases e : F 2 < 16
  · rw [if_pos e] at h
    obtain ⟨x, n1, h⟩ := paD_okI h
    obtain ⟨y, n3, h⟩ := paD_okI h
    by_cases e5 : x ≠ y ∧ F (12 + x) = F (12 + y) ∧ jnB F x y = false
    · rw [if_pos e5] at h
      obtain ⟨v, n2, h⟩ := paD_okI h
      have hx := fnI_lt (naP_ok n1).2
      have hy := fnI_lt (naP_ok n3).2
      obtain ⟨a3, a4, _⟩ := nuP_ok n2
      cases h
      refine ⟨⟨⟨?_, ?_, ?_, ?_, ?_, ?_, ?_, ?_, ?_, ?_⟩, ⟨?_, ?_⟩, ?_⟩, ?_⟩
      · simp (disch := omega) only [uT_n]; exact v0
      · simp (disch := omega) only [uT_n]; exact v1
      · simp (disch := omega) only [uT_s]; omega
      · simp (disch := omega) only [uT_n]; exact v3
      · simp (disch := omega) only [uT_n]; exact v4
      · simp (disch := omega) only [uT_n]; exact v5
      · simp (disch := omega) only [uT_n]; exact v6
      · intro p hp; simp (disch := omega) only [uT_n] at hp; simp (disch := omega) only [uT_n]; exact vs p hp
      · intro p hp; simp (disch := omega) only [uT_n] at hp; simp (disch := omega) only [uT_n]; exact vo p hp
      · intro p hp; simp (disch := omega) only [uT_s] at hp
        by_cases e2 : p = F 2
        · subst e2; simp (disch := omega) only [uT_n, uT_s]
          exact ⟨hx, hy, e5.1, e5.2.1, a3, a4⟩
        · obtain ⟨j1, j2, _⟩ := vj p (by omega)
          simp (disch := omega) only [uT_n]; exact vj p (by omega)
      · intro p hp; simp (disch := omega) only [uT_n] at hp; exact hN.1 p hp
      · intro p hp; simp (disch := omega) only [uT_n] at hp; exact hN.2 p hp
      · simp (disch := omega) only [uT_n]; omega
      · unfold cnF; simp (disch := omega) only [uT_n, uT_s]; omega
    · rw [if_neg e5] at h; cases h
  · rw [if_neg e] at h; cases h
theorem rFL_eq {b : Nat → Nat} {L M t : Nat} {F : Nat → Nat} {N : Nat → List Nat} : rFL b L M F N t = paD (rFK b L M F N t) fun s => paD (maP b L M s.2.2 59) fun _ => paO (s.1, s.2.1, s.2.2 + 1) := by
  unfold rFL rFK
  by_cases e : kkS b L M t = 4 ∧ vvS b L t < 5
  · rw [if_pos e, if_pos e]
  · rw [if_neg e, if_neg e, paD_b]
theorem rFK_ok {b : Nat → Nat} {L M t t' : Nat} {F F' : Nat → Nat} {N N' : Nat → List Nat} (hs : VSt F N) (h : rFK b L M F N t = paO (F', N', t')) : VSt F' N' ∧ cnF F' = cnF F + 1 := by
  unfold rFK at h
  by_cases e : kkS b L M t = 4 ∧ vvS b L t < 5
  · rw [if_pos e] at h
    by_cases e0 : vvS b L t = 0
    · rw [if_pos e0] at h; exact rF0_ok hs h
    rw [if_neg e0] at h
    by_cases e1 : vvS b L t = 1
    · rw [if_pos e1] at h; exact rF1_ok hs h
    rw [if_neg e1] at h
    by_cases e2 : vvS b L t = 2
    · rw [if_pos e2] at h; exact rF2_ok hs h
    rw [if_neg e2] at h
    by_cases e3 : vvS b L t = 3
    · rw [if_pos e3] at h; exact rF3_ok hs h
    rw [if_neg e3] at h
    exact rF4_ok hs h
  · rw [if_neg e] at h; cases h
theorem rFL_ok {b : Nat → Nat} {L M t t' : Nat} {F F' : Nat → Nat} {N N' : Nat → List Nat} (hs : VSt F N) (h : rFL b L M F N t = paO (F', N', t')) : VSt F' N' ∧ cnF F' = cnF F + 1 := by
  rw [rFL_eq] at h
  obtain ⟨⟨G, P, u⟩, h1, h⟩ := paD_okI h
  obtain ⟨_, _, h⟩ := paD_okI h
  cases h
  exact rFK_ok hs h1
theorem rFK_bad {b : Nat → Nat} {L M t k p : Nat} {F : Nat → Nat} {N : Nat → List Nat} (h : rFK b L M F N t = paB k p) : gB L M k p := by
  have hp := fun u => psS_le (b := b) (L := L) (M := M) (t := u)
  unfold rFK at h
  by_cases e : kkS b L M t = 4 ∧ vvS b L t < 5
  · rw [if_pos e] at h
    by_cases e0 : vvS b L t = 0
    · rw [if_pos e0] at h
      unfold rF0 at h
      by_cases z : F 80 = 0
      · rw [if_pos z] at h
        rcases paD_badI h with h | ⟨v, _, h⟩
        · exact nuP_bad h
        · rcases paD_badI h with h | ⟨v, _, h⟩
          · exact nuP_bad h
          · cases h
      · rw [if_neg z] at h; cases h; exact ⟨by omega, by omega, hp _⟩
    rw [if_neg e0] at h
    by_cases e1 : vvS b L t = 1
    · rw [if_pos e1] at h
      unfold rF1 at h
      by_cases z : F 5 = 0
      · rw [if_pos z] at h
        rcases paD_badI h with h | ⟨v, _, h⟩
        · exact nuP_bad h
        · rcases paD_badI h with h | ⟨v, _, h⟩
          · exact nuP_bad h
          · cases h
      · rw [if_neg z] at h; cases h; exact ⟨by omega, by omega, hp _⟩
    rw [if_neg e1] at h
    by_cases e2 : vvS b L t = 2
    · rw [if_pos e2] at h
      unfold rF2 at h
      by_cases z : F 0 < 5
      · rw [if_pos z] at h
        rcases paD_badI h with h | ⟨v, _, h⟩
        · exact neP_bad h
        · rcases paD_badI h with h | ⟨v, _, h⟩
          · exact nuP_bad h
          · cases h
      · rw [if_neg z] at h; cases h; exact ⟨by omega, by omega, hp _⟩
    rw [if_neg e2] at h
    by_cases e3 : vvS b L t = 3
    · rw [if_pos e3] at h
      unfold rF3 at h
      by_cases z : F 1 < 10
      · rw [if_pos z] at h
        rcases paD_badI h with h | ⟨v, _, h⟩
        · exact neP_bad h
        · rcases paD_badI h with h | ⟨v, _, h⟩
          · exact naP_bad h
          · rcases paD_badI h with h | ⟨v, _, h⟩
            · exact nuP_bad h
            · cases h
      · rw [if_neg z] at h; cases h; exact ⟨by omega, by omega, hp _⟩
    rw [if_neg e3] at h
    unfold rF4 at h
    by_cases z : F 2 < 16
    · rw [if_pos z] at h
      rcases paD_badI h with h | ⟨x, _, h⟩
      · exact naP_bad h
      · rcases paD_badI h with h | ⟨y, _, h⟩
        · exact naP_bad h
        · by_cases e5 : x ≠ y ∧ F (12 + x) = F (12 + y) ∧ jnB F x y = false
          · rw [if_pos e5] at h
            rcases paD_badI h with h | ⟨v, _, h⟩
            · exact nuP_bad h
            · cases h
          · rw [if_neg e5] at h; cases h; exact ⟨by omega, by omega, hp _⟩
    · rw [if_neg z] at h; cases h; exact ⟨by omega, by omega, hp _⟩
  · rw [if_neg e] at h; cases h; exact ⟨by omega, by omega, hp _⟩
theorem rFL_bad {b : Nat → Nat} {L M t k p : Nat} {F : Nat → Nat} {N : Nat → List Nat} (h : rFL b L M F N t = paB k p) : gB L M k p := by
  rw [rFL_eq] at h
  rcases paD_badI h with h | ⟨v, _, h⟩
  · exact rFK_bad h
  · rcases paD_badI h with h | ⟨v, _, h⟩
    · exact maP_bad h
    · cases h
