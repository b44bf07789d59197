/-! TEXTS: bytes and TOKENS -/
def smB (c : Nat) : Bool := decide (97 ≤ c) && decide (c ≤ 122)
def dgB (c : Nat) : Bool := decide (48 ≤ c) && decide (c ≤ 57)
def alB (c : Nat) : Bool := smB c || dgB c
def blB (c : Nat) : Bool := decide (c = 32) || decide (c = 10)
def mkB (c : Nat) : Bool := decide (c = 59) || decide (c = 40) || decide (c = 41) || (decide (60 ≤ c) && decide (c ≤ 62))
/-- the first from p on below L with c, or L -/
def fd (c : Nat → Bool) (p L : Nat) : Nat := (fst c p (L - p)).getD L
theorem fd_ok {c : Nat → Bool} {p L : Nat} (h : p ≤ L) : p ≤ fd c p L ∧ fd c p L ≤ L ∧ (∀ j, p ≤ j → j < fd c p L → c j = false) ∧ (fd c p L < L → c (fd c p L) = true) := by
  unfold fd
  cases z : fst c p (L - p) with
  | some x =>
    obtain ⟨h1, h2, h3, h4⟩ := fst_some _ _ _ z
    exact ⟨h1, by show x ≤ L; omega, h4, fun _ => h3⟩
  | none =>
    have hn := fst_none _ _ z
    exact ⟨h, Nat.le_refl _, fun j h1 h2 => hn j h1 (by have h3 : j < L := h2; omega), fun q => absurd q (Nat.lt_irrefl _)⟩
theorem fd_is {c : Nat → Bool} {p L s : Nat} (h1 : p ≤ s) (h2 : s ≤ L) (h3 : ∀ j, p ≤ j → j < s → c j = false) (h4 : s < L → c s = true) : fd c p L = s := by
  obtain ⟨a1, a2, a3, a4⟩ := fd_ok (c := c) (p := p) (L := L) (by omega)
  rcases Nat.lt_trichotomy (fd c p L) s with z | z | z
  · have := h3 _ a1 z
    rw [a4 (by omega)] at this
    cases this
  · exact z
  · have := a3 s h1 z
    rw [h4 (by omega)] at this
    cases this
theorem fd_step {c : Nat → Bool} {p L : Nat} (h : p < L) (hc : c p = false) : fd c p L = fd c (p + 1) L := by
  obtain ⟨a1, a2, a3, a4⟩ := fd_ok (c := c) (p := p + 1) (L := L) (by omega)
  refine fd_is (by omega) a2 (fun j h1 h2 => ?_) a4
  by_cases e : j = p
  · rw [e]; exact hc
  · exact a3 j (by omega) h2
def wlS (b : Nat → Nat) (p k : Nat) : List Nat := (List.range k).map (fun i => b (p + i))
theorem wlS_succ {b : Nat → Nat} {p k : Nat} : wlS b p (k + 1) = wlS b p k ++ [b (p + k)] := by
  unfold wlS
  rw [List.range_succ, List.map_append]
  rfl
theorem wlS_len {b : Nat → Nat} {p k : Nat} : (wlS b p k).length = k := by
  unfold wlS
  rw [List.length_map, List.length_range]
theorem wlS_mem {b : Nat → Nat} {p k c : Nat} (h : c ∈ wlS b p k) : ∃ i, i < k ∧ c = b (p + i) := by
  unfold wlS at h
  rw [List.mem_map] at h
  obtain ⟨i, hi, e⟩ := h
  exact ⟨i, List.mem_range.mp hi, e.symm⟩
def numS (b : Nat → Nat) (p k : Nat) : Nat := fo (fun i a => a * 10 + (b (p + i) - 48)) 0 k 0
theorem numS_succ {b : Nat → Nat} {p k : Nat} : numS b p (k + 1) = numS b p k * 10 + (b (p + k) - 48) := by
  unfold numS
  rw [fo_succ, Nat.zero_add]
/-- where the next TOKEN begins, where a run ends, where a TOKEN ends -/
def skS (b : Nat → Nat) (L p : Nat) : Nat := fd (fun k => !blB (b k)) p L
def reS (b : Nat → Nat) (L p : Nat) : Nat := fd (fun k => !alB (b k)) p L
def enS (b : Nat → Nat) (L s : Nat) : Nat := if alB (b s) = true then reS b L s else s + 1
def nsS (b : Nat → Nat) (p k : Nat) : Nat := cnt (fun i => smB (b (p + i))) k
def ndS (b : Nat → Nat) (p k : Nat) : Nat := cnt (fun i => !smB (b (p + i))) k
theorem ns_nd {b : Nat → Nat} {p : Nat} : ∀ k, nsS b p k + ndS b p k = k
  | 0 => rfl
  | k + 1 => by
    have ih := ns_nd (b := b) (p := p) k
    unfold nsS ndS at *
    rw [cnt_succ, cnt_succ]
    cases z : smB (b (p + k)) with
    | true => simp; omega
    | false => simp; omega
/-- the 24 words -/
def kws : List (List Nat) := [[102, 97, 108, 108, 115], [114, 97, 105, 110], [112, 101, 114, 115, 111, 110], [105, 116, 101, 109], [106, 111, 105, 110], [103, 111, 101, 115], [102, 114, 101, 101, 115], [117, 110, 108, 111, 97, 100], [108, 111, 97, 100], [98, 105, 110, 100], [100, 97, 121], [111, 114], [97, 110, 100], [110, 111, 116], [114, 101, 97, 100, 121], [104, 97, 110, 103, 105, 110, 103], [112, 111, 111, 108, 101, 100], [111, 117, 116], [119, 104, 111, 108, 101], [104, 97, 115], [119, 101, 105, 103, 104, 116], [112, 97, 114, 116, 115], [115, 116, 114, 97, 119], [110, 117, 109, 98, 101, 114]]
def kwk (k : Nat) : List Nat := kws.getD k []
def kwS (w : List Nat) : Option Nat := fst (fun k => decide (kwk k = w)) 0 24
theorem kwk_IW : ∀ k, k < 24 → 1 ≤ (kwk k).length ∧ (kwk k).length ≤ 7 ∧ (kwk k).all (fun c => decide (97 ≤ c) && decide (c ≤ 122)) = true := by decide +kernel
theorem kwk_w {k : Nat} (hk : k < 24) : IW (kwk k) := by
  obtain ⟨h1, h2, h3⟩ := kwk_IW k hk
  refine ⟨h1, h2, fun c hc => ?_⟩
  have := List.all_eq_true.mp h3 c hc
  simpa using this
theorem kwk_inj : ∀ k, k < 24 → ∀ j, j < 24 → kwk k = kwk j → k = j := by decide +kernel
/-- kinds: 0 the end, 1 no TOKEN, 2 a NUMBER, 3 a NAME, 4 a word of the language, 5 a sign -/
def tkK (b : Nat → Nat) (L s : Nat) : Nat := if alB (b s) = true then (if nsS b s (reS b L s - s) = 0 ∧ reS b L s - s ≤ 3 then 2 else if ndS b s (reS b L s - s) = 0 ∧ reS b L s - s ≤ 7 then (if kwS (wlS b s (reS b L s - s)) = none then 3 else 4) else 1) else if mkB (b s) = true then 5 else 1
def tkV (b : Nat → Nat) (L s : Nat) : Nat := if alB (b s) = true then (if nsS b s (reS b L s - s) = 0 ∧ reS b L s - s ≤ 3 then numS b s (reS b L s - s) else (kwS (wlS b s (reS b L s - s))).getD 0) else b s
def tkW (b : Nat → Nat) (L s : Nat) : List Nat := wlS b s (reS b L s - s)
/-- where the t-th TOKEN is sought -/
def scS (b : Nat → Nat) (L : Nat) : Nat → Nat
  | 0 => 0
  | t + 1 => enS b L (skS b L (scS b L t))
theorem tkW_IW {b : Nat → Nat} {L s : Nat} (hs : s < L) (h : tkK b L s = 3 ∨ tkK b L s = 4) : IW (tkW b L s) := by
  unfold tkK at h
  by_cases e1 : alB (b s) = true
  · rw [if_pos e1] at h
    obtain ⟨a1, a2, a3, a4⟩ := fd_ok (c := fun k => !alB (b k)) (p := s) (L := L) (by omega)
    have hr : s < reS b L s := by
      rcases Nat.lt_or_ge s (reS b L s) with z | z
      · exact z
      · exfalso
        have : reS b L s = s := by unfold reS at *; omega
        have := a4 (by unfold reS at this; omega)
        unfold reS at *
        rw [show fd (fun k => !alB (b k)) s L = s by omega] at this
        rw [e1] at this
        cases this
    by_cases e2 : nsS b s (reS b L s - s) = 0 ∧ reS b L s - s ≤ 3
    · rw [if_pos e2] at h; omega
    · rw [if_neg e2] at h
      by_cases e3 : ndS b s (reS b L s - s) = 0 ∧ reS b L s - s ≤ 7
      · refine ⟨?_, ?_, fun c hc => ?_⟩
        · unfold tkW; rw [wlS_len]; omega
        · unfold tkW; rw [wlS_len]; exact e3.2
        · obtain ⟨i, hi, rfl⟩ := wlS_mem hc
          have hsm : smB (b (s + i)) = true := by
            cases z : smB (b (s + i)) with
            | true => rfl
            | false =>
              have : 0 < ndS b s (reS b L s - s) := cnt_pos hi (by rw [z]; rfl)
              omega
          unfold smB at hsm
          simpa using hsm
      · rw [if_neg e3] at h; omega
  · rw [if_neg e1] at h
    by_cases e2 : mkB (b s) = true
    · rw [if_pos e2] at h; omega
    · rw [if_neg e2] at h; omega
/-- the reference's text: bytes, how many, the most -/
def XM (T : Mm) (b : Nat → Nat) (L M : Nat) : Prop := L ≤ 940 ∧ M ≤ 940 ∧ T.1 105 3 = nI L ∧ T.1 105 5 = nI M ∧ ∀ k, k < L → b k < 256 ∧ T.1 106 k &&& 255 = nI (b k)
def pkI (b : Nat → Nat) (L p : Nat) : Int32 := if p < L then nI (b p) else -1
theorem m_peek {R : Rf} {T : Mm} {b : Nat → Nat} {L M p : Nat} (r1 : R 105 1 = 106) (h : XM T b L M) (hp : T.1 105 4 = nI p) (hpl : p ≤ L) : pX12_peek R T 105 = some (pkI b L p) := by
  obtain ⟨h1, h2, h3, h4, h5⟩ := h
  unfold pX12_peek pkI
  rw [h3, hp]
  by_cases e : p < L
  · rw [if_neg (nI_ge e (by omega)), ix_nI (by omega) (by decide), nI_clamp (by omega), r1, (h5 p e).2, if_pos e]
  · rw [if_pos (nI_le (by omega) (by omega)), if_neg e]
theorem m_isSmallI {R : Rf} {T : Mm} {b : Nat → Nat} {L p : Nat} (hb : p < L → b p < 256) : pX12_isSmall R T (pkI b L p) = some (if p < L ∧ smB (b p) = true then 1 else 0) := by
  unfold pX12_isSmall pkI smB
  by_cases e : p < L
  · have := hb e
    rw [if_pos e]
    simp (disch := omega) only [lt, jn, bd1_some, bd2_some, ix_nI, ix_lit, nI_clamp, lit_clamp, lit_add, add_lit, nI_add, nI_leI, nI_ltI, nI_eq, lit_le, le_lit, lit_lt, lt_lit, lit_eq, eq_lit, if_pos, if_neg]
    by_cases e1 : b p < 97
    · rw [if_pos e1, if_neg]
      simp
      omega
    · rw [if_neg e1]
      by_cases e2 : 122 < b p
      · rw [if_pos e2, if_neg]
        simp
        omega
      · rw [if_neg e2, if_pos]
        simp
        omega
  · rw [if_neg e, if_pos (by decide), if_neg (fun q => e q.1)]
theorem m_isDigitI {R : Rf} {T : Mm} {b : Nat → Nat} {L p : Nat} (hb : p < L → b p < 256) : pX12_isDigit R T (pkI b L p) = some (if p < L ∧ dgB (b p) = true then 1 else 0) := by
  unfold pX12_isDigit pkI dgB
  by_cases e : p < L
  · have := hb e
    rw [if_pos e]
    simp (disch := omega) only [lt, jn, bd1_some, bd2_some, ix_nI, ix_lit, nI_clamp, lit_clamp, lit_add, add_lit, nI_add, nI_leI, nI_ltI, nI_eq, lit_le, le_lit, lit_lt, lt_lit, lit_eq, eq_lit, if_pos, if_neg]
    by_cases e1 : b p < 48
    · rw [if_pos e1, if_neg]
      simp
      omega
    · rw [if_neg e1]
      by_cases e2 : 57 < b p
      · rw [if_pos e2, if_neg]
        simp
        omega
      · rw [if_neg e2, if_pos]
        simp
        omega
  · rw [if_neg e, if_pos (by decide), if_neg (fun q => e q.1)]
/-- what next() may touch -/
def FX (T V : Mm) : Prop := (∀ a, a ≠ 105 → V.1 a = T.1 a ∧ V.2 a = T.2 a) ∧ (∀ k, k ≠ 4 → k ≠ 11 → k ≠ 12 → k ≠ 13 → k ≠ 14 → V.1 105 k = T.1 105 k) ∧ ∀ k, k ≠ 17 → V.2 105 k = T.2 105 k
theorem FX.refl {T : Mm} : FX T T := ⟨fun _ _ => ⟨rfl, rfl⟩, fun _ _ _ _ _ _ => rfl, fun _ _ => rfl⟩
theorem FX.trans {T U V : Mm} (h : FX T U) (h' : FX U V) : FX T V := ⟨fun a ha => ⟨(h'.1 a ha).1.trans (h.1 a ha).1, (h'.1 a ha).2.trans (h.1 a ha).2⟩, fun k h1 h2 h3 h4 h5 => (h'.2.1 k h1 h2 h3 h4 h5).trans (h.2.1 k h1 h2 h3 h4 h5), fun k hk => (h'.2.2 k hk).trans (h.2.2 k hk)⟩
theorem FX.w {T : Mm} {k : Nat} {v : Int32} (hk : k = 4 ∨ k = 11 ∨ k = 12 ∨ k = 13 ∨ k = 14) : FX T (wI T 105 k v) := ⟨fun a ha => ⟨by rw [wI_1, up2_row ha], rfl⟩, fun j h1 h2 h3 h4 h5 => wI_n (Or.inr (by omega)), fun _ _ => rfl⟩
theorem wJ_n {T : Mm} {a k b j : Nat} {v : Int64} (h : b ≠ a ∨ j ≠ k) : (wJ T a k v).2 b j = T.2 b j := up2_n h
theorem wJ_s {T : Mm} {a k : Nat} {v : Int64} : (wJ T a k v).2 a k = v := up2_s
theorem FX.j {T : Mm} {v : Int64} : FX T (wJ T 105 17 v) := ⟨fun a ha => ⟨rfl, by rw [wJ_2, up2_row ha]⟩, fun _ _ _ _ _ _ => rfl, fun k hk => wJ_n (Or.inr hk)⟩
theorem XM.fx {T V : Mm} {b : Nat → Nat} {L M : Nat} (h : XM T b L M) (f : FX T V) : XM V b L M := by
  obtain ⟨h1, h2, h3, h4, h5⟩ := h
  refine ⟨h1, h2, by rw [f.2.1 3 (by decide) (by decide) (by decide) (by decide) (by decide), h3], by rw [f.2.1 5 (by decide) (by decide) (by decide) (by decide) (by decide), h4], fun k hk => ?_⟩
  rw [(f.1 106 (by decide)).1]
  exact h5 k hk
