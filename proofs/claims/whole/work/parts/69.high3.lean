/-! HEIGHTS: the reference's -/
theorem c_bits32 {R : Rf} {T : Mm} (x : Int32) : pJ6_bitCount_0f7a4 R T x = some (nI (cnt (bt x) 32)) := by
  have h := x.toBitVec.isLt
  have e := nI_nat x
  rw [← e, bitCount_nI h]
  congr 2
  exact cnt_congr (fun i _ => (bt_nI h).symm)
theorem m_isHeight {R : Rf} {T : Mm} {F : Nat → Nat} {C : Nat → Int32} (l : LV R T F C) (r1 : R 105 1 = 106) {b : Nat → Nat} {n : Nat} (hn : n ≤ 5) (hsz : T.1 105 3 = nI (2 * n)) (hb : ∀ k, k < 2 * n → b k < 256 ∧ T.1 106 k &&& 255 = nI (b k)) (hp : ∀ q, q < n → b (2 * q) < F 0) (h : Nat) : pX12_isHeight R T 105 (nI h) = some (if agS F C b h n = true then 1 else 0) := by
  have v0 := l.2.2.1.1
  unfold pX12_isHeight
  refine zl2_wp (f := pX12_isHeight_4 R T 105 (nI h) (pX12_isHeight_48 R T 105 (nI h))) (P := fun m x2 x3 => ∃ q, x3 = nI (2 * q) ∧ q + m = n ∧ x2 = if agS F C b h q = true then 1 else 0) (Q := fun z => z = some (if agS F C b h n = true then 1 else 0)) ?_ FU n 1 0 (by rw [FU_eq]; omega) ⟨0, rfl, by omega, rfl⟩
  rintro m r x2 x3 ⟨q, rfl, hq, rfl⟩ hr
  unfold pX12_isHeight_4 pX12_isHeight_48
  rw [hsz]
  by_cases hqn : q < n
  · obtain ⟨g1, g2⟩ := hb (2 * q) (by omega)
    obtain ⟨g3, g4⟩ := hb (2 * q + 1) (by omega)
    have g5 := hp q hqn
    have g6 : pnS F C (b (2 * q)) h ≤ 10 := paS_le l.2.2.1
    rw [if_neg (nI_ge (by omega) (by omega)), m_octet r1 (by omega) g2, bd1_some, l.partsBy g5, bd1_some, nI_1, m_octet r1 (by omega) g4, bd1_some]
    change (if (if agS F C b h q = true then (1 : Int32) else 0) = 0 then _ else if nI (pnS F C (b (2 * q)) h) = nI (b (2 * q + 1)) then _ else _) = _
    simp (disch := omega) only [lt, jn, bd1_some, bd2_some, ix_nI, ix_lit, nI_clamp, lit_clamp, lit_add, add_lit, nI_add, nI_leI, nI_ltI, nI_eq, lit_le, le_lit, lit_lt, lt_lit, lit_eq, eq_lit, if_pos, if_neg]
    by_cases e : agS F C b h q = true
    · simp only [if_pos e]
      rw [if_neg (by decide)]
      by_cases e2 : pnS F C (b (2 * q)) h = b (2 * q + 1)
      · rw [if_pos e2]
        exact hr (m - 1) _ _ (by omega) ⟨q + 1, rfl, by omega, by rw [agS_succ, e]; simp [e2]⟩
      · rw [if_neg e2]
        exact hr (m - 1) _ _ (by omega) ⟨q + 1, rfl, by omega, by rw [agS_succ, e]; simp [e2]⟩
    · simp only [if_neg e]
      rw [if_pos trivial]
      have e' : agS F C b h q = false := by simpa using e
      exact hr (m - 1) _ _ (by omega) ⟨q + 1, rfl, by omega, by rw [agS_succ, e']; simp⟩
  · have e : q = n := by omega
    subst e
    rw [if_pos (nI_le (Nat.le_refl _) (by omega)), bz_ite]
theorem mx_up {c d : Nat → Nat} {n x : Nat} (hx : x < n) (h1 : c x ≤ d x) (h2 : ∀ i, i < n → i ≠ x → d i = c i) : mxS d n = if mxS c n ≤ d x then d x else mxS c n := by
  by_cases e : mxS c n ≤ d x
  · rw [if_pos e]
    apply Nat.le_antisymm
    · apply mxS_le
      intro i hi
      by_cases ei : i = x
      · rw [ei]; exact Nat.le_refl _
      · rw [h2 i hi ei]
        exact Nat.le_trans (mxS_ge hi) e
    · exact mxS_ge hx
  · rw [if_neg e]
    apply Nat.le_antisymm
    · apply mxS_le
      intro i hi
      by_cases ei : i = x
      · rw [ei]; omega
      · rw [h2 i hi ei]
        exact mxS_ge hi
    · apply mxS_le
      intro i hi
      by_cases ei : i = x
      · rw [ei]
        exact Nat.le_trans h1 (mxS_ge hx)
      · rw [← h2 i hi ei]
        exact mxS_ge hi
theorem m_leftBy {R : Rf} {T : Mm} {F : Nat → Nat} {C : Nat → Int32} (l : LV R T F C) (r32 : R 105 32 = 115) (r33 : R 105 33 = 116) {H : Nat → Bool} (h0 : H 0 = false) (hH : ∀ h, 1 ≤ h → h ≤ 30 → T.1 115 h = if H h = true then 1 else 0) {p : Nat} (hp : p < F 0) : ∃ U, pX12_leftBy R T 105 (nI p) = some (nI (mlS H (pnS F C p) 31), U) ∧ Fr (fun c => c = 116) T U := by
  have v0 := l.2.2.1.1
  have hpl : ∀ h, pnS F C p h ≤ 10 := fun h => paS_le l.2.2.1
  unfold pX12_leftBy
  refine zl2_wp (f := pX12_leftBy_2 R 105 (nI p) (pX12_leftBy_21 R 105 (nI p))) (P := fun m U x => ∃ i, x = nI i ∧ i + m = 11 ∧ Fr (fun c => c = 116) T U ∧ ∀ k, k < i → U.1 116 k = 0) (Q := fun z => ∃ U, z = some (nI (mlS H (pnS F C p) 31), U) ∧ Fr (fun c => c = 116) T U) ?_ FU 11 T 0 (by rw [FU_eq]; omega) ⟨0, rfl, by omega, Fr.refl, fun k hk => by omega⟩
  rintro m r U x ⟨i, rfl, hi, hfr, hz⟩ hr
  unfold pX12_leftBy_2
  by_cases him : i < 11
  · rw [if_neg (show ¬ (11 : Int32) ≤ nI i from nI_ge (b := 11) him (by decide)), ix_nI him (by decide), nI_clamp (by omega), r33]
    simp only [lt, nI_1]
    refine hr (m - 1) _ _ (by omega) ⟨i + 1, rfl, by omega, hfr.sw rfl, fun k hk => ?_⟩
    by_cases e : k = i
    · subst e; rw [wI_s]
    · rw [wI_n (Or.inr e)]; exact hz k (by omega)
  · have e : i = 11 := by omega
    subst e
    rw [if_pos (by decide)]
    unfold pX12_leftBy_21
    refine zl3_wp (f := pX12_leftBy_25 R 105 (nI p) (pX12_leftBy_80 R 105 (nI p))) (P := fun m V x2 x3 => ∃ h, x3 = nI h ∧ 1 ≤ h ∧ h + m = 31 ∧ Fr (fun c => c = 116) T V ∧ x2 = nI (mlS H (pnS F C p) h) ∧ ∀ k, k < 11 → V.1 116 k = nI (nmS H (pnS F C p) k h)) (Q := fun z => ∃ U, z = some (nI (mlS H (pnS F C p) 31), U) ∧ Fr (fun c => c = 116) T U) ?_ FU 30 U 0 1 (by rw [FU_eq]; omega) ⟨1, rfl, by omega, by omega, hfr, ?_, ?_⟩
    · rintro m r V x2 x3 ⟨h, rfl, h1, hm, hfV, rfl, hc⟩ hr
      have lV := l.fr (hfV 107 (by decide)).1
      unfold pX12_leftBy_25 pX12_leftBy_80
      by_cases h31 : h < 31
      · have e115 : V.1 115 h = if H h = true then 1 else 0 := by rw [(hfV 115 (by decide)).1]; exact hH h h1 (by omega)
        rw [if_neg (show ¬ (30 : Int32) < nI h from nI_nlt (a := 30) (by omega) (by decide)), ix_nI h31 (by decide), nI_clamp (by omega), r32, e115]
        simp only [lt, nI_1]
        cases z : H h with
        | false =>
          rw [if_neg (show ¬ false = true by decide), if00]
          have hsame : ∀ k, nmS H (pnS F C p) k (h + 1) = nmS H (pnS F C p) k h := fun k => by rw [nmS_succ, z]; rfl
          refine hr (m - 1) _ _ _ (by omega) ⟨h + 1, rfl, by omega, by omega, hfV, ?_, fun k hk => by rw [hsame, hc k hk]⟩
          unfold mlS
          rw [mxS_congr (fun k _ => hsame k)]
        | true =>
          have hpB : pX12_partsBy R V 105 (nI p) (nI h) = some (nI (pnS F C p h)) := lV.partsBy hp (nI h)
          have hq := hpl h
          have hcq := hc (pnS F C p h) (by omega)
          have hle := nmS_le (H := H) (q := pnS F C p) (x := pnS F C p h) (m := h)
          have hml : mlS H (pnS F C p) h ≤ h := mxS_le (fun i _ => nmS_le)
          rw [if_pos rfl, if10, hpB, bd1_some, ix_nI (by omega) (by decide), ix_nI (by omega) (by decide), ix_nI (by omega) (by decide), nI_clamp (by omega), r33, hcq, nI_1, wI_s]
          have hup : ∀ k, k < 11 → k ≠ pnS F C p h → nmS H (pnS F C p) k (h + 1) = nmS H (pnS F C p) k h := by
            intro k _ hk
            rw [nmS_succ, if_neg]
            simp only [Bool.and_eq_true, decide_eq_true_iff]
            exact fun q => hk q.2.symm
          have hup2 : nmS H (pnS F C p) (pnS F C p h) (h + 1) = nmS H (pnS F C p) (pnS F C p h) h + 1 := by
            rw [nmS_succ, if_pos]
            simp [z]
          have hmx := mx_up (c := fun x => nmS H (pnS F C p) x h) (d := fun x => nmS H (pnS F C p) x (h + 1)) (n := 11) (x := pnS F C p h) (by omega) (by rw [hup2]; omega) hup
          rw [hup2] at hmx
          have hgr : pX12_greater R (wI V 116 (pnS F C p h) (nI (nmS H (pnS F C p) (pnS F C p h) h + 1))) (nI (mlS H (pnS F C p) h)) (nI (nmS H (pnS F C p) (pnS F C p h) h + 1)) = some (nI (mlS H (pnS F C p) (h + 1))) := by
            unfold pX12_greater
            simp (disch := omega) only [nI_leI]
            unfold mlS
            rw [hmx]
            by_cases e : mxS (fun x => nmS H (pnS F C p) x h) 11 ≤ nmS H (pnS F C p) (pnS F C p h) h + 1
            · rw [if_pos e, if_pos e]
            · rw [if_neg e, if_neg e]
          rw [hgr, bd1_some]
          refine hr (m - 1) _ _ _ (by omega) ⟨h + 1, rfl, by omega, by omega, hfV.sw rfl, rfl, fun k hk => ?_⟩
          by_cases ek : k = pnS F C p h
          · rw [ek, wI_s, hup2]
          · rw [wI_n (Or.inr ek), hc k hk, hup k hk ek]
      · have e : h = 31 := by omega
        subst e
        rw [if_pos (by decide)]
        exact ⟨V, rfl, hfV⟩
    · have : mlS H (pnS F C p) 1 = 0 := by
        apply Nat.le_antisymm
        · apply mxS_le
          intro k hk
          rw [show (1 : Nat) = 0 + 1 from rfl, nmS_succ, h0]
          exact Nat.le_refl _
        · exact Nat.zero_le _
      rw [this]
      rfl
    · intro k hk
      rw [hz k hk, show (1 : Nat) = 0 + 1 from rfl, nmS_succ, h0]
      rfl
