/-! Tape.readToken and begin -/
theorem en_ok {b : Nat → Nat} {L s : Nat} (hs : s < L) : s < enS b L s ∧ enS b L s ≤ L := by
  unfold enS
  by_cases e : alB (b s) = true
  · rw [if_pos e]; exact alB_lt hs e
  · rw [if_neg e]; omega
theorem sk_ok {b : Nat → Nat} {L p : Nat} (hp : p ≤ L) : p ≤ skS b L p ∧ skS b L p ≤ L := by
  obtain ⟨a1, a2, _, _⟩ := fd_ok (c := fun k => !blB (b k)) (p := p) (L := L) hp
  exact ⟨a1, a2⟩
theorem c_readToken {R : Rf} {T : Mm} {b : Nat → Nat} {L s t : Nat} (hR : RT R) (hX : XC T b L) (hs : s < L) (hbl : blB (b s) = false) (ht : t ≤ 940) (h5 : T.1 1 5 = nI t) : ∃ V, pX10_readToken R T 1 (nI s) = some (nI (enS b L s), V) ∧ FY T V ∧ V.1 1 5 = nI (t + 1) ∧ (∀ i, i ≠ 5 → V.1 1 i = T.1 1 i) ∧ CTk V b L s t ∧ ∀ u, u ≠ t → V.1 3 u = T.1 3 u ∧ V.1 4 u = T.1 4 u ∧ V.1 5 u = T.1 5 u ∧ V.2 6 u = T.2 6 u := by
  obtain ⟨hL, h1, hbb, hkw⟩ := id hX
  obtain ⟨q0, q7, q8, q9, q10, q11⟩ := id hR
  have hb1 := (hbb _ hs).1
  have hn32 : ¬ b s = 32 := fun z => by unfold blB at hbl; rw [z] at hbl; cases hbl
  have hn10 : ¬ b s = 10 := fun z => by unfold blB at hbl; rw [z] at hbl; cases hbl
  have h37 : alB (b s) = true → ∃ V, pX10_readToken_37 R 1 (nI s) T = some (nI (enS b L s), V) ∧ FY T V ∧ V.1 1 5 = nI (t + 1) ∧ (∀ i, i ≠ 5 → V.1 1 i = T.1 1 i) ∧ CTk V b L s t ∧ ∀ u, u ≠ t → V.1 3 u = T.1 3 u ∧ V.1 4 u = T.1 4 u ∧ V.1 5 u = T.1 5 u ∧ V.2 6 u = T.2 6 u := by
    intro hal
    obtain ⟨V, v1, v2⟩ := c_readRun hR hX hs hal ht h5
    refine ⟨V, ?_, v2⟩
    unfold pX10_readToken_37 enS
    rw [v1, bd2_some, if_pos hal]
  have h73 : alB (b s) = false → ∀ f : Int32, f = (if mkB (b s) = true then 1 else 0) → ∃ V, pX10_readToken_73 R 1 (nI s) T (nI (b s)) f = some (nI (enS b L s), V) ∧ FY T V ∧ V.1 1 5 = nI (t + 1) ∧ (∀ i, i ≠ 5 → V.1 1 i = T.1 1 i) ∧ CTk V b L s t ∧ ∀ u, u ≠ t → V.1 3 u = T.1 3 u ∧ V.1 4 u = T.1 4 u ∧ V.1 5 u = T.1 5 u ∧ V.2 6 u = T.2 6 u := by
    intro hal f hf
    have hen : enS b L s = s + 1 := by unfold enS; rw [if_neg (by rw [hal]; decide)]
    have hk : tkK b L s = if mkB (b s) = true then 5 else 1 := by
      unfold tkK
      rw [if_neg (by rw [hal]; decide)]
    have htv : tkV b L s = b s := by
      unfold tkV
      rw [if_neg (by rw [hal]; decide)]
    have go : ∀ k : Nat, tkK b L s = k → (k = 5 ∨ k = 1) → ∃ V, pX10_readToken_84 R 1 (nI s) T (nI (b s)) 1 (nI k) = some (nI (enS b L s), V) ∧ FY T V ∧ V.1 1 5 = nI (t + 1) ∧ (∀ i, i ≠ 5 → V.1 1 i = T.1 1 i) ∧ CTk V b L s t ∧ ∀ u, u ≠ t → V.1 3 u = T.1 3 u ∧ V.1 4 u = T.1 4 u ∧ V.1 5 u = T.1 5 u ∧ V.2 6 u = T.2 6 u := by
      intro k hkk hk5
      unfold pX10_readToken_84
      rw [c_add hR ht h5, bd1_some, nI_1, hen]
      have ha := adS_t (T := T) (t := t) (k := nI k) (s := nI s) (v := nI (b s)) (j := 0)
      exact ⟨_, rfl, adS_fy, adS_5, fun i hi => adS_1 hi, ⟨by rw [ha.1, hkk], ha.2.1, fun z => by rw [ha.2.2.1, htv], fun z => by omega⟩, fun u hu => adS_n hu⟩
    unfold pX10_readToken_73
    by_cases y : mkB (b s) = true
    · rw [if_pos y] at hf hk
      rw [hf, if10]
      exact go 5 hk (Or.inl rfl)
    · rw [if_neg y] at hf hk
      rw [hf, if00]
      exact go 1 hk (Or.inr rfl)
  unfold pX10_readToken
  rw [ix_nI (by omega) (by decide), nI_clamp (by omega), q0, (hbb _ hs).2]
  simp only [lt]
  rw [if_neg (show ¬ nI (b s) = 32 from fun z => hn32 ((nI_eq (b := 32) (by omega) (by decide)).mp z)), if_neg (show ¬ nI (b s) = 10 from fun z => hn10 ((nI_eq (b := 10) (by omega) (by decide)).mp z)), c_isSmallN hb1, bd1_some]
  by_cases es : smB (b s) = true
  · rw [if_pos es, if10]
    exact h37 (by unfold alB; rw [es]; rfl)
  · have es' : smB (b s) = false := by simpa using es
    rw [if_neg es, if00, c_isDigitN hb1, bd1_some]
    by_cases ed : dgB (b s) = true
    · rw [if_pos ed, if10]
      exact h37 (by unfold alB; rw [ed]; exact Bool.or_true _)
    · have ed' : dgB (b s) = false := by simpa using ed
      have hal : alB (b s) = false := by unfold alB; rw [es', ed']; rfl
      rw [if_neg ed, if00]
      unfold pX10_readToken_68 pX10_isSign
      simp (disch := omega) only [eq_lit]
      by_cases c1 : b s = 59
      · rw [if_pos c1]; exact h73 hal 1 (by rw [if_pos]; simp [mkB, c1])
      · rw [if_neg c1]
        by_cases c2 : b s = 40
        · rw [if_pos c2]; exact h73 hal 1 (by rw [if_pos]; simp [mkB, c2])
        · rw [if_neg c2]
          by_cases c3 : b s = 41
          · rw [if_pos c3]; exact h73 hal 1 (by rw [if_pos]; simp [mkB, c3])
          · rw [if_neg c3]
            by_cases c4 : b s = 60
            · rw [if_pos c4, bd1_some, if10]; exact h73 hal 1 (by rw [if_pos]; simp [mkB, c4])
            · rw [if_neg c4]
              by_cases c5 : b s = 61
              · rw [if_pos c5, bd1_some, if10]; exact h73 hal 1 (by rw [if_pos]; simp [mkB, c5])
              · rw [if_neg c5]
                by_cases c6 : b s = 62
                · rw [if_pos c6, bd1_some, if10]; exact h73 hal 1 (by rw [if_pos]; simp [mkB, c6])
                · rw [if_neg c6, bd1_some, if00]
                  refine h73 hal 0 ?_
                  rw [if_neg]
                  unfold mkB
                  simp [c1, c2, c3]
                  omega
theorem c_readBlank {R : Rf} {T : Mm} {b : Nat → Nat} {L s : Nat} (hR : RT R) (hX : XC T b L) (hs : s < L) (hbl : blB (b s) = true) : pX10_readToken R T 1 (nI s) = some (nI (s + 1), T) := by
  obtain ⟨hL, h1, hbb, hkw⟩ := id hX
  obtain ⟨q0, q7, q8, q9, q10, q11⟩ := id hR
  have hb1 := (hbb _ hs).1
  unfold pX10_readToken
  rw [ix_nI (by omega) (by decide), nI_clamp (by omega), q0, (hbb _ hs).2]
  simp only [lt]
  rw [nI_1]
  unfold blB at hbl
  simp only [Bool.or_eq_true, decide_eq_true_iff] at hbl
  rcases hbl with z | z
  · rw [z, if_pos (show nI 32 = 32 from rfl)]
  · rw [z, if_neg (show ¬ nI 10 = 32 by decide), if_pos (show nI 10 = 10 from rfl)]
/-- the class's TOKENS, read ahead: n of them, then the end -/
def CTS (V : Mm) (b : Nat → Nat) (L M n : Nat) : Prop := n ≤ 940 ∧ V.1 1 5 = nI (n + 1) ∧ V.1 1 4 = (if M < L then 1 else 0) ∧ (∀ t, t < n → skS b L (scS b L t) < min L M ∧ CTk V b L (skS b L (scS b L t)) t) ∧ scS b L n ≤ L ∧ min L M ≤ skS b L (scS b L n) ∧ V.1 3 n = 0 ∧ V.1 4 n = nI (min L M)
theorem c_begin {R : Rf} {T : Mm} {b : Nat → Nat} {L M : Nat} (hR : RT R) (hX : XC T b L) (hM : M ≤ 940) : ∃ V n, pX10_begin R T 1 (nI M) = some V ∧ FY T V ∧ V.1 1 2 = 0 ∧ V.1 1 3 = 0 ∧ V.1 1 6 = 0 ∧ CTS V b L M n := by
  obtain ⟨hL, h1, hbb, hkw⟩ := id hX
  have h23 : ∀ f : Int32, f = (if M < L then 1 else 0) → ∃ V n, pX10_begin_23 R 1 (nI M) T (nI (min L M)) 1 f = some V ∧ FY T V ∧ V.1 1 2 = 0 ∧ V.1 1 3 = 0 ∧ V.1 1 6 = 0 ∧ CTS V b L M n := by
    intro f hf
    unfold pX10_begin_23
    rw [hf, bz_ite, ← hf]
    simp only [lt]
    generalize hT6 : wI (wI (wI (wI (wI T 1 4 f) 1 2 0) 1 3 0) 1 5 0) 1 6 0 = T6
    have f6 : FY T T6 := by
      rw [← hT6]
      exact ((((FY.w1 (by decide)).trans (FY.w1 (by decide))).trans (FY.w1 (by decide))).trans (FY.w1 (by decide))).trans (FY.w1 (by decide))
    have g2 : T6.1 1 2 = 0 := by rw [← hT6, wI_n (Or.inr (by decide)), wI_n (Or.inr (by decide)), wI_n (Or.inr (by decide)), wI_s]
    have g3 : T6.1 1 3 = 0 := by rw [← hT6, wI_n (Or.inr (by decide)), wI_n (Or.inr (by decide)), wI_s]
    have g4 : T6.1 1 4 = f := by rw [← hT6, wI_n (Or.inr (by decide)), wI_n (Or.inr (by decide)), wI_n (Or.inr (by decide)), wI_n (Or.inr (by decide)), wI_s]
    have g5 : T6.1 1 5 = 0 := by rw [← hT6, wI_n (Or.inr (by decide)), wI_s]
    have g6 : T6.1 1 6 = 0 := by rw [← hT6, wI_s]
    clear hT6
    refine zl3_wp (f := pX10_begin_48 R 1 (nI M) (pX10_begin_68 R 1 (nI M))) (P := fun m U x2 x3 => x2 = nI (min L M) ∧ ∃ q t, x3 = nI q ∧ q + m = 940 + L ∧ t ≤ q ∧ (q < min L M → t ≤ 939) ∧ t ≤ 940 ∧ q ≤ L ∧ FY T6 U ∧ U.1 1 5 = nI t ∧ (∀ i, i ≠ 5 → U.1 1 i = T6.1 1 i) ∧ scS b L t ≤ L ∧ skS b L q = skS b L (scS b L t) ∧ ∀ u, u < t → skS b L (scS b L u) < min L M ∧ CTk U b L (skS b L (scS b L u)) u) (Q := fun z => ∃ V n, z = some V ∧ FY T V ∧ V.1 1 2 = 0 ∧ V.1 1 3 = 0 ∧ V.1 1 6 = 0 ∧ CTS V b L M n) ?_ FU (940 + L) T6 _ 0 (by rw [FU_eq]; omega) ⟨rfl, 0, 0, rfl, by omega, by omega, fun _ => by omega, by omega, by omega, FY.refl, g5, fun _ _ => rfl, Nat.zero_le _, rfl, fun u hu => by omega⟩
    rintro m r U x2 x3 ⟨rfl, q, t, rfl, hqm, htq, ht9, ht940, hqL, fU, u5, ui, hsc, hsk, htok⟩ hr
    unfold pX10_begin_48 pX10_begin_68
    by_cases hlt : q < min L M
    · have hXU := (hX.fy f6).fy fU
      rw [if_neg (nI_ge hlt (by omega))]
      by_cases hbl : blB (b q) = true
      · rw [c_readBlank hR hXU (by omega) hbl, bd2_some, nI_1, if_neg (nI_nlt (Nat.le_refl _) (by omega))]
        simp only [lt]
        refine hr (m - 1) _ _ _ (by omega) ⟨rfl, q + 1, t, rfl, by omega, by omega, fun _ => by omega, ht940, by omega, fU, u5, ui, hsc, ?_, htok⟩
        rw [← hsk]
        unfold skS
        exact (fd_step (by omega) (by rw [hbl]; rfl)).symm
      · have hbl' : blB (b q) = false := by simpa using hbl
        have hskq : skS b L q = q := fd_is (Nat.le_refl _) (by omega) (fun j h1 h2 => by omega) (fun h => by rw [hbl']; rfl)
        obtain ⟨V, v1, v2, v3, v4, v5, v6⟩ := c_readToken hR hXU (s := q) (by omega) hbl' ht940 u5
        obtain ⟨e1, e2⟩ := en_ok (b := b) (L := L) (s := q) (by omega)
        have hmax : (if nI q + 1 < nI (enS b L q) then nI (enS b L q) else nI q + 1) = nI (enS b L q) := by
          rw [nI_1]
          by_cases z : q + 1 < enS b L q
          · rw [if_pos (nI_lt z (by omega))]
          · rw [if_neg (nI_nlt (by omega) (by omega))]
            congr 1
            omega
        rw [v1, bd2_some, hmax]
        simp only [lt]
        have hscn : scS b L (t + 1) = enS b L q := by
          show enS b L (skS b L (scS b L t)) = _
          rw [← hsk, hskq]
        refine hr (940 + L - enS b L q) _ _ _ (by omega) ⟨rfl, enS b L q, t + 1, rfl, by omega, by omega, fun _ => by omega, by omega, e2, fU.trans v2, v3, fun i hi => by rw [v4 i hi, ui i hi], by rw [hscn]; exact e2, by rw [hscn], fun u hu => ?_⟩
        by_cases eu : u = t
        · subst eu
          rw [← hsk, hskq]
          exact ⟨hlt, v5⟩
        · obtain ⟨w1, w2⟩ := htok u (by omega)
          obtain ⟨y1, y2, y3, y4⟩ := v6 u eu
          refine ⟨w1, ?_⟩
          unfold CTk at *
          rw [y1, y2, y3, y4]
          exact w2
    · rw [if_pos (nI_le (by omega) (by omega)), c_add hR ht940 u5, bd1_some]
      have ha := adS_t (T := U) (t := t) (k := 0) (s := nI (min L M)) (v := -1) (j := 0)
      refine ⟨_, t, rfl, (f6.trans fU).trans adS_fy, ?_, ?_, ?_, ht940, adS_5, ?_, fun u hu => ?_, hsc, ?_, ha.1, ha.2.1⟩
      · rw [adS_1 (by decide), ui 2 (by decide), g2]
      · rw [adS_1 (by decide), ui 3 (by decide), g3]
      · rw [adS_1 (by decide), ui 6 (by decide), g6]
      · rw [adS_1 (by decide), ui 4 (by decide), g4, hf]
      · obtain ⟨w1, w2⟩ := htok u hu
        obtain ⟨y1, y2, y3, y4⟩ := adS_n (T := U) (t := t) (u := u) (k := 0) (s := nI (min L M)) (v := -1) (j := 0) (by omega)
        refine ⟨w1, ?_⟩
        unfold CTk at *
        rw [y1, y2, y3, y4]
        exact w2
      · rw [← hsk]
        have := (sk_ok (b := b) (L := L) (p := q) hqL).1
        omega
  unfold pX10_begin
  rw [h1]
  simp only [lt]
  by_cases c : M < L
  · rw [if_pos (nI_lt c (by omega)), if_neg (fun z => by have := (nI_leI (by omega) (by omega)).mp z; omega)]
    have := h23 1 (by rw [if_pos c])
    rwa [show min L M = M by omega] at this
  · rw [if_neg (nI_nlt (by omega) (by omega)), if_pos (nI_le (by omega) (by omega))]
    have := h23 0 (by rw [if_neg c])
    rwa [show min L M = L by omega] at this
