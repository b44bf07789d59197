/-! Tape.readRun, readToken, begin -/
theorem alB_lt {b : Nat → Nat} {L s : Nat} (hs : s < L) (hal : alB (b s) = true) : s < reS b L s ∧ reS b L s ≤ L := by
  obtain ⟨a1, a2, a3, a4⟩ := fd_ok (c := fun k => !alB (b k)) (p := s) (L := L) (by omega)
  refine ⟨?_, a2⟩
  rcases Nat.lt_or_ge s (fd (fun k => !alB (b k)) s L) with z | z
  · exact z
  · have ez : fd (fun k => !alB (b k)) s L = s := by omega
    have := a4 (by omega)
    rw [ez, hal] at this
    cases this
theorem c_readRun {R : Rf} {T : Mm} {b : Nat → Nat} {L s t : Nat} (hR : RT R) (hX : XC T b L) (hs : s < L) (hal : alB (b s) = true) (ht : t ≤ 940) (h5 : T.1 1 5 = nI t) : ∃ V, pX10_readRun R T 1 (nI s) = some (nI (reS b L s), V) ∧ FY T V ∧ V.1 1 5 = nI (t + 1) ∧ (∀ i, i ≠ 5 → V.1 1 i = T.1 1 i) ∧ CTk V b L s t ∧ ∀ u, u ≠ t → V.1 3 u = T.1 3 u ∧ V.1 4 u = T.1 4 u ∧ V.1 5 u = T.1 5 u ∧ V.2 6 u = T.2 6 u := by
  obtain ⟨hL, h1, hbb, hkw⟩ := id hX
  obtain ⟨q0, q7, q8, q9, q10, q11⟩ := id hR
  obtain ⟨hr1, hr2⟩ := alB_lt hs hal
  obtain ⟨a1, a2, a3, a4⟩ := fd_ok (c := fun k => !alB (b k)) (p := s) (L := L) (by omega)
  have hre : reS b L s = fd (fun k => !alB (b k)) s L := rfl
  rw [← hre] at a1 a2 a3 a4
  have hsum := ns_nd (b := b) (p := s) (reS b L s - s)
  have hk : tkK b L s = if nsS b s (reS b L s - s) = 0 ∧ reS b L s - s ≤ 3 then 2 else if ndS b s (reS b L s - s) = 0 ∧ reS b L s - s ≤ 7 then (if kwS (wlS b s (reS b L s - s)) = none then 3 else 4) else 1 := by
    unfold tkK
    rw [if_pos hal]
  have hv : tkV b L s = if nsS b s (reS b L s - s) = 0 ∧ reS b L s - s ≤ 3 then numS b s (reS b L s - s) else (kwS (wlS b s (reS b L s - s))).getD 0 := by
    unfold tkV
    rw [if_pos hal]
  -- the end of it
  have fin : ∀ (k v : Int32) (j : Int64), k = nI (tkK b L s) → (tkK b L s = 2 ∨ tkK b L s = 4 ∨ tkK b L s = 5 → v = nI (tkV b L s)) → (tkK b L s = 3 ∨ tkK b L s = 4 → j = w5 (tkW b L s)) → ∃ V, bd1 (pX10_add R T 1 k (nI s) v j) (fun (T10 : Mm) => some (nI (reS b L s), T10)) = some (nI (reS b L s), V) ∧ FY T V ∧ V.1 1 5 = nI (t + 1) ∧ (∀ i, i ≠ 5 → V.1 1 i = T.1 1 i) ∧ CTk V b L s t ∧ ∀ u, u ≠ t → V.1 3 u = T.1 3 u ∧ V.1 4 u = T.1 4 u ∧ V.1 5 u = T.1 5 u ∧ V.2 6 u = T.2 6 u := by
    intro k v j g1 g2 g3
    rw [c_add hR ht h5, bd1_some]
    have ha := adS_t (T := T) (t := t) (k := k) (s := nI s) (v := v) (j := j)
    exact ⟨_, rfl, adS_fy, adS_5, fun i hi => adS_1 hi, ⟨by rw [ha.1, g1], ha.2.1, fun z => by rw [ha.2.2.1, g2 z], fun z => by rw [ha.2.2.2, g3 z]⟩, fun u hu => adS_n hu⟩
  unfold pX10_readRun
  refine zl6_wp (f := pX10_readRun_13 R 1 (nI s) (pX10_readRun_108 R 1 (nI s))) (P := fun m U x2 x3 x4 j5 x7 => U = T ∧ ∃ j, s + j + m = reS b L s ∧ x7 = nI (s + j) ∧ x2 = nI (nsS b s j) ∧ x3 = nI (ndS b s j) ∧ (nsS b s j = 0 → x4 = nI (numS b s j)) ∧ (ndS b s j = 0 → j ≤ 7 → j5 = lN (enB 32 96 (wlS b s j)))) (Q := fun z => ∃ V, z = some (nI (reS b L s), V) ∧ FY T V ∧ V.1 1 5 = nI (t + 1) ∧ (∀ i, i ≠ 5 → V.1 1 i = T.1 1 i) ∧ CTk V b L s t ∧ ∀ u, u ≠ t → V.1 3 u = T.1 3 u ∧ V.1 4 u = T.1 4 u ∧ V.1 5 u = T.1 5 u ∧ V.2 6 u = T.2 6 u) ?_ FU (reS b L s - s) T 0 0 0 0 (nI s) (by rw [FU_eq]; omega) ⟨rfl, 0, by omega, rfl, rfl, rfl, fun _ => rfl, fun _ _ => rfl⟩
  rintro m r U x2 x3 x4 j5 x7 ⟨rfl, j, hj, rfl, rfl, rfl, hn, hw⟩ hr
  have hns := cnt_succ (fun i => smB (b (s + i))) j
  have hnd := cnt_succ (fun i => !smB (b (s + i))) j
  have hsj := ns_nd (b := b) (p := s) j
  change nsS b s (j + 1) = (if smB (b (s + j)) = true then nsS b s j + 1 else nsS b s j) at hns
  change ndS b s (j + 1) = (if (!smB (b (s + j))) = true then ndS b s j + 1 else ndS b s j) at hnd
  have hexit : m = 0 → ∃ V, pX10_readRun_108 R 1 (nI s) U (nI (nsS b s j)) (nI (ndS b s j)) x4 j5 (nI (s + j)) = some (nI (reS b L s), V) ∧ FY U V ∧ V.1 1 5 = nI (t + 1) ∧ (∀ i, i ≠ 5 → V.1 1 i = U.1 1 i) ∧ CTk V b L s t ∧ ∀ u, u ≠ t → V.1 3 u = U.1 3 u ∧ V.1 4 u = U.1 4 u ∧ V.1 5 u = U.1 5 u ∧ V.2 6 u = U.2 6 u := by
    intro hm
    have ej : s + j = reS b L s := by omega
    have ejs : reS b L s - s = j := by omega
    rw [ejs] at hk hv hsum
    have hwl : tkW b L s = wlS b s j := by unfold tkW; rw [ejs]
    have h170 : (nsS b s j = 0 ∧ j ≤ 3 → False) → (ndS b s j = 0 ∧ j ≤ 7 → False) → ∃ V, pX10_readRun_170 R 1 (nI s) U (nI (s + j)) = some (nI (reS b L s), V) ∧ FY U V ∧ V.1 1 5 = nI (t + 1) ∧ (∀ i, i ≠ 5 → V.1 1 i = U.1 1 i) ∧ CTk V b L s t ∧ ∀ u, u ≠ t → V.1 3 u = U.1 3 u ∧ V.1 4 u = U.1 4 u ∧ V.1 5 u = U.1 5 u ∧ V.2 6 u = U.2 6 u := by
      intro z1 z2
      rw [if_neg z1, if_neg z2] at hk
      unfold pX10_readRun_170
      rw [ej]
      exact fin 1 (-1) 0 (by rw [hk]; rfl) (fun z => by omega) (fun z => by omega)
    have h129 : (nsS b s j = 0 ∧ j ≤ 3 → False) → ∃ V, pX10_readRun_129 R 1 (nI s) U (nI (nsS b s j)) (nI (ndS b s j)) j5 (nI (s + j)) = some (nI (reS b L s), V) ∧ FY U V ∧ V.1 1 5 = nI (t + 1) ∧ (∀ i, i ≠ 5 → V.1 1 i = U.1 1 i) ∧ CTk V b L s t ∧ ∀ u, u ≠ t → V.1 3 u = U.1 3 u ∧ V.1 4 u = U.1 4 u ∧ V.1 5 u = U.1 5 u ∧ V.2 6 u = U.2 6 u := by
      intro z1
      unfold pX10_readRun_129 pX10_readRun_159
      by_cases e0 : ndS b s j = 0
      · rw [e0, if_pos (show nI 0 = 0 from rfl)]
        by_cases e7 : j ≤ 7
        · rw [if_neg (show ¬ (7 : Int32) < nI (nsS b s j) from nI_nlt (a := 7) (by omega) (by decide))]
          rw [if_neg z1, if_pos (show ndS b s j = 0 ∧ j ≤ 7 from ⟨e0, e7⟩)] at hk
          rw [if_neg z1] at hv
          have hj5 : j5 = w5 (wlS b s j) := hw e0 e7
          have hIW : IW (wlS b s j) := by
            rw [← hwl]
            refine tkW_IW hs ?_
            by_cases y : kwS (wlS b s j) = none
            · rw [if_pos y] at hk; exact Or.inl hk
            · rw [if_neg y] at hk; exact Or.inr hk
          rw [hj5, c_keywordOf hR hkw hIW, bd1_some, ej]
          cases y : kwS (wlS b s j) with
          | none =>
            rw [y, if_pos rfl] at hk
            rw [oI_none, if_pos rfl]
            exact fin 3 (-1) _ (by rw [hk]; rfl) (fun z => by omega) (fun _ => by rw [hwl])
          | some q =>
            have hq24 := (fst_some 24 0 q y).2.1
            rw [y, if_neg (by simp)] at hk
            rw [y] at hv
            rw [oI_some, if_neg (ne_m1 (by omega))]
            exact fin 4 (nI q) _ (by rw [hk]; rfl) (fun _ => by rw [hv]; rfl) (fun _ => by rw [hwl])
        · rw [if_pos (show (7 : Int32) < nI (nsS b s j) from nI_lt (a := 7) (by omega) (by omega))]
          exact h170 z1 (fun z => e7 z.2)
      · rw [if_neg (nI_ne0 (by omega) (by omega))]
        exact h170 z1 (fun z => e0 z.1)
    unfold pX10_readRun_108
    by_cases e0 : nsS b s j = 0
    · rw [e0, if_pos (show nI 0 = 0 from rfl)]
      by_cases e3 : j ≤ 3
      · rw [if_neg (show ¬ (3 : Int32) < nI (ndS b s j) from nI_nlt (a := 3) (by omega) (by decide)), ej]
        rw [if_pos (show nsS b s j = 0 ∧ j ≤ 3 from ⟨e0, e3⟩)] at hk hv
        rw [hn e0]
        exact fin 2 _ 0 (by rw [hk]; rfl) (fun _ => by rw [hv]) (fun z => by omega)
      · rw [if_pos (show (3 : Int32) < nI (ndS b s j) from nI_lt (a := 3) (by omega) (by omega))]
        have := h129 (fun z => e3 z.2)
        rw [e0] at this
        exact this
    · rw [if_neg (nI_ne0 (by omega) (by omega))]
      exact h129 (fun z => e0 z.1)
  unfold pX10_readRun_13
  rw [h1]
  by_cases hm : m = 0
  · have ej : s + j = reS b L s := by omega
    by_cases hlt : s + j < L
    · have hb1 := (hbb _ hlt).1
      have hno : alB (b (s + j)) = false := by
        have := a4 (by omega)
        rw [← ej] at this
        simpa using this
      have hns' : smB (b (s + j)) = false := by
        unfold alB at hno
        exact (Bool.or_eq_false_iff.mp hno).1
      have hnd' : dgB (b (s + j)) = false := by
        unfold alB at hno
        exact (Bool.or_eq_false_iff.mp hno).2
      rw [if_neg (nI_ge hlt (by omega)), ix_nI (by omega) (by decide), ix_nI (by omega) (by decide), nI_clamp (by omega), q0, (hbb _ hlt).2, c_isSmallN hb1, hns', bd1_some, if_neg (show ¬ false = true by decide), if00, c_isDigitN hb1, hnd', bd1_some, if_neg (show ¬ false = true by decide), if00]
      exact hexit hm
    · rw [if_pos (nI_le (by omega) (by omega))]
      exact hexit hm
  · have hlt : s + j < L := by omega
    have hb1 := (hbb _ hlt).1
    have halj : alB (b (s + j)) = true := by
      have := a3 (s + j) (by omega) (by omega)
      simpa using this
    have h48 : ∃ V, pX10_readRun_48 R 1 (nI s) r (pX10_readRun_108 R 1 (nI s)) U (nI (nsS b s j)) (nI (ndS b s j)) x4 j5 (nI (s + j)) = some (nI (reS b L s), V) ∧ FY U V ∧ V.1 1 5 = nI (t + 1) ∧ (∀ i, i ≠ 5 → V.1 1 i = U.1 1 i) ∧ CTk V b L s t ∧ ∀ u, u ≠ t → V.1 3 u = U.1 3 u ∧ V.1 4 u = U.1 4 u ∧ V.1 5 u = U.1 5 u ∧ V.2 6 u = U.2 6 u := by
      unfold pX10_readRun_48 pX10_longer
      rw [ix_nI (by omega) (by decide), nI_clamp (by omega), q0, (hbb _ hlt).2, c_isSmallN hb1, bd1_some]
      by_cases es : smB (b (s + j)) = true
      · rw [if_pos es] at hns
        rw [es, if_neg (show ¬ (!true) = true by decide)] at hnd
        rw [if_pos es, if10]
        simp only [lt]
        rw [ix_nI (by omega) (by decide), bd1_some, nI_1, nI_1]
        refine hr (m - 1) _ _ _ _ _ _ (by omega) ⟨rfl, j + 1, by omega, rfl, by rw [hns], by rw [hnd], fun z => by omega, fun z1 z2 => ?_⟩
        rw [hw (by omega) (by omega), wlS_succ]
        refine w5_long (sm_256 es) ?_
        have hle := enB_lt (B := 32) (o := 96) (by decide) j (wlS b s j) wlS_len (fun c hc => by
          obtain ⟨i, hi, rfl⟩ := wlS_mem hc
          have hsi : smB (b (s + i)) = true := by
            cases y : smB (b (s + i)) with
            | true => rfl
            | false =>
              have : 0 < ndS b s j := cnt_pos hi (by rw [y]; rfl)
              omega
          have := sm_256 hsi
          omega)
        have h6 : 32 ^ j ≤ 32 ^ 7 := Nat.pow_le_pow_right (by decide) (by omega)
        have h7 : (32 : Nat) ^ 7 ≤ 2 ^ 40 := by decide
        omega
      · have es' : smB (b (s + j)) = false := by simpa using es
        have hdg : dgB (b (s + j)) = true := by
          unfold alB at halj
          rw [es'] at halj
          simpa using halj
        have h48' := dg_256 hdg
        rw [if_neg es] at hns
        rw [es', if_pos (show (!false) = true from rfl)] at hnd
        rw [if_neg es, if00]
        simp only [lt]
        rw [ix_nI (by omega) (by decide), nI_1, nI_1]
        refine hr (m - 1) _ _ _ _ _ _ (by omega) ⟨rfl, j + 1, by omega, rfl, by rw [hns], by rw [hnd], fun z => ?_, fun z1 z2 => by omega⟩
        rw [hn (by omega), numS_succ, show (10 : Int32) = nI 10 from rfl, pk_mul, nI_add, show (48 : Int32) = nI 48 from rfl, pk_sub (by omega)]
        congr 1
        omega
    rw [if_neg (nI_ge hlt (by omega)), ix_nI (by omega) (by decide), ix_nI (by omega) (by decide), nI_clamp (by omega), q0, (hbb _ hlt).2, c_isSmallN hb1, bd1_some]
    by_cases es : smB (b (s + j)) = true
    · rw [if_pos es, if10]
      exact h48
    · have es' : smB (b (s + j)) = false := by simpa using es
      have hdg : dgB (b (s + j)) = true := by
        unfold alB at halj
        rw [es'] at halj
        simpa using halj
      rw [if_neg es, if00, c_isDigitN hb1, bd1_some, if_pos hdg, if10]
      exact h48
