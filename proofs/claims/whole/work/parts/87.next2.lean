/-! GoingOverModel.next, whole -/
theorem m_next80 {R : Rf} {T : Mm} {b : Nat → Nat} {L M s : Nat} (r1 : R 105 1 = 106) (hX : XM T b L M) (hs : s ≤ L) (hp : T.1 105 4 = nI s) (hsp : T.1 105 13 = 0) (hat : T.1 105 12 = nI s) (hnb : s < L → blB (b s) = false) : ∃ V, pX12_next_80 R 105 T = some V ∧ FX T V ∧ V.1 105 12 = nI s ∧ (s = L → V.1 105 11 = 0) ∧ (s < L → V.1 105 4 = nI (enS b L s) ∧ (tkK b L s = 1 → V.1 105 11 = 4) ∧ (tkK b L s = 2 → V.1 105 11 = 2 ∧ V.1 105 14 = nI (tkV b L s)) ∧ (tkK b L s = 3 ∨ tkK b L s = 4 → V.1 105 11 = 1 ∧ V.2 105 17 = w8 (tkW b L s)) ∧ (tkK b L s = 5 → V.1 105 11 = 3 ∧ V.1 105 14 = nI (tkV b L s))) := by
  obtain ⟨hL, hM, h3, h5, hbb⟩ := id hX
  have hbs : s < L → b s < 256 := fun h => (hbb s h).1
  unfold pX12_next_80
  rw [m_peek r1 hX hp hs, bd1_some]
  by_cases e : s < L
  · have hb1 := hbs e
    have hpk : pkI b L s = nI (b s) := if_pos e
    rw [if_pos (show (0 : Int32) ≤ pkI b L s by rw [hpk]; exact nI_pos' (by omega)), m_isSmallI hbs, bd1_some]
    have h145 : ∀ (v : Int32), ∃ V, pX12_next_145 R 105 T (pkI b L s) 105 v = some V ∧ FX T V ∧ V.1 105 12 = nI s ∧ V.1 105 4 = nI (s + 1) ∧ V.1 105 11 = v ∧ V.1 105 14 = nI (b s) := by
      intro v
      unfold pX12_next_145
      simp only [lt]
      refine ⟨_, rfl, ((FX.w (by decide)).trans (FX.w (by decide))).trans (FX.w (by decide)), ?_, ?_, ?_, ?_⟩
      · rw [wI_n (Or.inr (by decide)), wI_n (Or.inr (by decide)), wI_n (Or.inr (by decide)), hat]
      · rw [wI_s, wI_n (Or.inr (by decide)), wI_n (Or.inr (by decide)), hp, nI_1]
      · rw [wI_n (Or.inr (by decide)), wI_n (Or.inr (by decide)), wI_s]
      · rw [wI_n (Or.inr (by decide)), wI_s, hpk]
    have h164 : alB (b s) = true → ∃ V, pX12_next_164 R 105 T (pkI b L s) = some V ∧ FX T V ∧ V.1 105 12 = nI s ∧ (s = L → V.1 105 11 = 0) ∧ (s < L → V.1 105 4 = nI (enS b L s) ∧ (tkK b L s = 1 → V.1 105 11 = 4) ∧ (tkK b L s = 2 → V.1 105 11 = 2 ∧ V.1 105 14 = nI (tkV b L s)) ∧ (tkK b L s = 3 ∨ tkK b L s = 4 → V.1 105 11 = 1 ∧ V.2 105 17 = w8 (tkW b L s)) ∧ (tkK b L s = 5 → V.1 105 11 = 3 ∧ V.1 105 14 = nI (tkV b L s))) := by
      intro hal
      unfold pX12_next_164
      rw [m_isSmallI hbs, bd1_some]
      simp only [lt]
      have hf : (if s < L ∧ smB (b s) = true then (1 : Int32) else 0) = if smB (b s) = true then 1 else 0 := by
        by_cases z : smB (b s) = true
        · rw [if_pos ⟨e, z⟩, if_pos z]
        · rw [if_neg (fun q => z q.2), if_neg z]
      rw [hf]
      have f0 : FX T (wI (wJ T 105 17 0) 105 14 0) := FX.j.trans (FX.w (by decide))
      refine m_nrun r1 (hX.fx f0) e hal (by rw [wI_n (Or.inr (by decide))]; exact hp) (by rw [wI_n (Or.inr (by decide))]; exact hsp) wI_s (show (wJ T 105 17 0).2 105 17 = 0 from wJ_s) (pX12_next_298 R 105) (fun z => ∃ V, z = some V ∧ FX T V ∧ V.1 105 12 = nI s ∧ (s = L → V.1 105 11 = 0) ∧ (s < L → V.1 105 4 = nI (enS b L s) ∧ (tkK b L s = 1 → V.1 105 11 = 4) ∧ (tkK b L s = 2 → V.1 105 11 = 2 ∧ V.1 105 14 = nI (tkV b L s)) ∧ (tkK b L s = 3 ∨ tkK b L s = 4 → V.1 105 11 = 1 ∧ V.2 105 17 = w8 (tkW b L s)) ∧ (tkK b L s = 5 → V.1 105 11 = 3 ∧ V.1 105 14 = nI (tkV b L s)))) ?_
      intro U fU u12 u4 u13 uw un
      have hu12 : U.1 105 12 = nI s := by rw [u12, wI_n (Or.inr (by decide))]; exact hat
      have hre : reS b L s ≤ L := (fd_ok (c := fun k => !alB (b k)) (p := s) (L := L) hs).2.1
      have hen : enS b L s = reS b L s := by unfold enS; rw [if_pos hal]
      have hsum := ns_nd (b := b) (p := s) (reS b L s - s)
      have hk : tkK b L s = if nsS b s (reS b L s - s) = 0 ∧ reS b L s - s ≤ 3 then 2 else if ndS b s (reS b L s - s) = 0 ∧ reS b L s - s ≤ 7 then (if kwS (wlS b s (reS b L s - s)) = none then 3 else 4) else 1 := by
        unfold tkK
        rw [if_pos hal]
      have hpos : s < reS b L s := by
        obtain ⟨a1, a2, a3, a4⟩ := fd_ok (c := fun k => !alB (b k)) (p := s) (L := L) hs
        rcases Nat.lt_or_ge s (fd (fun k => !alB (b k)) s L) with z | z
        · exact z
        · have ez : fd (fun k => !alB (b k)) s L = s := by omega
          have := a4 (by omega)
          rw [ez, hal] at this
          cases this
      -- the first is small: not all digits; else: not all small
      have hs1 : smB (b s) = true → 0 < nsS b s (reS b L s - s) := fun z => cnt_pos (i := 0) (by omega) z
      have hd1 : smB (b s) = false → 0 < ndS b s (reS b L s - s) := fun z => cnt_pos (i := 0) (by omega) (by show (!smB (b (s + 0))) = true; rw [Nat.add_zero, z]; rfl)
      have fin : ∀ v : Int32, (tkK b L s = 1 → v = 4) → (tkK b L s = 2 → v = 2) → (tkK b L s = 3 ∨ tkK b L s = 4 → v = 1) → ∃ V, some (wI U 105 11 v) = some V ∧ FX T V ∧ V.1 105 12 = nI s ∧ (s = L → V.1 105 11 = 0) ∧ (s < L → V.1 105 4 = nI (enS b L s) ∧ (tkK b L s = 1 → V.1 105 11 = 4) ∧ (tkK b L s = 2 → V.1 105 11 = 2 ∧ V.1 105 14 = nI (tkV b L s)) ∧ (tkK b L s = 3 ∨ tkK b L s = 4 → V.1 105 11 = 1 ∧ V.2 105 17 = w8 (tkW b L s)) ∧ (tkK b L s = 5 → V.1 105 11 = 3 ∧ V.1 105 14 = nI (tkV b L s))) := by
        intro v g1 g2 g3
        refine ⟨_, rfl, (f0.trans fU).trans (FX.w (by decide)), by rw [wI_n (Or.inr (by decide)), hu12], fun z => by omega, fun _ => ⟨by rw [wI_n (Or.inr (by decide)), u4, hen], fun z => by rw [wI_s, g1 z], fun z => ⟨by rw [wI_s, g2 z], ?_⟩, fun z => ⟨by rw [wI_s, g3 z], ?_⟩, fun z => ?_⟩⟩
        · rw [wI_n (Or.inr (by decide))]
          rw [hk] at z
          by_cases y : nsS b s (reS b L s - s) = 0 ∧ reS b L s - s ≤ 3
          · rw [un y.1 y.2]
            unfold tkV
            rw [if_pos hal, if_pos y]
          · rw [if_neg y] at z
            by_cases y2 : ndS b s (reS b L s - s) = 0 ∧ reS b L s - s ≤ 7
            · rw [if_pos y2] at z
              by_cases y3 : kwS (wlS b s (reS b L s - s)) = none
              · rw [if_pos y3] at z; omega
              · rw [if_neg y3] at z; omega
            · rw [if_neg y2] at z; omega
        · show U.2 105 17 = _
          rw [hk] at z
          by_cases y : nsS b s (reS b L s - s) = 0 ∧ reS b L s - s ≤ 3
          · rw [if_pos y] at z; omega
          · rw [if_neg y] at z
            by_cases y2 : ndS b s (reS b L s - s) = 0 ∧ reS b L s - s ≤ 7
            · exact uw y2.1 y2.2
            · rw [if_neg y2] at z; omega
        · rw [hk] at z
          by_cases y : nsS b s (reS b L s - s) = 0 ∧ reS b L s - s ≤ 3
          · rw [if_pos y] at z; omega
          · rw [if_neg y] at z
            by_cases y2 : ndS b s (reS b L s - s) = 0 ∧ reS b L s - s ≤ 7
            · rw [if_pos y2] at z
              by_cases y3 : kwS (wlS b s (reS b L s - s)) = none
              · rw [if_pos y3] at z; omega
              · rw [if_neg y3] at z; omega
            · rw [if_neg y2] at z; omega
      unfold pX12_next_298 pX12_next_317
      simp only [lt]
      rw [u13]
      by_cases z : smB (b s) = true
      · have := hs1 z
        simp only [if_pos z]
        by_cases y : ndS b s (reS b L s - s) = 0
        · rw [if_pos y, if10, if10]
          by_cases y7 : reS b L s - s ≤ 7
          · rw [if_pos (show nI (reS b L s - s) ≤ 7 from nI_le (b := 7) y7 (by decide))]
            rw [if_neg (show ¬ (nsS b s (reS b L s - s) = 0 ∧ reS b L s - s ≤ 3) by omega), if_pos (show ndS b s (reS b L s - s) = 0 ∧ reS b L s - s ≤ 7 from ⟨y, y7⟩)] at hk
            refine fin 1 (fun q => ?_) (fun q => ?_) (fun _ => rfl)
            · by_cases y3 : kwS (wlS b s (reS b L s - s)) = none
              · rw [if_pos y3] at hk; omega
              · rw [if_neg y3] at hk; omega
            · by_cases y3 : kwS (wlS b s (reS b L s - s)) = none
              · rw [if_pos y3] at hk; omega
              · rw [if_neg y3] at hk; omega
          · rw [if_neg (show ¬ nI (reS b L s - s) ≤ 7 from fun q => y7 ((nI_leI (b := 7) (by omega) (by decide)).mp q))]
            rw [if_neg (show ¬ (nsS b s (reS b L s - s) = 0 ∧ reS b L s - s ≤ 3) by omega), if_neg (show ¬ (ndS b s (reS b L s - s) = 0 ∧ reS b L s - s ≤ 7) from fun q => y7 q.2)] at hk
            exact fin 4 (fun _ => rfl) (fun q => by omega) (fun q => by omega)
        · rw [if_neg y, if00]
          rw [if_neg (show ¬ (nsS b s (reS b L s - s) = 0 ∧ reS b L s - s ≤ 3) by omega), if_neg (show ¬ (ndS b s (reS b L s - s) = 0 ∧ reS b L s - s ≤ 7) from fun q => y q.1)] at hk
          exact fin 4 (fun _ => rfl) (fun q => by omega) (fun q => by omega)
      · have z' : smB (b s) = false := by simpa using z
        have := hd1 z'
        simp only [if_neg z]
        by_cases y : nsS b s (reS b L s - s) = 0
        · rw [if_pos y, if10, if_pos trivial]
          by_cases y3 : reS b L s - s ≤ 3
          · rw [if_pos (show nI (reS b L s - s) ≤ 3 from nI_le (b := 3) y3 (by decide)), if_pos trivial]
            rw [if_pos (show nsS b s (reS b L s - s) = 0 ∧ reS b L s - s ≤ 3 from ⟨y, y3⟩)] at hk
            exact fin 2 (fun q => by omega) (fun _ => rfl) (fun q => by omega)
          · rw [if_neg (show ¬ nI (reS b L s - s) ≤ 3 from fun q => y3 ((nI_leI (b := 3) (by omega) (by decide)).mp q))]
            rw [if_neg (show ¬ (nsS b s (reS b L s - s) = 0 ∧ reS b L s - s ≤ 3) from fun q => y3 q.2), if_neg (show ¬ (ndS b s (reS b L s - s) = 0 ∧ reS b L s - s ≤ 7) by omega)] at hk
            exact fin 4 (fun _ => rfl) (fun q => by omega) (fun q => by omega)
        · rw [if_neg y, if00]
          rw [if_neg (show ¬ (nsS b s (reS b L s - s) = 0 ∧ reS b L s - s ≤ 3) from fun q => y q.1), if_neg (show ¬ (ndS b s (reS b L s - s) = 0 ∧ reS b L s - s ≤ 7) by omega)] at hk
          exact fin 4 (fun _ => rfl) (fun q => by omega) (fun q => by omega)
    have hmark : alB (b s) = false → ∀ v : Int32, v = (if mkB (b s) = true then 3 else 4) → ∃ V, pX12_next_145 R 105 T (pkI b L s) 105 v = some V ∧ FX T V ∧ V.1 105 12 = nI s ∧ (s = L → V.1 105 11 = 0) ∧ (s < L → V.1 105 4 = nI (enS b L s) ∧ (tkK b L s = 1 → V.1 105 11 = 4) ∧ (tkK b L s = 2 → V.1 105 11 = 2 ∧ V.1 105 14 = nI (tkV b L s)) ∧ (tkK b L s = 3 ∨ tkK b L s = 4 → V.1 105 11 = 1 ∧ V.2 105 17 = w8 (tkW b L s)) ∧ (tkK b L s = 5 → V.1 105 11 = 3 ∧ V.1 105 14 = nI (tkV b L s))) := by
      intro hal v hv
      obtain ⟨V, v1, v2, v3, v4, v5, v6⟩ := h145 v
      have hen : enS b L s = s + 1 := by unfold enS; rw [if_neg (by rw [hal]; decide)]
      have hk : tkK b L s = if mkB (b s) = true then 5 else 1 := by
        unfold tkK
        rw [if_neg (by rw [hal]; decide)]
      have htv : tkV b L s = b s := by
        unfold tkV
        rw [if_neg (by rw [hal]; decide)]
      refine ⟨V, v1, v2, v3, fun z => by omega, fun _ => ⟨by rw [v4, hen], fun z => ?_, fun z => ?_, fun z => ?_, fun z => ?_⟩⟩
      · rw [v5, hv]
        by_cases y : mkB (b s) = true
        · rw [if_pos y] at hk; omega
        · rw [if_neg y]
      · by_cases y : mkB (b s) = true
        · rw [if_pos y] at hk; omega
        · rw [if_neg y] at hk; omega
      · by_cases y : mkB (b s) = true
        · rw [if_pos y] at hk; omega
        · rw [if_neg y] at hk; omega
      · by_cases y : mkB (b s) = true
        · rw [v5, hv, if_pos y, v6, htv]
          exact ⟨rfl, rfl⟩
        · rw [if_neg y] at hk; omega
    by_cases es : smB (b s) = true
    · rw [if_pos (show s < L ∧ smB (b s) = true from ⟨e, es⟩), if10]
      exact h164 (by unfold alB; rw [es]; rfl)
    · have es' : smB (b s) = false := by simpa using es
      rw [if_neg (show ¬ (s < L ∧ smB (b s) = true) from fun q => es q.2), if00, m_isDigitI hbs, bd1_some]
      by_cases ed : dgB (b s) = true
      · rw [if_pos (show s < L ∧ dgB (b s) = true from ⟨e, ed⟩), if10]
        exact h164 (by unfold alB; rw [ed]; exact Bool.or_true _)
      · have ed' : dgB (b s) = false := by simpa using ed
        have hal : alB (b s) = false := by unfold alB; rw [es', ed']; rfl
        rw [if_neg (show ¬ (s < L ∧ dgB (b s) = true) from fun q => ed q.2), if00]
        unfold pX12_next_140 pX12_next_144
        rw [hpk] at hmark ⊢
        simp (disch := omega) only [lt, jn, bd1_some, bd2_some, ix_nI, ix_lit, nI_clamp, lit_clamp, lit_add, add_lit, nI_add, nI_leI, nI_ltI, nI_eq, lit_le, le_lit, lit_lt, lt_lit, lit_eq, eq_lit, if_pos, if_neg]
        by_cases c1 : b s = 59
        · rw [if_pos c1]; exact hmark hal 3 (by rw [if_pos]; simp [mkB, c1])
        · rw [if_neg c1]
          by_cases c2 : b s = 40
          · rw [if_pos c2]; exact hmark hal 3 (by rw [if_pos]; simp [mkB, c2])
          · rw [if_neg c2]
            by_cases c3 : b s = 41
            · rw [if_pos c3]; exact hmark hal 3 (by rw [if_pos]; simp [mkB, c3])
            · rw [if_neg c3]
              by_cases c4 : b s < 60
              · rw [if_pos c4]
                refine hmark hal 4 ?_
                rw [if_neg]
                unfold mkB
                simp [c1, c2, c3]
                omega
              · rw [if_neg c4]
                by_cases c5 : 62 < b s
                · rw [if_pos c5]
                  refine hmark hal 4 ?_
                  rw [if_neg]
                  unfold mkB
                  simp [c1, c2, c3]
                  omega
                · rw [if_neg c5]
                  refine hmark hal 3 ?_
                  rw [if_pos]
                  unfold mkB
                  simp
                  omega
  · have es : s = L := by omega
    have hpk : pkI b L s = -1 := if_neg e
    rw [hpk, if_neg (show ¬ (0 : Int32) ≤ -1 by decide)]
    simp only [lt]
    exact ⟨_, rfl, FX.w (by decide), by rw [wI_n (Or.inr (by decide)), hat], fun _ => wI_s, fun z => absurd z e⟩
theorem m_next {R : Rf} {T : Mm} {b : Nat → Nat} {L M p : Nat} (r1 : R 105 1 = 106) (hX : XM T b L M) (hp : T.1 105 4 = nI p) (hpl : p ≤ L) : ∃ V, pX12_next R T 105 = some V ∧ FX T V ∧ MTp V b L M (skS b L p) := by
  obtain ⟨hL, hM, h3, h5, hbb⟩ := id hX
  unfold pX12_next
  refine zl1_wp (f := pX12_next_0 R 105 (pX12_next_31 R 105)) (P := fun m U => ∃ q, U = wI T 105 4 (nI q) ∧ p ≤ q ∧ q + m = L ∧ skS b L q = skS b L p) (Q := fun z => ∃ V, z = some V ∧ FX T V ∧ MTp V b L M (skS b L p)) ?_ FU (L - p) T (by rw [FU_eq]; omega) ⟨p, by rw [wI_self hp], Nat.le_refl _, by omega, rfl⟩
  rintro m r U ⟨q, rfl, hq1, hq2, hq3⟩ hr
  have fU : FX T (wI T 105 4 (nI q)) := FX.w (by decide)
  have hbq : q < L → b q < 256 := fun h => (hbb q h).1
  have hpk := m_peek (R := R) r1 (hX.fx fU) (p := q) wI_s (by omega)
  unfold pX12_next_0
  rw [hpk, bd1_some, bd1_some]
  simp only [lt]
  rw [wI_s, wI_wI, nI_1]
  have go : q < L → blB (b q) = true → ∃ V, r (wI T 105 4 (nI (q + 1))) = some V ∧ FX T V ∧ MTp V b L M (skS b L p) := by
    intro hqL hbl
    refine hr (m - 1) _ (by omega) ⟨q + 1, rfl, by omega, by omega, ?_⟩
    rw [← hq3]
    unfold skS
    exact (fd_step hqL (by rw [hbl]; rfl)).symm
  by_cases c1 : pkI b L q = 32
  · rw [if_pos c1]
    have := (pk_eqI (c := 32) hbq (by decide)).mp c1
    exact go this.1 (by unfold blB; rw [this.2]; rfl)
  · rw [if_neg c1]
    by_cases c2 : pkI b L q = 10
    · rw [if_pos c2]
      have := (pk_eqI (c := 10) hbq (by decide)).mp c2
      exact go this.1 (by unfold blB; rw [this.2]; rfl)
    · rw [if_neg c2]
      have hnb : q < L → blB (b q) = false := by
        intro hqL
        cases z : blB (b q) with
        | false => rfl
        | true =>
          unfold blB at z
          simp only [Bool.or_eq_true, decide_eq_true_iff] at z
          rcases z with z | z
          · exact absurd ((pk_eqI (c := 32) hbq (by decide)).mpr ⟨hqL, z⟩) c1
          · exact absurd ((pk_eqI (c := 10) hbq (by decide)).mpr ⟨hqL, z⟩) c2
      have hsk : skS b L q = q := fd_is (Nat.le_refl _) (by omega) (fun j h1 h2 => by omega) (fun h => by rw [hnb h]; rfl)
      rw [← hq3, hsk]
      unfold pX12_next_31
      simp only [lt]
      have f6 : FX T (wI (wI (wI T 105 4 (nI q)) 105 12 (nI q)) 105 13 0) := (fU.trans (FX.w (by decide))).trans (FX.w (by decide))
      have X6 := hX.fx f6
      rw [wI_s]
      have e4 : (wI (wI (wI T 105 4 (nI q)) 105 12 (nI q)) 105 13 0).1 105 4 = nI q := by rw [wI_n (Or.inr (by decide)), wI_n (Or.inr (by decide)), wI_s]
      rw [X6.2.2.1, X6.2.2.2.1, e4]
      have run : ∃ V, pX12_next_80 R 105 (wI (wI (wI T 105 4 (nI q)) 105 12 (nI q)) 105 13 0) = some V ∧ _ := m_next80 r1 X6 (s := q) (by omega) e4 wI_s (by rw [wI_n (Or.inr (by decide)), wI_s]) hnb
      obtain ⟨V, v1, v2, v3, v4, v5⟩ := run
      by_cases c3 : L ≤ M
      · rw [if_pos (nI_le c3 (by omega)), v1]
        refine ⟨V, rfl, f6.trans v2, fun z => ?_, fun z => ⟨v3, v5 (by omega)⟩⟩
        have eq : q = L := by omega
        rw [show min L M = L by omega]
        refine ⟨by rw [v3, eq], ?_⟩
        rw [v4 eq, if_neg (by omega)]
      · rw [if_neg (fun z => c3 ((nI_leI (by omega) (by omega)).mp z))]
        by_cases c4 : q < M
        · rw [if_pos (nI_lt c4 (by omega)), v1]
          exact ⟨V, rfl, f6.trans v2, fun z => by omega, fun z => ⟨v3, v5 (by omega)⟩⟩
        · rw [if_neg (nI_nlt (by omega) (by omega))]
          refine ⟨_, rfl, (f6.trans (FX.w (by decide))).trans (FX.w (by decide)), fun z => ⟨?_, ?_⟩, fun z => by omega⟩
          · rw [wI_n (Or.inr (by decide)), wI_s, show min L M = M by omega]
          · rw [wI_s, if_pos (by omega)]
