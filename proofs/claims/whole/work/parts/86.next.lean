/-! GoingOverModel.next -/
def MTp (T : Mm) (b : Nat → Nat) (L M s : Nat) : Prop :=
  (min L M ≤ s → T.1 105 12 = nI (min L M) ∧ T.1 105 11 = (if M < L then 4 else 0)) ∧
  (s < min L M → T.1 105 12 = nI s ∧ T.1 105 4 = nI (enS b L s) ∧ (tkK b L s = 1 → T.1 105 11 = 4) ∧ (tkK b L s = 2 → T.1 105 11 = 2 ∧ T.1 105 14 = nI (tkV b L s)) ∧ (tkK b L s = 3 ∨ tkK b L s = 4 → T.1 105 11 = 1 ∧ T.2 105 17 = w8 (tkW b L s)) ∧ (tkK b L s = 5 → T.1 105 11 = 3 ∧ T.1 105 14 = nI (tkV b L s)))
theorem pk_eqI {b : Nat → Nat} {L p c : Nat} (hb : p < L → b p < 256) (hc : c < 256) : pkI b L p = nI c ↔ (p < L ∧ b p = c) := by
  unfold pkI
  by_cases e : p < L
  · have := hb e
    rw [if_pos e, nI_eq (by omega) (by omega)]
    exact ⟨fun z => ⟨e, z⟩, fun z => z.2⟩
  · rw [if_neg e]
    exact ⟨fun z => absurd z.symm (ne_m1 (by omega)), fun z => absurd z.1 e⟩
theorem sm_256 {c : Nat} (h : smB c = true) : 97 ≤ c ∧ c ≤ 122 := by
  unfold smB at h
  simpa using h
theorem dg_256 {c : Nat} (h : dgB c = true) : 48 ≤ c ∧ c ≤ 57 := by
  unfold dgB at h
  simpa using h
theorem sm_dg {c : Nat} (h : smB c = true) : dgB c = false := by
  have := sm_256 h
  unfold dgB
  simp
  omega
theorem w8_long {w : List Nat} {c : Nat} (hc : c < 256) (h : enB 256 0 w < 2 ^ 48) : (lN (enB 256 0 w) <<< ((8 : Int32).toInt64 &&& 63)) ||| (nI c).toInt64 = lN (enB 256 0 (w ++ [c])) := by
  rw [enB_snoc, show (8 : Int32) = nI 8 from rfl, wb_shl _ (by decide), nI_l (by omega), Nat.sub_zero]
  exact g_or (k := 8) (by decide) hc (by omega)
/-- the loop over a run -/
theorem m_nrun {R : Rf} {T : Mm} {b : Nat → Nat} {L M s : Nat} (r1 : R 105 1 = 106) (hX : XM T b L M) (hs : s < L) (hal : alB (b s) = true) (hp : T.1 105 4 = nI s) (hsp : T.1 105 13 = 0) (hnm : T.1 105 14 = 0) (hwd : T.2 105 17 = 0) (ex : Mm → Int32 → Int32 → Option Mm) (Q : Option Mm → Prop) (hex : ∀ U, FX T U → U.1 105 12 = T.1 105 12 → U.1 105 4 = nI (reS b L s) → U.1 105 13 = nI (reS b L s - s) → (ndS b s (reS b L s - s) = 0 → reS b L s - s ≤ 7 → U.2 105 17 = w8 (wlS b s (reS b L s - s))) → (nsS b s (reS b L s - s) = 0 → reS b L s - s ≤ 3 → U.1 105 14 = nI (numS b s (reS b L s - s))) → Q (ex U (if smB (b s) = true then 1 else 0) (if (if smB (b s) = true then ndS b s (reS b L s - s) else nsS b s (reS b L s - s)) = 0 then 1 else 0))) : Q (zl3 (pX12_next_181 R 105 ex) FU T (if smB (b s) = true then 1 else 0) 1) := by
  obtain ⟨hL, hM, h3, h5, hbb⟩ := id hX
  obtain ⟨a1, a2, a3, a4⟩ := fd_ok (c := fun k => !alB (b k)) (p := s) (L := L) (by omega)
  have hre : reS b L s = fd (fun k => !alB (b k)) s L := rfl
  rw [← hre] at a1 a2 a3 a4
  refine zl3_wp (f := pX12_next_181 R 105 ex) (P := fun m U x2 x3 => x2 = (if smB (b s) = true then 1 else 0) ∧ ∃ j, s + j + m = reS b L s ∧ FX T U ∧ U.1 105 12 = T.1 105 12 ∧ U.1 105 4 = nI (s + j) ∧ U.1 105 13 = nI j ∧ x3 = (if (if smB (b s) = true then ndS b s j else nsS b s j) = 0 then 1 else 0) ∧ (ndS b s j = 0 → j ≤ 7 → U.2 105 17 = lN (enB 256 0 (wlS b s j))) ∧ (nsS b s j = 0 → j ≤ 3 → U.1 105 14 = nI (numS b s j))) (Q := Q) ?_ FU (reS b L s - s) T _ 1 (by rw [FU_eq]; omega) ⟨rfl, 0, by omega, FX.refl, rfl, hp, hsp, ?_, fun _ _ => hwd, fun _ _ => hnm⟩
  · rintro m r U x2 x3 ⟨rfl, j, hj, fU, h12, h4, h13, rfl, hw, hn⟩ hr
    have hXU := hX.fx fU
    have hbU : s + j < L → b (s + j) < 256 := fun h => (hbb _ h).1
    have hpk := m_peek (R := R) r1 hXU h4 (by omega)
    unfold pX12_next_181
    rw [hpk, bd1_some, m_isSmallI hbU, bd1_some]
    have hns := cnt_succ (fun i => smB (b (s + i))) j
    have hnd := cnt_succ (fun i => !smB (b (s + i))) j
    change nsS b s (j + 1) = (if smB (b (s + j)) = true then nsS b s j + 1 else nsS b s j) at hns
    change ndS b s (j + 1) = (if (!smB (b (s + j))) = true then ndS b s j + 1 else ndS b s j) at hnd
    by_cases hend : m = 0
    · subst hend
      have ej : s + j = reS b L s := by omega
      have hno : ¬ (s + j < L ∧ alB (b (s + j)) = true) := by
        rintro ⟨z1, z2⟩
        have := a4 (by omega)
        rw [← ej, z2] at this
        cases this
      have hnos : ¬ (s + j < L ∧ smB (b (s + j)) = true) := fun z => hno ⟨z.1, by unfold alB; rw [z.2]; rfl⟩
      have hnod : ¬ (s + j < L ∧ dgB (b (s + j)) = true) := fun z => hno ⟨z.1, by unfold alB; rw [z.2]; exact Bool.or_true _⟩
      rw [if_neg hnos, if00, bd1_some, m_isDigitI hbU, bd1_some, if_neg hnod, if00]
      have ejs : j = reS b L s - s := by omega
      rw [ejs] at hw hn ⊢
      rw [ejs] at h13
      exact hex U fU h12 (by rw [h4, ej]) h13 hw hn
    · have hlt : s + j < L := by omega
      have hb1 := hbU hlt
      have halj : alB (b (s + j)) = true := by
        have := a3 (s + j) (by omega) (by omega)
        simpa using this
      -- what is done with one more
      have step : ∀ f : Int32, f = (if (if smB (b s) = true then ndS b s (j + 1) else nsS b s (j + 1)) = 0 then 1 else 0) → Q (pX12_next_221 R 105 r ex U (if smB (b s) = true then 1 else 0) f) := by
        intro f hf
        have h275 : ∀ V : Mm, FX T V → V.1 105 12 = T.1 105 12 → V.1 105 4 = nI (s + j) → V.1 105 13 = nI j → (ndS b s (j + 1) = 0 → j + 1 ≤ 7 → V.2 105 17 = lN (enB 256 0 (wlS b s (j + 1)))) → (nsS b s (j + 1) = 0 → j + 1 ≤ 3 → V.1 105 14 = nI (numS b s (j + 1))) → Q (pX12_next_275 R 105 r ex V (if smB (b s) = true then 1 else 0) f) := by
          intro V fV v12 v4 v13 vw vn
          unfold pX12_next_275
          simp only [lt]
          rw [v13, nI_1, wI_n (Or.inr (by decide)), v4, nI_1]
          refine hr (m - 1) _ _ _ (by omega) ⟨rfl, j + 1, by omega, (fV.trans (FX.w (by decide))).trans (FX.w (by decide)), ?_, ?_, ?_, hf, ?_, ?_⟩
          · rw [wI_n (Or.inr (by decide)), wI_n (Or.inr (by decide)), v12]
          · rw [wI_s]; rfl
          · rw [wI_n (Or.inr (by decide)), wI_s]
          · intro z1 z2; exact vw z1 z2
          · intro z1 z2
            rw [wI_n (Or.inr (by decide)), wI_n (Or.inr (by decide))]
            exact vn z1 z2
        have hpkv : pkI b L (s + j) = nI (b (s + j)) := if_pos hlt
        have h248 : ∀ V : Mm, FX T V → V.1 105 12 = T.1 105 12 → V.1 105 4 = nI (s + j) → V.1 105 13 = nI j → (ndS b s (j + 1) = 0 → j + 1 ≤ 7 → V.2 105 17 = lN (enB 256 0 (wlS b s (j + 1)))) → (nsS b s j = 0 → j ≤ 3 → V.1 105 14 = nI (numS b s j)) → Q (pX12_next_248 R 105 r ex V (if smB (b s) = true then 1 else 0) f) := by
          intro V fV v12 v4 v13 vw vn
          unfold pX12_next_248
          rw [v13]
          by_cases e3 : 3 ≤ j
          · rw [if_pos (show (3 : Int32) ≤ nI j from nI_le (a := 3) e3 (by omega))]
            exact h275 V fV v12 v4 v13 vw (fun _ z => by omega)
          · rw [if_neg (show ¬ (3 : Int32) ≤ nI j from nI_ge (b := 3) (by omega) (by decide)), m_peek r1 (hX.fx fV) v4 (by omega), bd1_some, hpkv]
            simp only [lt]
            refine h275 _ (fV.trans (FX.w (by decide))) (by rw [wI_n (Or.inr (by decide)), v12]) (by rw [wI_n (Or.inr (by decide)), v4]) (by rw [wI_n (Or.inr (by decide)), v13]) vw (fun z1 z2 => ?_)
            have hsm : smB (b (s + j)) = false := by
              cases y : smB (b (s + j)) with
              | false => rfl
              | true => rw [if_pos y] at hns; omega
            have hdg : dgB (b (s + j)) = true := by
              unfold alB at halj
              rw [hsm] at halj
              simpa using halj
            have h48 := dg_256 hdg
            rw [if_neg (by rw [hsm]; decide)] at hns
            rw [wI_s, vn (by omega) (by omega), numS_succ, show (10 : Int32) = nI 10 from rfl, pk_mul, nI_add, show (48 : Int32) = nI 48 from rfl, pk_sub (by omega)]
            congr 1
            omega
        unfold pX12_next_221
        rw [h13]
        by_cases e7 : 7 ≤ j
        · rw [if_pos (show (7 : Int32) ≤ nI j from nI_le (a := 7) e7 (by omega))]
          exact h248 U fU h12 h4 h13 (fun _ z => by omega) hn
        · rw [if_neg (show ¬ (7 : Int32) ≤ nI j from nI_ge (b := 7) (by omega) (by decide)), hpk, bd1_some, hpkv]
          simp only [lt]
          refine h248 _ (fU.trans FX.j) h12 h4 h13 (fun z1 z2 => ?_) hn
          have hsm : smB (b (s + j)) = true := by
            cases y : smB (b (s + j)) with
            | true => rfl
            | false => rw [y, if_pos (show (!false) = true from rfl)] at hnd; omega
          rw [hsm, if_neg (show ¬ (!true) = true by decide)] at hnd
          rw [wJ_s, hw (by omega) (by omega), wlS_succ]
          refine w8_long hb1 ?_
          have hlt := enB_lt (B := 256) (o := 0) (by decide) j (wlS b s j) wlS_len (fun c hc => by
            obtain ⟨i, hi, rfl⟩ := wlS_mem hc
            have hsi : smB (b (s + i)) = true := by
              cases y : smB (b (s + i)) with
              | true => rfl
              | false =>
                have : 0 < ndS b s j := cnt_pos hi (by rw [y]; rfl)
                omega
            have := sm_256 hsi
            omega)
          have h6 : 256 ^ j ≤ 256 ^ 6 := Nat.pow_le_pow_right (by decide) (by omega)
          exact Nat.lt_of_lt_of_le hlt h6
      have h201 : Q (pX12_next_201 R 105 r ex U (if smB (b s) = true then 1 else 0) (if (if smB (b s) = true then ndS b s j else nsS b s j) = 0 then 1 else 0)) := by
        unfold pX12_next_201 pX12_next_220
        by_cases e0 : (if smB (b s) = true then ndS b s j else nsS b s j) = 0
        · rw [if_pos e0, if10, hpk, bd1_some, m_isSmallI hbU, bd1_some]
          by_cases es : smB (b (s + j)) = true
          · rw [if_pos (show s + j < L ∧ smB (b (s + j)) = true from ⟨hlt, es⟩)]
            rw [if_pos es] at hns
            rw [es, if_neg (show ¬ (!true) = true by decide)] at hnd
            by_cases e1 : smB (b s) = true
            · rw [if_pos e1, if_pos (show (1 : Int32) = 1 from rfl)]
              rw [if_pos e1] at e0
              have := step 1 (by rw [if_pos e1, if_pos (by omega)])
              rw [if_pos e1] at this
              exact this
            · rw [if_neg e1, if_neg (show ¬ (1 : Int32) = 0 by decide)]
              rw [if_neg e1] at e0
              have := step 0 (by rw [if_neg e1, if_neg (by omega)])
              rw [if_neg e1] at this
              exact this
          · have es' : smB (b (s + j)) = false := by simpa using es
            rw [if_neg (show ¬ (s + j < L ∧ smB (b (s + j)) = true) from fun z => es z.2)]
            rw [if_neg es] at hns
            rw [es', if_pos (show (!false) = true from rfl)] at hnd
            by_cases e1 : smB (b s) = true
            · rw [if_pos e1, if_neg (show ¬ (0 : Int32) = 1 by decide)]
              have := step 0 (by rw [if_pos e1, if_neg (by omega)])
              rw [if_pos e1] at this
              exact this
            · rw [if_neg e1, if_pos (show (0 : Int32) = 0 from rfl)]
              rw [if_neg e1] at e0
              have := step 1 (by rw [if_neg e1, if_pos (by omega)])
              rw [if_neg e1] at this
              exact this
        · rw [if_neg e0, if00]
          apply step
          by_cases e1 : smB (b s) = true
          · rw [if_pos e1] at e0
            rw [if_pos e1, if_neg]
            by_cases es : smB (b (s + j)) = true
            · rw [es, if_neg (show ¬ (!true) = true by decide)] at hnd; omega
            · have es' : smB (b (s + j)) = false := by simpa using es
              rw [es', if_pos (show (!false) = true from rfl)] at hnd; omega
          · rw [if_neg e1] at e0
            rw [if_neg e1, if_neg]
            by_cases es : smB (b (s + j)) = true
            · rw [if_pos es] at hns; omega
            · rw [if_neg es] at hns; omega
      by_cases es : smB (b (s + j)) = true
      · rw [if_pos (show s + j < L ∧ smB (b (s + j)) = true from ⟨hlt, es⟩), if10]
        exact h201
      · have hdg : dgB (b (s + j)) = true := by
          unfold alB at halj
          rw [show smB (b (s + j)) = false by simpa using es] at halj
          simpa using halj
        rw [if_neg (show ¬ (s + j < L ∧ smB (b (s + j)) = true) from fun z => es z.2), if00, bd1_some, m_isDigitI hbU, bd1_some, if_pos (show s + j < L ∧ dgB (b (s + j)) = true from ⟨hlt, hdg⟩), if10]
        exact h201
  · have h1 : ndS b s 0 = 0 := rfl
    have h2 : nsS b s 0 = 0 := rfl
    rw [h1, h2]
    by_cases e1 : smB (b s) = true
    · rw [if_pos e1, if_pos rfl]
    · rw [if_neg e1, if_pos rfl]
