/-! the reference's WHO, and both -/
theorem LV.fr {R : Rf} {T T' : Mm} {F : Nat → Nat} {C : Nat → Int32} (h : LV R T F C) (e : T'.1 107 = T.1 107) : LV R T' F C := by
  obtain ⟨l1, l2, l3, l4, l5⟩ := h
  exact ⟨l1, fun k hk => by rw [e, l2 k hk], l3, l4, l5.of (fun k _ _ => by rw [e])⟩
theorem cnt_full {c : Nat → Bool} : ∀ {n : Nat}, cnt c n = n → ∀ i, i < n → c i = true
  | 0, _, i, h => by omega
  | n + 1, h, i, hi => by
    have := cnt_le c n
    rw [cnt_succ] at h
    by_cases e : c n = true
    · rw [if_pos e] at h
      by_cases e2 : i = n
      · rw [e2]; exact e
      · exact cnt_full (n := n) (by omega) i (by omega)
    · rw [if_neg e] at h
      omega
theorem cnt_all {c : Nat → Bool} : ∀ {n : Nat}, (∀ i, i < n → c i = true) → cnt c n = n
  | 0, _ => rfl
  | n + 1, h => by rw [cnt_succ, if_pos (h n (by omega)), cnt_all (fun i hi => h i (by omega))]
theorem cnt_add1 {c d : Nat → Bool} {k : Nat} : ∀ {n : Nat}, k < n → c k = false → d k = true → (∀ i, i < n → i ≠ k → d i = c i) → cnt d n = cnt c n + 1
  | 0, h, _, _, _ => by omega
  | n + 1, h, h1, h2, h3 => by
    rw [cnt_succ, cnt_succ]
    by_cases e : k = n
    · subst e
      rw [if_pos h2, if_neg (by rw [h1]; decide), cnt_congr (fun i hi => h3 i (by omega) (by omega))]
    · rw [cnt_add1 (c := c) (d := d) (n := n) (by omega) h1 h2 (fun i hi => h3 i (by omega)), h3 n (by omega) (fun z => e z.symm)]
      by_cases e2 : c n = true
      · rw [if_pos e2, if_pos e2]
      · rw [if_neg e2, if_neg e2]
theorem m_octet {R : Rf} {T : Mm} {k v : Nat} (r1 : R 105 1 = 106) (hk : k < 940) (h : T.1 106 k &&& 255 = nI v) : pX12_octet R T 105 (nI k) = some (nI v) := by
  unfold pX12_octet
  rw [ix_nI hk (by omega), nI_clamp (by omega), r1, h]
theorem m_isMeant {R : Rf} {T : Mm} {F : Nat → Nat} {C : Nat → Int32} (l : LV R T F C) (r1 : R 105 1 = 106) (r28 : R 105 28 = 114) {b : Nat → Nat} {L : Nat} (hL : L ≤ 6) (hsz : T.1 105 3 = nI L) (hb : ∀ k, k < L → b k < 256 ∧ T.1 106 k &&& 255 = nI (b k)) {p : Nat} (hp : p < F 0) : ∃ U, pX12_isMeant R T 105 (nI p) = some (whS F (fjS F C p (nI (F 3))) (brl F C p) b L, U) ∧ Fr (fun c => c = 114) T U := by
  have v0 := l.2.2.1.1
  have v1 := l.2.2.1.2.1
  unfold pX12_isMeant
  refine zl2_wp (f := pX12_isMeant_2 R 105 (nI p) (pX12_isMeant_27 R 105 (nI p))) (P := fun m U x => ∃ i, x = nI i ∧ i + m = L ∧ Fr (fun c => c = 114) T U ∧ ∀ k, k < i → U.1 114 k = nI (b k)) (Q := fun z => ∃ U, z = some (whS F (fjS F C p (nI (F 3))) (brl F C p) b L, U) ∧ Fr (fun c => c = 114) T U) ?_ FU L T 0 (by rw [FU_eq]; omega) ⟨0, rfl, by omega, Fr.refl, fun k hk => by omega⟩
  rintro m r U x ⟨i, rfl, hi, hfr, hcp⟩ hr
  have e3 : U.1 105 3 = nI L := by rw [(hfr 105 (by decide)).1, hsz]
  have e106 : U.1 106 = T.1 106 := (hfr 106 (by decide)).1
  unfold pX12_isMeant_2
  rw [e3]
  by_cases him : i < L
  · obtain ⟨h1, h2⟩ := hb i him
    rw [if_neg (nI_ge him (by omega)), m_octet r1 (by omega) (by rw [e106]; exact h2), bd1_some, ix_nI (by omega) (by omega), nI_clamp (by omega), r28]
    simp only [lt, nI_1]
    refine hr (m - 1) _ _ (by omega) ⟨i + 1, rfl, by omega, hfr.sw rfl, fun k hk => ?_⟩
    by_cases e : k = i
    · subst e; rw [wI_s]
    · rw [wI_n (Or.inr e)]; exact hcp k (by omega)
  · have e : i = L := by omega
    subst e
    rw [if_pos (nI_le (Nat.le_refl _) (by omega))]
    unfold pX12_isMeant_27
    have lU := l.fr (hfr 107 (by decide)).1
    rw [lU.barrel (by omega), bd1_some]
    have hsubA : ∀ k, bt (brl F C p) k = true → k < F 1 := fun k hk => (brl_own l.2.2.1 hk).1
    generalize hJ : fjS F C p (nI (F 3)) = J
    generalize hA : brl F C p = A at hsubA
    refine zl5_wp (f := pX12_isMeant_41 R 105 (nI p) (pX12_isMeant_171 R 105 (nI p))) (P := fun m V x2 x3 x4 x5 => ∃ k, x5 = nI k ∧ k + m = F 1 ∧ Fr (fun c => c = 114) T V ∧ ((x4 = 1 ∧ ∃ used, whF F J A b i k = some (x2, used) ∧ x3 = nI (cnt (bt used) i) ∧ (∀ q, bt used q = true → q < i) ∧ ∀ q, q < i → V.1 114 q = if bt used q = false then nI (b q) else 1000000) ∨ (x4 = 0 ∧ whF F J A b i (F 1) = none))) (Q := fun z => ∃ U, z = some (whS F J A b i, U) ∧ Fr (fun c => c = 114) T U) ?_ FU (F 1) U A 0 1 0 (by rw [FU_eq]; omega) ⟨0, rfl, by omega, hfr, Or.inl ⟨rfl, 0, rfl, ?_, ?_, ?_⟩⟩
    · rintro m' r' V x2 x3 x4 x5 ⟨k, rfl, hk, hfV, hst⟩ hr'
      have lV := l.fr (hfV 107 (by decide)).1
      have e3 : V.1 105 3 = nI i := by rw [(hfV 105 (by decide)).1, hsz]
      have hV1 : V.1 107 1 = nI (F 1) := lV.2.1 1 (by decide)
      unfold pX12_isMeant_41
      rw [ix_lit (by decide) (by decide), lit_clamp (by decide), l.1, hV1]
      rcases hst with ⟨rfl, used, hs, rfl, hu, hw⟩ | ⟨rfl, hno⟩
      · by_cases hkn : k < F 1
        · rw [if_neg (nI_ge hkn (by omega)), if_neg (by decide), m_bitOfS (by omega), bd1_some]
          simp only [lt, nI_1]
          by_cases e : bt x2 k = false
          · rw [if_pos e, if00]
            refine hr' (m' - 1) _ _ _ _ _ (by omega) ⟨k + 1, rfl, by omega, hfV, Or.inl ⟨rfl, used, ?_, rfl, hu, hw⟩⟩
            rw [whF_succ, hs]
            unfold whT
            dsimp only
            rw [if_pos e]
          · have hkA := whF_sub k _ hs k (by simpa using e)
            rw [if_neg e, if10, lV.barrel (by omega), bd1_some, lV.fateJoins hp, bd1_some, hJ, hA, lV.heldWith (by omega) hkA, bd1_some]
            have hwl := wtS_le l.2.2.1 (rc F J A k)
            refine zl6_wp (f := pX12_isMeant_97 R 105 (nI p) (pX12_isMeant_128 R 105 (nI p) r' (pX12_isMeant_171 R 105 (nI p)))) (P := fun m3 W y2 y3 y5 y6 y7 => W = V ∧ y2 = (x2 &&& (rc F J A k ^^^ (-1 : Int32))) ∧ y3 = nI (cnt (bt used) i) ∧ y5 = nI k ∧ y6 = rc F J A k ∧ ∃ q, y7 = nI q ∧ q + m3 = i ∧ ∀ q', q' < q → (!bt used q' && decide (b q' = wtS F (rc F J A k))) = false) (Q := fun z => ∃ U, z = some (whS F J A b i, U) ∧ Fr (fun c => c = 114) T U) ?_ FU i V _ _ _ _ 0 (by rw [FU_eq]; omega) ⟨rfl, rfl, rfl, rfl, rfl, 0, rfl, by omega, fun q' hq => by omega⟩
            rintro m3 r3 W y2 y3 y5 y6 y7 ⟨rfl, rfl, rfl, rfl, rfl, q, rfl, hq, hbef⟩ hr3
            unfold pX12_isMeant_97 pX12_isMeant_128 pX12_isMeant_142
            rw [e3]
            by_cases hqi : q < i
            · have hbq := (hb q hqi).1
              rw [if_neg (nI_ge hqi (by omega)), ix_nI (by omega) (by omega), nI_clamp (by omega), lV.weighsIn, bd1_some, r28, hw q hqi, if_neg (nI_ge hqi (by omega))]
              simp only [lt, nI_1, if10]
              have hcond : ((if bt used q = false then nI (b q) else 1000000) = nI (wtS F (rc F J A k))) ↔ (!bt used q && decide (b q = wtS F (rc F J A k))) = true := by
                by_cases e5 : bt used q = false
                · rw [if_pos e5, e5, nI_eq (by omega) (by omega)]
                  simp
                · rw [if_neg e5]
                  have e6 : bt used q = true := by simpa using e5
                  rw [e6]
                  constructor
                  · intro z
                    have := (nI_eq (a := 1000000) (by decide) (by omega)).mp z
                    omega
                  · intro z; simp at z
              by_cases e7 : (!bt used q && decide (b q = wtS F (rc F J A k))) = true
              · rw [if_pos (hcond.mpr e7), ix_nI (by omega) (by omega)]
                have e8 : bt used q = false := by
                  rw [Bool.and_eq_true] at e7
                  simpa using e7.1
                have hun : unuS b i used (wtS F (rc F J A k)) = some q := fst_is i 0 (by omega) (by omega) e7 (fun j _ hj => hbef j hj)
                refine hr' (m' - 1) _ _ _ _ _ (by omega) ⟨k + 1, rfl, by omega, hfV.sw rfl, Or.inl ⟨rfl, used ||| (1 <<< (nI q &&& 31)), ?_, ?_, ?_, ?_⟩⟩
                · rw [whF_succ, hs]
                  unfold whT
                  dsimp only
                  rw [if_neg e, hun]
                · congr 1
                  refine (cnt_add1 hqi e8 ?_ ?_).symm
                  · rw [b_or, bt_one _ (by omega) (by omega)]; simp
                  · intro j hj hjq
                    rw [b_or, bt_one _ (by omega) (by omega)]; simp [hjq]
                · intro j hj
                  rw [b_or, Bool.or_eq_true] at hj
                  rcases hj with hj | hj
                  · exact hu j hj
                  · have hj32 : j < 32 := by
                      rcases Nat.lt_or_ge j 32 with z | z
                      · exact z
                      · rw [b_big z] at hj; cases hj
                    rw [bt_one _ (by omega) hj32] at hj
                    have : j = q := by simpa using hj
                    omega
                · intro j hj
                  rw [b_or, bt_one _ (by omega) (by omega)]
                  by_cases ej : j = q
                  · subst ej
                    rw [wI_s]
                    simp
                  · rw [wI_n (Or.inr ej), hw j hj]
                    simp [ej]
              · rw [if_neg (fun z => e7 (hcond.mp z))]
                refine hr3 (m3 - 1) _ _ _ _ _ _ (by omega) ⟨rfl, rfl, rfl, rfl, rfl, q + 1, rfl, by omega, fun q' hq' => ?_⟩
                by_cases eq' : q' = q
                · rw [eq']; simpa using e7
                · exact hbef q' (by omega)
            · have eqi : q = i := by omega
              subst eqi
              rw [if_pos (nI_le (Nat.le_refl _) (by omega)), if_pos (nI_le (Nat.le_refl _) (by omega)), if00]
              simp only [lt, nI_1]
              have hun : unuS b q used (wtS F (rc F J A k)) = none := fst_no q 0 (fun j _ hj => hbef j (by omega))
              have hnone : whF F J A b q (k + 1) = none := by
                rw [whF_succ, hs]
                unfold whT
                dsimp only
                rw [if_neg e, hun]
              refine hr' (m' - 1) _ _ _ _ _ (by omega) ⟨k + 1, rfl, by omega, hfV, Or.inr ⟨rfl, ?_⟩⟩
              have e2 : F 1 = k + 1 + (F 1 - (k + 1)) := by omega
              rw [e2]
              unfold whF at hnone ⊢
              rw [fo_add, hnone]
              exact whT_none _ _
        · have ek : k = F 1 := by omega
          subst ek
          rw [if_pos (nI_le (Nat.le_refl _) (by omega))]
          unfold pX12_isMeant_171
          rw [if_neg (by decide), e3]
          have hc := cnt_le (bt used) i
          refine ⟨V, ?_, hfV⟩
          unfold whS
          rw [hs]
          dsimp only
          have hiff : nI (cnt (bt used) i) = nI i ↔ used = ((1 : Int32) <<< (nI i &&& 31)) - 1 := by
            rw [nI_eq (by omega) (by omega)]
            constructor
            · intro z
              apply b_ext
              intro j hj
              rw [mask_bt i (by omega) j hj]
              by_cases ej : j < i
              · rw [cnt_full z j ej]; simp [ej]
              · cases y : bt used j with
                | false => simp [ej]
                | true => exact absurd (hu j y) ej
            · intro z
              apply cnt_all
              intro j hj
              rw [z, mask_bt i (by omega) j (by omega)]
              simp [hj]
          by_cases e : nI (cnt (bt used) i) = nI i
          · rw [if_pos e, if_pos (hiff.mp e)]
          · rw [if_neg e, if_neg (fun z => e (hiff.mpr z))]
      · have hres : ∃ U, pX12_isMeant_171 R 105 (nI p) V x3 0 = some (whS F J A b i, U) ∧ Fr (fun c => c = 114) T U := by
          refine ⟨V, ?_, hfV⟩
          unfold pX12_isMeant_171 whS
          rw [if00, hno]
        by_cases hkn : nI (F 1) ≤ nI k
        · rw [if_pos hkn]; exact hres
        · rw [if_neg hkn, if00]; exact hres
    · have : cnt (bt 0) i = 0 := sW_f (fun j => b_0 j) _ _ _
      rw [this]
      rfl
    · intro q hq
      rw [b_0] at hq
      cases hq
    · intro q hq
      rw [b_0, if_pos rfl]
      exact hcp q hq
