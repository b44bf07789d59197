/-! FALLS: the reference's loops -/
def fiR (T : Mm) (a : Nat) (v : Nat → Int32) (n : Nat) : Mm := (fun x k => if x = a ∧ k < n then v k else T.1 x k, T.2)
def fjR (T : Mm) (a : Nat) (v : Nat → Int64) (n : Nat) : Mm := (T.1, fun x k => if x = a ∧ k < n then v k else T.2 x k)
theorem fiR_0 {T : Mm} {a : Nat} {v : Nat → Int32} : fiR T a v 0 = T := by
  unfold fiR
  refine Prod.ext ?_ rfl
  funext x k
  simp
theorem fjR_0 {T : Mm} {a : Nat} {v : Nat → Int64} : fjR T a v 0 = T := by
  unfold fjR
  refine Prod.ext rfl ?_
  funext x k
  simp
theorem fiR_in {T : Mm} {a n k : Nat} {v : Nat → Int32} (h : k < n) : (fiR T a v n).1 a k = v k := if_pos ⟨rfl, h⟩
theorem fiR_out {T : Mm} {a n k x : Nat} {v : Nat → Int32} (h : x ≠ a ∨ n ≤ k) : (fiR T a v n).1 x k = T.1 x k := if_neg (by omega)
theorem fiR_o {T : Mm} {a n x : Nat} {v : Nat → Int32} (h : x ≠ a) : (fiR T a v n).1 x = T.1 x := funext fun _ => fiR_out (Or.inl h)
theorem fjR_in {T : Mm} {a n k : Nat} {v : Nat → Int64} (h : k < n) : (fjR T a v n).2 a k = v k := if_pos ⟨rfl, h⟩
theorem fjR_out {T : Mm} {a n k x : Nat} {v : Nat → Int64} (h : x ≠ a ∨ n ≤ k) : (fjR T a v n).2 x k = T.2 x k := if_neg (by omega)
theorem fjR_o {T : Mm} {a n x : Nat} {v : Nat → Int64} (h : x ≠ a) : (fjR T a v n).2 x = T.2 x := funext fun _ => fjR_out (Or.inl h)
theorem fiR_s {T : Mm} {a n : Nat} {v : Nat → Int32} : wI (fiR T a v n) a n (v n) = fiR T a v (n + 1) := by
  unfold wI fiR up2
  refine Prod.ext ?_ rfl
  funext x k
  by_cases h1 : x = a
  · by_cases h2 : k = n
    · subst h1 h2; simp
    · by_cases h3 : k < n
      · have : k < n + 1 := by omega
        simp [h1, h2, h3, this]
      · have : ¬ k < n + 1 := by omega
        simp [h1, h2, h3, this]
  · simp [h1]
theorem fjR_s {T : Mm} {a n : Nat} {v : Nat → Int64} : wJ (fjR T a v n) a n (v n) = fjR T a v (n + 1) := by
  unfold wJ fjR up2
  refine Prod.ext rfl ?_
  funext x k
  by_cases h1 : x = a
  · by_cases h2 : k = n
    · subst h1 h2; simp
    · by_cases h3 : k < n
      · have : k < n + 1 := by omega
        simp [h1, h2, h3, this]
      · have : ¬ k < n + 1 := by omega
        simp [h1, h2, h3, this]
  · simp [h1]
theorem zl2_fill {ρ : Type} {f : (Mm → Int32 → Option ρ) → Mm → Int32 → Option ρ} (T : Mm) (a : Nat) (v : Nat → Int32) (n : Nat) (ex : Mm → Option ρ) (hn : n < 100000) (hs : ∀ (r : Mm → Int32 → Option ρ) (i : Nat), i < n → f r (fiR T a v i) (nI i) = r (wI (fiR T a v i) a i (v i)) (nI (i + 1))) (he : ∀ (r : Mm → Int32 → Option ρ), f r (fiR T a v n) (nI n) = ex (fiR T a v n)) : zl2 f FU T 0 = ex (fiR T a v n) := by
  refine zl2_wp (f := f) (P := fun m U x => ∃ i, x = nI i ∧ i + m = n ∧ U = fiR T a v i) (Q := fun z => z = ex (fiR T a v n)) ?_ FU n T 0 (by rw [FU_eq]; omega) ⟨0, rfl, by omega, fiR_0.symm⟩
  rintro m r U x ⟨i, rfl, hi, rfl⟩ hr
  by_cases e : i < n
  · rw [hs r i e, fiR_s]
    exact hr (m - 1) _ _ (by omega) ⟨i + 1, rfl, by omega, rfl⟩
  · have : i = n := by omega
    subst this
    exact he r
theorem zl2_fillJ {ρ : Type} {f : (Mm → Int32 → Option ρ) → Mm → Int32 → Option ρ} (T : Mm) (a : Nat) (v : Nat → Int64) (n : Nat) (ex : Mm → Option ρ) (hn : n < 100000) (hs : ∀ (r : Mm → Int32 → Option ρ) (i : Nat), i < n → f r (fjR T a v i) (nI i) = r (wJ (fjR T a v i) a i (v i)) (nI (i + 1))) (he : ∀ (r : Mm → Int32 → Option ρ), f r (fjR T a v n) (nI n) = ex (fjR T a v n)) : zl2 f FU T 0 = ex (fjR T a v n) := by
  refine zl2_wp (f := f) (P := fun m U x => ∃ i, x = nI i ∧ i + m = n ∧ U = fjR T a v i) (Q := fun z => z = ex (fjR T a v n)) ?_ FU n T 0 (by rw [FU_eq]; omega) ⟨0, rfl, by omega, fjR_0.symm⟩
  rintro m r U x ⟨i, rfl, hi, rfl⟩ hr
  by_cases e : i < n
  · rw [hs r i e, fjR_s]
    exact hr (m - 1) _ _ (by omega) ⟨i + 1, rfl, by omega, rfl⟩
  · have : i = n := by omega
    subst this
    exact he r
theorem m_clears {R : Rf} {T : Mm} (r7 : R 105 7 = 108) : ∃ V, pX12_clears R T 105 = some V ∧ (∀ a, a ≠ 108 → V.1 a = T.1 a) ∧ V.2 = T.2 ∧ ∀ k, k < 80 → V.1 108 k = nI (F0f k) := by
  unfold pX12_clears
  rw [zl2_fill T 108 (fun _ => 0) 80 (pX12_clears_21 R 105) (by omega) ?_ ?_]
  · unfold pX12_clears_21
    simp (disch := omega) only [lt, ix_lit, lit_clamp]
    rw [r7]
    refine ⟨_, rfl, fun a ha => ?_, rfl, fun k hk => ?_⟩
    · rw [wI_1, up2_row ha, wI_1, up2_row ha, fiR_o ha]
    · unfold F0f
      by_cases e4 : k = 4
      · subst e4; rw [wI_s]; rfl
      · rw [wI_n (Or.inr e4)]
        by_cases e3 : k = 3
        · subst e3; rw [wI_s]; rfl
        · rw [wI_n (Or.inr e3), fiR_in hk, if_neg e3, if_neg e4]; rfl
  · intro r i hi
    unfold pX12_clears_2
    rw [if_neg (show ¬ (80 : Int32) ≤ nI i from nI_ge (b := 80) hi (by decide)), ix_nI hi (by decide), nI_clamp (by omega), r7]
    simp only [lt, nI_1]
  · intro r
    unfold pX12_clears_2
    rw [if_pos (by decide)]
def FQ9 (T V : Mm) : Prop := (∀ a, a ≠ 105 → a ≠ 108 → V.1 a = T.1 a) ∧ (∀ a, a ≠ 105 → a ≠ 110 → V.2 a = T.2 a) ∧ (∀ k, k ≠ 4 → ¬ (11 ≤ k ∧ k ≤ 16) → ¬ (18 ≤ k ∧ k ≤ 20) → V.1 105 k = T.1 105 k) ∧ (∀ k, k ≠ 17 → V.2 105 k = T.2 105 k) ∧ ∀ k, k < 15 → V.2 110 k = T.2 110 k
theorem FQ9.trans {T U V : Mm} (h : FQ9 T U) (h' : FQ9 U V) : FQ9 T V := ⟨fun a h1 h2 => (h'.1 a h1 h2).trans (h.1 a h1 h2), fun a h1 h2 => (h'.2.1 a h1 h2).trans (h.2.1 a h1 h2), fun k h1 h2 h3 => (h'.2.2.1 k h1 h2 h3).trans (h.2.2.1 k h1 h2 h3), fun k hk => (h'.2.2.2.1 k hk).trans (h.2.2.2.1 k hk), fun k hk => (h'.2.2.2.2 k hk).trans (h.2.2.2.2 k hk)⟩
theorem FQ.nine {T V : Mm} (h : FQ T V) : FQ9 T V := ⟨h.1, h.2.1, fun k h1 h2 h3 => h.2.2.1 k h1 h2 (by omega) (by omega), h.2.2.2.1, h.2.2.2.2⟩
theorem FQ9.w {T : Mm} {v : Int32} : FQ9 T (wI T 105 19 v) := ⟨fun a h1 _ => by rw [wI_1, up2_row h1], fun _ _ _ => rfl, fun j h1 h2 h3 => wI_n (Or.inr (by omega)), fun _ _ => rfl, fun _ _ => rfl⟩
theorem m_fLoop {R : Rf} {b : Nat → Nat} {L M : Nat} (hr : RM R) : ∀ (m fuel : Nat) (T : Mm) (F : Nat → Nat) (N : Nat → List Nat) (t : Nat), VSt F N → MG T F N → CuM T b L M t → T.1 105 19 = nI (cnF F) → cnF F + m = 34 → m < fuel → (∃ k p V, rFW b L M m (F, N, t) = paB k p ∧ zl1 (pX12_falls_35 R 105 (pX12_falls_58 R 105) (pX12_falls_78 R 105)) fuel T = some (-1 - nI p, V) ∧ FQ9 T V ∧ V.1 105 15 = nI k ∧ V.1 105 16 = nI p) ∨ ∃ F' N' t' V, rFW b L M m (F, N, t) = paO (F', N', t') ∧ zl1 (pX12_falls_35 R 105 (pX12_falls_58 R 105) (pX12_falls_78 R 105)) fuel T = pX12_falls_78 R 105 V ∧ FQ9 T V ∧ MG V F' N' ∧ VSt F' N' ∧ V.1 105 15 = T.1 105 15 ∧ V.1 105 19 = nI (cnF F') := by
  intro m
  induction m with
  | zero => intro fuel T F N t hs _ _ _ hm _; have := hs.cnt; omega
  | succ m ih =>
    intro fuel T F N t hs hg hc h19 hm hf
    cases fuel with
    | zero => omega
    | succ fuel =>
      rw [zl1_s, rFW_succ]
      unfold pX12_falls_35
      obtain ⟨_, _, _, t4⟩ := hc.t1
      by_cases e0 : kkS b L M t = 0 ∧ ¬ M < L
      · rw [if_pos (t4.mpr e0), if_pos e0.1, if_neg e0.2]
        exact Or.inr ⟨_, _, _, T, rfl, rfl, FQ.refl.nine, hg, hs, rfl, h19⟩
      · rw [if_neg (fun z => e0 (t4.mp z))]
        obtain ⟨u, V, h1, h2, h3⟩ := m_readLineF hr hc hg hs.1 hs.2.1 hs.2.2
        rw [h1, bd2_some]
        by_cases e : kkS b L M t = 0
        · have hM : M < L := by
            rcases Nat.lt_or_ge M L with z | z
            · exact z
            · exact absurd ⟨e, by omega⟩ e0
          have hb : rFK b L M F N t = paB 1 (psS b L M t) := by
            unfold rFK
            rw [if_neg (fun z => by omega)]
          rcases h3 with ⟨k, p, z1, z2, z3, z4⟩ | ⟨F', N', t', z1, z2, z3, z4, z5⟩
          · rw [hb] at z1
            cases z1
            rw [if_pos e, if_pos hM, z2, if_pos rfl]
            unfold pX12_falls_58
            rw [z4]
            exact Or.inl ⟨_, _, V, rfl, rfl, h2.nine, z3, z4⟩
          · rw [hb] at z1
            cases z1
        · rw [if_neg e, rFL_eq]
          rcases h3 with ⟨k, p, z1, z2, z3, z4⟩ | ⟨F', N', t', z1, z2, z3, z4, z5⟩
          · rw [z1, paD_b, paD_b, z2, if_pos rfl]
            unfold pX12_falls_58
            rw [z4]
            exact Or.inl ⟨_, _, V, rfl, rfl, h2.nine, z3, z4⟩
          · obtain ⟨hs', hc'⟩ := rFK_ok hs z1
            rw [z1, paD_o, z2, if10, show (59 : Int32) = nI 59 from rfl]
            obtain ⟨s1, s2⟩ := m_signC (R := R) hr.1 z5 (c := 59) (by omega)
            unfold maP
            dsimp only
            by_cases e5 : kkS b L M t' = 5 ∧ vvS b L t' = 59
            · obtain ⟨W, w1, w2, w3⟩ := s1 e5
              rw [if_pos e5, paD_o, paD_o, w1, bd2_some, if10]
              simp only [lt]
              have w19 : W.1 105 19 = nI (cnF F) := by
                rw [w2.2.1 19 (by decide) (by decide) (by decide) (by decide) (by decide), h2.2.2.1 19 (by decide) (by decide) (by decide) (by decide), h19]
              rw [w19, nI_1, ← hc']
              have hgX : MG (wI W 105 19 (nI (cnF F'))) F' N' := (z4.fx w2).of (by rw [wI_1, up2_row (by decide)]) (wI_n (Or.inr (by decide))) (fun _ _ => rfl) (fun _ _ => rfl)
              have frX : FQ9 T (wI W 105 19 (nI (cnF F'))) := (h2.x w2).nine.trans FQ9.w
              have f15 : (wI W 105 19 (nI (cnF F'))).1 105 15 = T.1 105 15 := by rw [wI_n (Or.inr (by decide)), w2.f15, z3]
              rcases ih fuel _ F' N' (t' + 1) hs' hgX (w3.w5 (by omega)) wI_s (by omega) (by omega) with ⟨k, p, V', y1, y2, y3, y4, y5⟩ | ⟨F2, N2, t2, V', y1, y2, y3, y4, y5, y6, y7⟩
              · exact Or.inl ⟨k, p, V', y1, y2, frX.trans y3, y4, y5⟩
              · exact Or.inr ⟨F2, N2, t2, V', y1, y2, frX.trans y3, y4, y5, by rw [y6, f15], y7⟩
            · rw [if_neg e5, paD_b, paD_b, s2 e5, bd2_some, if_pos rfl]
              unfold pX12_falls_58
              rw [flm_16]
              exact Or.inl ⟨_, _, _, rfl, rfl, h2.fl.nine, flm_15, flm_16⟩
