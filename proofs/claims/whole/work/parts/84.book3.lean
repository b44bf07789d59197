/-! a BOOK that was read: judged or lived, both -/
def SB (a : Nat) : Prop := SA a ∨ a = 30 ∨ a = 78
theorem KQ.of {R : Rf} {T T' : Mm} {f : Nat} {F : Nat → Nat} {C : Nat → Int32} {n fs : Nat} {H : Nat → Nat → Int32} (k : KQ R T f F C n fs H) (e : ∀ a, a = 8 ∨ a = 9 ∨ a = 12 ∨ (14 ≤ a ∧ a ≤ 29) ∨ (f ≤ a ∧ a ≤ f + 8) → T'.1 a = T.1 a) : KQ R T' f F C n fs H := by
  obtain ⟨hk, hp, q2, q3, q10, q7, hR⟩ := k
  exact ⟨hk.fr (e 8 (by omega)) (e 9 (by omega)) (fun a h1 h2 => e a (by omega)), hp.of (fun a ha => e a (by omega)), q2, q3, q10, q7, hR⟩
theorem c_book13 {R : Rf} {T T1 : Mm} {f : Nat} {F : Nat → Nat} {C : Nat → Int32} {n fs : Nat} {H : Nat → Nat → Int32} (k : KQ R T1 f F C n fs H) (r00 : R 0 0 = 1) (r04 : R 0 4 = 30) (r010 : R 0 10 = 78) (r2 : R 30 2 = 31) (r3 : R 30 3 = 32) (hread : pX0_read R T 30 1 f = some T1) (hfault : T1.1 1 2 = 0) {W X : Nat → Nat} {m : Nat} (hb : BKc T1 F W X m) {x1 : Int32} (hx : x1 = 0 ∨ x1 = 1) : ∃ T9, pX11_book_13 R 0 x1 T = some (if (bvS F W X m 0 C).2.1 = 0 then -1 else nI (bvS F W X m 0 C).1, T9) ∧ (T9.1 78 0 = (bvS F W X m 0 C).2.1 ∧ T9.1 78 1 = nI (bvS F W X m 0 C).1 ∧ T9.1 78 2 = (bvS F W X m 0 C).2.2 0 ∧ T9.1 78 3 = (bvS F W X m 0 C).2.2 2) ∧ ((x1 = 1 ∧ 0 < (bvS F W X m 0 C).1) → ∃ fs', CC T9 8 (bvS F W X m 0 C).2.2 ∧ PP T9 (phN n) fs' (phH n H C)) ∧ (¬ (x1 = 1 ∧ 0 < (bvS F W X m 0 C).1) → CC T9 8 C ∧ PP T9 n fs H) ∧ Fr SB (wI (wI T1 0 15 0) 1 1 0) T9 := by
  have k3 : KQ R (wI (wI T1 0 15 0) 1 1 0) f F C n fs H := k.of (fun a ha => by
    have hf := k.1.2.2.2.2.2.1
    rw [wI_1, up2_row (by omega), wI_1, up2_row (by omega)])
  have hb3 : BKc (wI (wI T1 0 15 0) 1 1 0) F W X m := by
    obtain ⟨b1, b2, b3⟩ := hb
    have e : ∀ a, a ≠ 0 → a ≠ 1 → (wI (wI T1 0 15 0) 1 1 0).1 a = T1.1 a := fun a h1 h2 => by rw [wI_1, up2_row h2, wI_1, up2_row h1]
    exact ⟨b1, by rw [e 30 (by decide) (by decide), b2], fun k hk => by rw [e 31 (by decide) (by decide), e 32 (by decide) (by decide)]; exact b3 k hk⟩
  obtain ⟨hk, hp, q2, q3, q10, q7, hR⟩ := id k3
  obtain ⟨k1, k2, k3', k4, k5, k6, k7, k8, k9, k10⟩ := id hk
  have hok := bvS_ok k8 m 0 C (fun j _ h => (hb3.2.2 j (by omega)).2.2) k10
  have hm40 := hb3.1
  have hl := c_bookLive k7 k8 k6 q10 r2 r3 k10 hb3
  unfold pX11_book_13
  rw [r04, r00, k3', hread, bd1_some]
  simp only [lt]
  rw [hfault, wI_n (Or.inl (by decide)), wI_s, if_pos rfl, q2, k1, c_copy q10 k5 (by decide) k9, bd1_some, hl, bd2_some]
  generalize wI (wI T1 0 15 0) 1 1 0 = T3 at *
  generalize bvS F W X m 0 C = B at *
  obtain ⟨o1, o2, o3, o4, o5⟩ := hok
  rw [r010]
  simp (disch := omega) only [lt, jn, bd1_some, bd2_some, ix_nI, ix_lit, nI_clamp, lit_clamp, lit_add, add_lit, nI_add, nI_leI, nI_ltI, nI_eq, lit_le, le_lit, lit_lt, lt_lit, lit_eq, eq_lit, if_pos, if_neg]
  have g0 : (setC (wI T3 30 0 B.2.1) 10 B.2.2).1 30 0 = B.2.1 := by rw [setC_o (by decide) (by decide), wI_s]
  have g1 : ∀ (U : Mm) (v1 v2 v3 : Int32), (wI (wI (wI U 78 0 v1) 78 1 v2) 78 2 v3).1 10 2 = U.1 10 2 := fun U v1 v2 v3 => by rw [wI_n (Or.inl (by decide)), wI_n (Or.inl (by decide)), wI_n (Or.inl (by decide))]
  have g2 : ∀ (U : Mm) (v1 v2 : Int32), (wI (wI U 78 0 v1) 78 1 v2).1 10 0 = U.1 10 0 := fun U v1 v2 => by rw [wI_n (Or.inl (by decide)), wI_n (Or.inl (by decide))]
  rw [g0, g2, setC_c (by decide), g1, setC_c (by decide)]
  generalize hT9 : wI (wI (wI (wI (setC (wI T3 30 0 B.2.1) 10 B.2.2) 78 0 B.2.1) 78 1 (nI B.1)) 78 2 (B.2.2 0)) 78 3 (B.2.2 2) = T9
  have fT9 : Fr SB T3 T9 := by
    rw [← hT9]
    exact (((((Fr.refl.sw (by unfold SB SA; omega)).sC (by unfold SB SA; omega) (by unfold SB SA; omega)).sw (by unfold SB SA; omega)).sw (by unfold SB SA; omega)).sw (by unfold SB SA; omega)).sw (by unfold SB SA; omega)
  have eT9 : ∀ a, a ≠ 10 → a ≠ 11 → a ≠ 30 → a ≠ 78 → T9.1 a = T3.1 a := fun a h1 h2 h3 h4 => by
    rw [← hT9, wI_1, up2_row h4, wI_1, up2_row h4, wI_1, up2_row h4, wI_1, up2_row h4, setC_o h1 h2, wI_1, up2_row h3]
  have t78 : T9.1 78 0 = B.2.1 ∧ T9.1 78 1 = nI B.1 ∧ T9.1 78 2 = B.2.2 0 ∧ T9.1 78 3 = B.2.2 2 := by
    rw [← hT9]
    refine ⟨?_, ?_, ?_, wI_s⟩
    · rw [wI_n (Or.inr (by decide)), wI_n (Or.inr (by decide)), wI_n (Or.inr (by decide)), wI_s]
    · rw [wI_n (Or.inr (by decide)), wI_n (Or.inr (by decide)), wI_s]
    · rw [wI_n (Or.inr (by decide)), wI_s]
  have c10 : CC T9 10 B.2.2 := by
    rw [← hT9]
    refine (CC.sC (T := wI T3 30 0 B.2.1)).of ?_ ?_
    · rw [wI_1, up2_row (by decide), wI_1, up2_row (by decide), wI_1, up2_row (by decide), wI_1, up2_row (by decide)]
    · rw [wI_1, up2_row (by decide), wI_1, up2_row (by decide), wI_1, up2_row (by decide), wI_1, up2_row (by decide)]
  have t30 : T9.1 30 0 = B.2.1 := by
    rw [← hT9, wI_n (Or.inl (by decide)), wI_n (Or.inl (by decide)), wI_n (Or.inl (by decide)), wI_n (Or.inl (by decide)), g0]
  clear hT9 g0 g1 g2
  have h169 : ∀ V : Mm, V.1 30 0 = B.2.1 → pX11_book_169 R 0 x1 V (nI B.1) = some (if B.2.1 = 0 then -1 else nI B.1, V) := by
    intro V hV
    unfold pX11_book_169
    rw [r04, hV]
    by_cases z : B.2.1 = 0
    · rw [if_pos z, if_pos z]
    · rw [if_neg z, if_neg z]
  have hc8 : CC T9 8 C := k9.of (eT9 8 (by decide) (by decide) (by decide) (by decide)) (eT9 9 (by decide) (by decide) (by decide) (by decide))
  have hp9 : PP T9 n fs H := hp.of (fun a ha => eT9 a (by omega) (by omega) (by omega) (by omega))
  by_cases e : x1 = 1 ∧ 0 < B.1
  · rw [if_pos e.1, if_neg (show ¬ B.1 ≤ 0 by omega), q3]
    obtain ⟨U, fs', u1, u2, u3⟩ := c_push hR k5 hp9 hc8
    have hU10 : CC U 10 B.2.2 := c10.fr u3 (by unfold S12; omega) (by unfold S12; omega)
    have e8 : ∀ a, 10 ≤ a → (setC U 8 B.2.2).1 a = U.1 a := fun a ha => setC_o (by omega) (by omega)
    rw [u1, bd1_some, c_copy k5 q10 (by decide) hU10, bd1_some, h169 _ (by rw [e8 30 (by decide), (u3 30 (by unfold S12; omega)).1, t30])]
    refine ⟨_, rfl, ?_, fun _ => ⟨fs', CC.sC, u2.of (fun a ha => e8 a (by omega))⟩, fun z => absurd e z, ?_⟩
    · rw [e8 78 (by decide), (u3 78 (by unfold S12; omega)).1]
      exact t78
    · exact (fT9.trans (u3.mono (fun a ha => by unfold S12 at ha; unfold SB SA; omega))).sC (by unfold SB SA; omega) (by unfold SB SA; omega)
  · have hres : (if x1 = 1 then if B.1 ≤ 0 then pX11_book_169 R 0 x1 T9 (nI B.1) else bd1 (pX7_push R T9 (R 0 3) 8) (fun (T10 : Mm) => bd1 (pX1_copy R T10 8 10) (fun (T11 : Mm) => pX11_book_169 R 0 x1 T11 (nI B.1))) else pX11_book_169 R 0 x1 T9 (nI B.1)) = some (if B.2.1 = 0 then -1 else nI B.1, T9) := by
      by_cases z : x1 = 1
      · have zb : B.1 = 0 := by
          rcases Nat.eq_zero_or_pos B.1 with y | y
          · exact y
          · exact absurd ⟨z, y⟩ e
        rw [if_pos z, if_pos (show B.1 ≤ 0 by omega), h169 _ t30]
      · rw [if_neg z, h169 _ t30]
    rw [hres]
    exact ⟨T9, rfl, t78, fun z => absurd z e, fun _ => ⟨hc8, hp9⟩, fT9⟩
/-- a loop that copies, with something beside it -/
theorem zl3_copy1 {γ ρ : Type} {f : (Mm → γ → Int32 → Option ρ) → Mm → γ → Int32 → Option ρ} (T : Mm) (a i0 b j0 n : Nat) (c : γ) (ex : Mm → Option ρ) (hab : b ≠ a) (hn : n < 100000) (hs : ∀ (r : Mm → γ → Int32 → Option ρ) (U : Mm) (i : Nat), (∀ x, x ≠ a → U.1 x = T.1 x) → i < n → f r U c (nI i) = r (wI U a (i0 + i) (U.1 b (j0 + i))) c (nI (i + 1))) (he : ∀ (r : Mm → γ → Int32 → Option ρ) (U : Mm), f r U c (nI n) = ex U) : zl3 f FU T c 0 = ex (cpR T a i0 b j0 n) := by
  refine zl3_wp (f := f) (P := fun m U y x => ∃ i, x = nI i ∧ y = c ∧ i + m = n ∧ U = cpR T a i0 b j0 i) (Q := fun z => z = ex (cpR T a i0 b j0 n)) ?_ FU n T c 0 (by rw [FU_eq]; omega) ⟨0, rfl, rfl, by omega, cpR_0.symm⟩
  rintro m r U y x ⟨i, rfl, rfl, hi, rfl⟩ hr
  by_cases e : i < n
  · rw [hs r _ i (fun x hx => cpR_o hx) e, cpR_o hab, cpR_w]
    exact hr (m - 1) _ _ _ (by omega) ⟨i + 1, rfl, rfl, by omega, rfl⟩
  · have : i = n := by omega
    subst this
    rw [he]
/-- what the reference touches of a BOOK that was read -/
def FBk (T V : Mm) : Prop := (∀ a, a ≠ 105 → a ≠ 107 → a ≠ 112 → a ≠ 113 → a ≠ 118 → V.1 a = T.1 a) ∧ (∀ k, k ≠ 23 → k ≠ 39 → V.1 105 k = T.1 105 k) ∧ (∀ k, (k < 80 ∨ 89 ≤ k) → V.1 107 k = T.1 107 k) ∧ V.2 = T.2
theorem FBk.refl {T : Mm} : FBk T T := ⟨fun _ _ _ _ _ _ => rfl, fun _ _ _ => rfl, fun _ _ => rfl, rfl⟩
theorem FBk.trans {T U V : Mm} (h : FBk T U) (h' : FBk U V) : FBk T V := ⟨fun a h1 h2 h3 h4 h5 => (h'.1 a h1 h2 h3 h4 h5).trans (h.1 a h1 h2 h3 h4 h5), fun k h1 h2 => (h'.2.1 k h1 h2).trans (h.2.1 k h1 h2), fun k hk => (h'.2.2.1 k hk).trans (h.2.2.1 k hk), h'.2.2.2.trans h.2.2.2⟩
theorem FBk.w118 {T : Mm} {k : Nat} {v : Int32} : FBk T (wI T 118 k v) := ⟨fun a _ _ _ _ h => by rw [wI_1, up2_row h], fun k _ _ => wI_n (Or.inl (by decide)), fun k _ => wI_n (Or.inl (by decide)), rfl⟩
theorem FBk.w39 {T : Mm} {v : Int32} : FBk T (wI T 105 39 v) := ⟨fun a h _ _ _ _ => by rw [wI_1, up2_row h], fun k _ h => wI_n (Or.inr h), fun k _ => wI_n (Or.inl (by decide)), rfl⟩
theorem FBk.sM {T : Mm} {n : Nat} {C : Nat → Int32} : FBk T (setM T n C) := ⟨fun a _ h _ _ _ => setM_o h, fun k _ _ => by rw [setM_o (by decide)], fun k hk => FA.sM.2.2.1 k hk, rfl⟩
theorem FBk.fp {T V : Mm} (h : FP T V) : FBk T V := ⟨fun a h1 _ h3 _ _ => h.1 a h1 h3, fun k h1 _ => h.2.1 k h1, fun k _ => by rw [h.1 107 (by decide) (by decide)], h.2.2⟩
theorem FBk.cp {T : Mm} {a i0 b j0 n : Nat} (h : a = 112 ∨ a = 113) : FBk T (cpR T a i0 b j0 n) := ⟨fun x _ _ h3 h4 _ => cpR_o (by omega), fun k _ _ => by rw [cpR_o (by omega)], fun k _ => by rw [cpR_o (by omega)], rfl⟩
theorem phH_top {n : Nat} {H : Nat → Nat → Int32} {C : Nat → Int32} (hn : n ≤ 8) : phH n H C (phN n - 1) = C := by
  unfold phN phH
  by_cases e : n < 8
  · rw [if_pos e, if_pos e]
    show (if n + 1 - 1 = n then C else H (n + 1 - 1)) = C
    rw [if_pos (by omega)]
  · rw [if_neg e, if_neg e]
    rfl
theorem phH_low {n : Nat} {H : Nat → Nat → Int32} {C D : Nat → Int32} {k : Nat} (hk : k + 1 < phN n) : phH n H C k = phH n H D k := by
  unfold phN at hk
  unfold phH
  by_cases e : n < 8
  · rw [if_pos e] at hk
    rw [if_pos e, if_pos e]
    show (if k = n then C else H k) = (if k = n then D else H k)
    rw [if_neg (by omega), if_neg (by omega)]
  · rw [if_neg e] at hk
    rw [if_neg e, if_neg e]
    show (if k = 7 then C else H (k + 1)) = (if k = 7 then D else H (k + 1))
    rw [if_neg (by omega), if_neg (by omega)]
theorem hbrS {F : Nat → Nat} (hv : VF F) {C : Nat → Int32} (hvc : VC F C) : (((1 : Int32) <<< (nI (F 2) &&& 31)) - 1) &&& (wh (F 2) (C 2) ^^^ (-1 : Int32)) = C 2 := by
  have v2 := hv.2.2.1
  apply b_ext
  intro i hi
  rw [b_and, mask_bt _ (by omega) i hi, bt_not _ hi, bt_wh (by omega) hi]
  cases z : bt (C 2) i with
  | true => simp [hvc.2.2.1 i z]
  | false =>
    by_cases y : i < F 2 <;> simp [y]
theorem phN_pos {n : Nat} : 0 < phN n := by
  unfold phN
  by_cases e : n < 8
  · rw [if_pos e]; omega
  · rw [if_neg e]; omega
theorem m_book83 {R : Rf} {T : Mm} {F : Nat → Nat} {C : Nat → Int32} {n : Nat} {H : Nat → Nat → Int32} (l : LQ R T F C n H) (r8 : R 105 8 = 109) (r38 : R 105 38 = 118) {W X : Nat → Nat} {m : Nat} (hm40 : m ≤ 40) (hl : ∀ k, k < m → VL F (W k) (X k)) (hb : BKm T W X m) {x1 : Int32} (hx : x1 = 0 ∨ x1 = 1) : ∃ V, pX12_book_83 R 105 x1 T = some (if (bvS F W X m 0 C).2.1 = 0 then -1 else nI (bvS F W X m 0 C).1, V) ∧ (V.1 118 0 = (bvS F W X m 0 C).2.1 ∧ V.1 118 1 = nI (bvS F W X m 0 C).1 ∧ V.1 118 2 = (bvS F W X m 0 C).2.2 0 ∧ V.1 118 3 = (bvS F W X m 0 C).2.2 2) ∧ V.1 105 39 = 1 ∧ ((x1 = 1 ∧ 0 < (bvS F W X m 0 C).1) → MC V (F 2) (bvS F W X m 0 C).2.2 ∧ PM V (phN n) (F 2) (phH n H C)) ∧ (¬ (x1 = 1 ∧ 0 < (bvS F W X m 0 C).1) → MC V (F 2) C ∧ PM V n (F 2) H) ∧ FBk T V := by
  obtain ⟨l1, l2, l3, l4, l5, l6⟩ := id l
  obtain ⟨m1, m2, m3, m4, m5⟩ := id l1
  have r22 : R 105 22 = 113 := l4
  have hok := bvS_ok m3 m 0 C (fun j _ h => hl j (by omega)) m4
  have htr : pX12_tries R T 105 = some (cpR T 113 0 107 80 9) := by
    unfold pX12_tries
    refine zl2_copy (f := pX12_tries_2 R 105 (pX12_tries_29 R 105)) T 113 0 107 80 9 (fun V => some V) (by decide) (by omega) ?_ ?_
    · intro r V i hV hi
      unfold pX12_tries_2
      simp (disch := omega) only [lt, jn, bd1_some, bd2_some, ix_nI, ix_lit, nI_clamp, lit_clamp, lit_add, add_lit, nI_add, nI_leI, nI_ltI, nI_eq, lit_le, le_lit, lit_lt, lt_lit, lit_eq, eq_lit, if_pos, if_neg, m1, r22, Nat.zero_add]
    · intro r V
      unfold pX12_tries_2
      rw [if_pos (by decide)]
      rfl
  unfold pX12_book_83
  rw [htr, bd1_some]
  generalize hU1 : cpR T 113 0 107 80 9 = U1
  have f1 : FBk T U1 := by rw [← hU1]; exact FBk.cp (Or.inr rfl)
  have b113 : ∀ i, i < 9 → U1.1 113 i = r9 (F 2) C i := fun i hi => by
    have := cpR_s (T := T) (a := 113) (i0 := 0) (b := 107) (j0 := 80) (n := 9) hi
    rw [Nat.zero_add, hU1] at this
    rw [this]
    exact m5.row i hi
  have e107 : U1.1 107 = T.1 107 := by rw [← hU1, cpR_o (by decide)]
  have e112 : U1.1 112 = T.1 112 := by rw [← hU1, cpR_o (by decide)]
  -- four zeros
  have hz : zl2 (pX12_book_89 R 105 x1 (pX12_book_107 R 105 x1)) FU U1 0 = pX12_book_107 R 105 x1 (wI (wI (wI (wI U1 118 0 0) 118 1 0) 118 2 0) 118 3 0) := by
    have st : ∀ (r : Mm → Int32 → Option (Int32 × Mm)) (V : Mm) (i : Nat), i < 4 → pX12_book_89 R 105 x1 (pX12_book_107 R 105 x1) r V (nI i) = r (wI V 118 i 0) (nI (i + 1)) := by
      intro r V i hi
      unfold pX12_book_89
      simp (disch := omega) only [lt, jn, bd1_some, bd2_some, ix_nI, ix_lit, nI_clamp, lit_clamp, lit_add, add_lit, nI_add, nI_leI, nI_ltI, nI_eq, lit_le, le_lit, lit_lt, lt_lit, lit_eq, eq_lit, if_pos, if_neg, r38]
    have st4 : ∀ (r : Mm → Int32 → Option (Int32 × Mm)) (V : Mm), pX12_book_89 R 105 x1 (pX12_book_107 R 105 x1) r V (nI 4) = pX12_book_107 R 105 x1 V := by
      intro r V
      unfold pX12_book_89
      rw [if_pos (by decide)]
    rw [show FU = 999995 + 1 + 1 + 1 + 1 + 1 from rfl, show (0 : Int32) = nI 0 from rfl]
    rw [zl2_s, st _ _ 0 (by decide), zl2_s, st _ _ 1 (by decide), zl2_s, st _ _ 2 (by decide), zl2_s, st _ _ 3 (by decide), zl2_s, st4]
    rfl
  rw [hz]
  generalize hU2 : wI (wI (wI (wI U1 118 0 0) 118 1 0) 118 2 0) 118 3 0 = U2
  have f2 : FBk T U2 := by rw [← hU2]; exact (((f1.trans FBk.w118).trans FBk.w118).trans FBk.w118).trans FBk.w118
  have eU2 : ∀ a, a ≠ 118 → U2.1 a = U1.1 a := fun a ha => by rw [← hU2, wI_1, up2_row ha, wI_1, up2_row ha, wI_1, up2_row ha, wI_1, up2_row ha]
  have z0 : U2.1 118 0 = 0 := by rw [← hU2, wI_n (Or.inr (by decide)), wI_n (Or.inr (by decide)), wI_n (Or.inr (by decide)), wI_s]
  have z1 : U2.1 118 1 = 0 := by rw [← hU2, wI_n (Or.inr (by decide)), wI_n (Or.inr (by decide)), wI_s]
  have lU2 : LV R U2 F C := l1.fr (by rw [eU2 107 (by decide), e107])
  have hbk2 : BKm U2 W X m := by
    obtain ⟨c1, c2⟩ := hb
    refine ⟨by rw [f2.2.1 37 (by decide) (by decide)]; exact c1, fun k hk => ?_⟩
    rw [f2.1 109 (by decide) (by decide) (by decide) (by decide) (by decide)]
    exact c2 k hk
  unfold pX12_book_107
  have hlive := m_bookLive m1 r8 r38 lU2.2.1 m3 m4 hm40 hl hbk2 z0 z1 x1 (pX12_book_181 R 105 x1)
  rw [lU2.2.2.2.2.self] at hlive
  rw [hlive]
  generalize bvS F W X m 0 C = B at *
  obtain ⟨o1, o2, o3, o4, o5⟩ := hok
  generalize hU3 : wI (wI U2 118 0 B.2.1) 118 1 (nI B.1) = U3
  have eU3 : ∀ a, a ≠ 118 → U3.1 a = U2.1 a := fun a ha => by rw [← hU3, wI_1, up2_row ha, wI_1, up2_row ha]
  have f3 : FBk T U3 := by rw [← hU3]; exact (f2.trans FBk.w118).trans FBk.w118
  have y0 : U3.1 118 0 = B.2.1 := by rw [← hU3, wI_n (Or.inr (by decide)), wI_s]
  have y1 : U3.1 118 1 = nI B.1 := by rw [← hU3, wI_s]
  have M3 : MF U3 F := fun k hk => by rw [eU3 107 (by decide)]; exact lU2.2.1 k hk
  unfold pX12_book_181
  have e2 : ∀ v, (wI (setM U3 (F 2) B.2.2) 118 2 v).1 107 2 = nI (F 2) := fun v => by rw [wI_n (Or.inl (by decide))]; exact M3.sM 2 (by decide)
  have e82 : ∀ v, (wI (setM U3 (F 2) B.2.2) 118 2 v).1 107 82 = wh (F 2) (B.2.2 2) := fun v => by rw [wI_n (Or.inl (by decide)), setM_2]
  simp (disch := omega) only [lt, jn, bd1_some, bd2_some, ix_nI, ix_lit, nI_clamp, lit_clamp, lit_add, add_lit, nI_add, nI_leI, nI_ltI, nI_eq, lit_le, le_lit, lit_lt, lt_lit, lit_eq, eq_lit, if_pos, if_neg, m1, r38, setM_0, e2, e82, hbrS m3 o3]
  rw [setM_wo (by decide), setM_wo (by decide), setM_wo (by decide)]
  generalize hU4 : wI (wI (wI U3 118 2 (B.2.2 0)) 118 3 (B.2.2 2)) 105 39 1 = U4
  have eU4 : ∀ a, a ≠ 118 → a ≠ 105 → U4.1 a = U3.1 a := fun a ha hb => by rw [← hU4, wI_1, up2_row hb, wI_1, up2_row ha, wI_1, up2_row ha]
  have f4 : FBk T U4 := by rw [← hU4]; exact ((f3.trans FBk.w118).trans FBk.w118).trans FBk.w39
  have t118 : U4.1 118 0 = B.2.1 ∧ U4.1 118 1 = nI B.1 ∧ U4.1 118 2 = B.2.2 0 ∧ U4.1 118 3 = B.2.2 2 := by
    rw [← hU4]
    refine ⟨?_, ?_, ?_, ?_⟩
    · rw [wI_n (Or.inl (by decide)), wI_n (Or.inr (by decide)), wI_n (Or.inr (by decide)), y0]
    · rw [wI_n (Or.inl (by decide)), wI_n (Or.inr (by decide)), wI_n (Or.inr (by decide)), y1]
    · rw [wI_n (Or.inl (by decide)), wI_n (Or.inr (by decide)), wI_s]
    · rw [wI_n (Or.inl (by decide)), wI_s]
  have t39 : U4.1 105 39 = 1 := by rw [← hU4, wI_s]
  have b4 : ∀ i, i < 9 → U4.1 113 i = r9 (F 2) C i := fun i hi => by
    rw [eU4 113 (by decide) (by decide), eU3 113 (by decide), eU2 113 (by decide)]
    exact b113 i hi
  have p4 : PM U4 n (F 2) H := by
    refine ⟨?_, fun k hk i hi => ?_⟩
    · rw [← hU4, wI_n (Or.inr (by decide)), wI_n (Or.inl (by decide)), wI_n (Or.inl (by decide)), eU3 105 (by decide), eU2 105 (by decide)]
      have : U1.1 105 = T.1 105 := by rw [← hU1, cpR_o (by decide)]
      rw [this]
      exact l2.1
    · rw [eU4 112 (by decide) (by decide), eU3 112 (by decide), eU2 112 (by decide), e112]
      exact l2.2 k hk i hi
  have hback : ∀ D, pX12_back R (setM U4 (F 2) D) 105 = some (setM U4 (F 2) C) := by
    intro D
    unfold pX12_back
    rw [zl2_copy (f := pX12_back_2 R 105 (pX12_back_29 R 105)) (setM U4 (F 2) D) 107 80 113 0 9 (fun V => some V) (by decide) (by omega) ?_ ?_]
    · rw [cpR_M (n := F 2) (C := C) (by decide) (fun i hi => by
        rw [Nat.zero_add, setM_o (by decide)]
        exact b4 i hi), setM_setM]
    · intro r V i hV hi
      unfold pX12_back_2
      simp (disch := omega) only [lt, jn, bd1_some, bd2_some, ix_nI, ix_lit, nI_clamp, lit_clamp, lit_add, add_lit, nI_add, nI_leI, nI_ltI, nI_eq, lit_le, le_lit, lit_lt, lt_lit, lit_eq, eq_lit, if_pos, if_neg, m1, r22, Nat.zero_add]
    · intro r V
      unfold pX12_back_2
      rw [if_pos (by decide)]
      rfl
  unfold pX12_book_279
  rcases hx with hx | hx
  · subst hx
    rw [if_neg (show ¬ (0 : Int32) = 1 by decide), if00, hback, bd1_some]
    refine ⟨_, rfl, ?_, ?_, fun z => absurd z.1 (by decide), fun _ => ⟨MC.sM, p4.sM⟩, f4.trans FBk.sM⟩
    · rw [setM_o (by decide)]; exact t118
    · rw [setM_o (by decide)]; exact t39
  · subst hx
    rw [if_pos rfl]
    have e1181 : (setM U4 (F 2) B.2.2).1 118 1 = nI B.1 := by rw [setM_o (by decide)]; exact t118.2.1
    simp (disch := omega) only [lt, jn, bd1_some, bd2_some, ix_nI, ix_lit, nI_clamp, lit_clamp, lit_add, add_lit, nI_add, nI_leI, nI_ltI, nI_eq, lit_le, le_lit, lit_lt, lt_lit, lit_eq, eq_lit, if_pos, if_neg, r38, e1181]
    by_cases e : 0 < B.1
    · obtain ⟨V1, w1, w2, w3⟩ := m_stores (C := B.2.2) m1 l3 l5 p4.sM (MC.sM (T := U4) (n := F 2) (C := B.2.2))
      rw [if_neg (by omega), w1, bd1_some]
      have hN : V1.1 105 23 = nI (phN n) := w2.1
      have hpos := phN_pos (n := n)
      have hle := phN_le l5
      have hsub1 : nI (phN n) - 1 = nI (phN n - 1) := pk_sub (b := 1) hpos
      have key := zl3_copy1 (f := pX12_book_245 R 105 1 (fun T x2 => if (1 : Int32) = 0 then bd1 (pX12_back R T 105) (fun (T21 : Mm) => some (x2, T21)) else some (x2, T))) V1 112 (9 * (phN n - 1)) 113 0 9 (if B.2.1 = 0 then -1 else nI B.1) (fun V => some (if B.2.1 = 0 then -1 else nI B.1, V)) (by decide) (by omega) ?_ ?_
      · have hb113 : ∀ i, i < 9 → V1.1 113 i = r9 (F 2) C i := fun i hi => by
          rw [w3.1 113 (by decide) (by decide), setM_o (by decide)]
          exact b4 i hi
        rw [key]
        refine ⟨_, rfl, ?_, ?_, fun _ => ⟨?_, ?_⟩, fun z => absurd ⟨trivial, e⟩ z, ?_⟩
        · rw [cpR_o (by decide), w3.1 118 (by decide) (by decide), setM_o (by decide)]; exact t118
        · rw [cpR_o (by decide), w3.2.1 39 (by decide), setM_o (by decide)]; exact t39
        · refine (MC.sM (T := U4) (n := F 2) (C := B.2.2)).of (fun k _ _ => ?_)
          rw [cpR_o (by decide), w3.1 107 (by decide) (by decide)]
        · refine ⟨by rw [cpR_o (by decide)]; exact hN, fun k hk i hi => ?_⟩
          by_cases ek : k = phN n - 1
          · subst ek
            rw [cpR_s hi, Nat.zero_add, hb113 i hi, phH_top l5]
          · rw [cpR_n (by omega), w2.2 k hk i hi, phH_low (C := B.2.2) (D := C) (by omega)]
        · exact ((f4.trans FBk.sM).trans (FBk.fp w3)).trans (FBk.cp (Or.inl rfl))
      · intro r V i hV hi
        have e23 : V.1 105 23 = nI (phN n) := by rw [hV 105 (by decide)]; exact hN
        unfold pX12_book_245
        rw [e23, hsub1]
        simp (disch := omega) only [lt, jn, bd1_some, bd2_some, ix_nI, ix_lit, nI_clamp, lit_clamp, lit_add, add_lit, nI_add, nI_leI, nI_ltI, nI_eq, lit_le, le_lit, lit_lt, lt_lit, lit_eq, eq_lit, if_pos, if_neg, lit_mul, l3, r22, Nat.zero_add]
      · intro r V
        unfold pX12_book_245
        rw [if_pos (by decide)]
        exact if10
    · have zb : B.1 = 0 := by omega
      rw [if_pos (by omega), if10]
      have hC := o4 (by omega)
      refine ⟨_, rfl, ?_, ?_, fun z => absurd z.2 e, fun _ => ⟨?_, p4.sM⟩, f4.trans FBk.sM⟩
      · rw [setM_o (by decide)]; exact t118
      · rw [setM_o (by decide)]; exact t39
      · rw [hC]; exact MC.sM
