/-! a SENTENCE: the class reads it -/
theorem c_cond {R : Rf} {b : Nat → Nat} {L M n s f : Nat} {F : Nat → Nat} {N : Nat → List Nat} {FO FC : RecF} {d : Nat} (hR : RT R) (hS : RS R s) (h97 : 97 ≤ s) (h79 : 79 ≤ f) (hfs : f + 8 < s) (hO : OneC R b L M n s f F N FO d) : CondC R b L M n s f F N (pX8_readCondition_F FO FC) d := by
  intro T o c ones t h hs hg hlen h20 ho
  have := c_ors (FC := FC) hR hS h97 h79 hfs hO o ho 21 FU 0 T c ones t h hs hg hlen h20 (by omega) (by omega) (by decide)
  exact this
theorem c_pO {R : Rf} {b : Nat → Nat} {L M n s f : Nat} {F : Nat → Nat} {N : Nat → List Nat} (hR : RT R) (hS : RS R s) (h97 : 97 ≤ s) (hv : VF F) (hN : NW F N) (h79 : 79 ≤ f) (hfs : f + 8 < s) : ∀ (e d : Nat), d ≤ 9 → 10 ≤ e + d → OneC R b L M n s f F N (pO e) d := by
  intro e
  induction e with
  | zero => intro d h1 h2; omega
  | succ e ih =>
    intro d h1 h2
    exact c_one hR hS h97 hv hN h79 hfs h1 (fun hd => ih (d + 1) (by omega) (by omega)) (fun hd => c_cond hR hS h97 h79 hfs (ih (d + 1) (by omega) (by omega)))
def FT8 (s : Nat) (T V : Mm) : Prop := (∀ a, a ≠ 1 → a ≠ 3 → a ≠ 4 → a ≠ 5 → ¬ (s ≤ a ∧ a ≤ s + 3) → V.1 a = T.1 a) ∧ (∀ a, a ≠ 6 → V.2 a = T.2 a) ∧ V.1 1 1 = T.1 1 1
theorem c_sentRead {R : Rf} {T : Mm} {b : Nat → Nat} {L s f : Nat} {F : Nat → Nat} {N : Nat → List Nat} (hR : RT R) (hS : RS R s) (h97 : 97 ≤ s) (hv : VF F) (hN : NW F N) (h79 : 79 ≤ f) (hfs : f + 8 < s) (hX : XC T b L) (hg : CG R T f F N) : ∃ V, pX8_read R T s 1 f = some V ∧ FT8 s T V ∧ ((∃ k p, ruS b L 200 F N 942 (false, [], [], 0, 1, 0) = paB k p ∧ gB L 200 k p ∧ V.1 1 2 = nI k ∧ V.1 1 3 = nI p) ∨ ∃ c ones, ruS b L 200 F N 942 (false, [], [], 0, 1, 0) = paO (c, ones) ∧ V.1 1 2 = 0 ∧ SC V s c ones ∧ c.length < 40 ∧ ones ≤ 20) := by
  unfold pX8_read
  simp only [lt]
  generalize hU : wI (wI T s 0 0) s 1 0 = U
  have u1 : ∀ a, a ≠ s → U.1 a = T.1 a := fun a ha => by rw [← hU, wI_1, up2_row ha, wI_1, up2_row ha]
  have u2 : U.2 = T.2 := by rw [← hU]; rfl
  have hXU : XC U b L := ⟨hX.1, by rw [u1 1 (by omega)]; exact hX.2.1, fun k hk => by rw [u1 2 (by omega)]; exact hX.2.2.1 k hk, fun k hk => by rw [u2]; exact hX.2.2.2 k hk⟩
  obtain ⟨V, n, b1, b2, b3, b4, b5, b6⟩ := c_begin (M := 200) hR hXU (by omega)
  rw [show (200 : Int32) = nI 200 from rfl, b1, bd1_some]
  have hgV : CG R V f F N := hg.at (fun a h1 h2 => by rw [b2.1 a (by omega) (by omega) (by omega) (by omega), u1 a (by omega)]) (fun p _ => by rw [b2.2.1 _ (by omega), u2]) (fun p _ => by rw [b2.2.1 _ (by omega), u2])
  have hsV : SC V s [] 0 := by
    have e : V.1 s = U.1 s := b2.1 s (by omega) (by omega) (by omega) (by omega)
    exact ⟨by rw [e, ← hU, wI_n (Or.inr (by decide)), wI_s]; rfl, by rw [e, ← hU, wI_s]; rfl, trivial⟩
  have hcV : CuC V b L 200 n 0 := ⟨b6, b5, by omega, hX.1, by omega⟩
  have hn := b6.1
  obtain ⟨u, W, w1, w2, w3⟩ := c_cond (FC := noF) hR hS h97 h79 hfs (c_pO (b := b) (L := L) (M := 200) (n := n) hR hS h97 hv hN h79 hfs 30 1 (by omega) (by omega)) V [] [] 0 0 hcV hsV hgV (Nat.le_refl _) (by omega) (fun x l e => by cases e)
  have w1' : pC 30 R V s 1 f 1 = some (u, W) := w1
  have fr : ∀ X, FS s V X → FT8 s T X := fun X hx => ⟨fun a h1 h3 h4 h5 h6 => by rw [hx.1 a h1 h6, b2.1 a h1 h3 h4 h5, u1 a (by omega)], fun a ha => by rw [hx.2.1, b2.2.1 a ha, u2], by rw [hx.2.2 1 (by decide) (by decide) (by decide), b2.2.2, u1 1 (by omega)]⟩
  rw [w1', bd2_some]
  rcases w3 with ⟨k, p, j, rfl, y2, y3, y4, y5, y6⟩ | ⟨o2, c2, d2, c', ones', t', j, rfl, y2, y3, y4, ⟨y5, y5'⟩, y6, y7, y8, y9, y10, y11⟩
  · rw [if_pos rfl]
    refine ⟨W, rfl, fr W w2, Or.inl ⟨k, p, ?_, y4, y2, y3⟩⟩
    have := y5 (942 - j)
    rwa [show 942 - j + j = 942 by omega] at this
  · have ht := y8.2.2.1
    have hrun : ∀ r, stS b L 200 F N (true, o2, c2, ones', d2, t') = r → ruS b L 200 F N 942 (false, [], [], 0, 1, 0) = paD r fun r => Sum.elim (ruS b L 200 F N (941 - j)) paO r := fun r hr => by
      have := y3 (941 - j + 1)
      rw [show 941 - j + 1 + j = 942 by omega] at this
      rw [this, ruS_succ, hr]
    rw [if10]
    unfold pX10_finish pX10_finish_14
    rw [c_atEnd hR y8, bd1_some, ifI, c_fail1 hR y8, bd2_some, if_pos rfl, y8.1.2.2.1]
    by_cases e : kkS b L 200 t' = 0 ∧ ¬ 200 < L
    · rw [if_pos e.1, if_neg e.2, if00, bd2_some]
      refine ⟨W, rfl, fr W w2, Or.inr ⟨c', ones', ?_, by rw [y2, b3], y7, ?_, y11⟩⟩
      · rw [hrun (paO (Sum.inr (c', ones'))) (by rw [stS_b]; unfold beS; rw [if_pos e, y5, if_pos rfl]), paD_o]
        rfl
      · simp only [List.length_nil] at y9; omega
    · have hb : stS b L 200 F N (true, o2, c2, ones', d2, t') = paB 1 (psS b L 200 t') := by
        rw [stS_b]
        unfold beS
        rw [y5, if_neg e, if_neg (show ¬ (kkS b L 200 t' = 4 ∧ vvS b L t' = 12) by omega), if_neg (show ¬ (kkS b L 200 t' = 4 ∧ vvS b L t' = 11) by omega), if_neg (fun z => z.2 rfl)]
      have hbad : ∃ V', (some (flc W 1 (psS b L 200 t')) : Option Mm) = some V' ∧ FT8 s T V' ∧ ((∃ k p, ruS b L 200 F N 942 (false, [], [], 0, 1, 0) = paB k p ∧ gB L 200 k p ∧ V'.1 1 2 = nI k ∧ V'.1 1 3 = nI p) ∨ ∃ c ones, ruS b L 200 F N 942 (false, [], [], 0, 1, 0) = paO (c, ones) ∧ V'.1 1 2 = 0 ∧ SC V' s c ones ∧ c.length < 40 ∧ ones ≤ 20) := ⟨_, rfl, fr _ w2.fl, Or.inl ⟨1, _, by rw [hrun _ hb, paD_b], ⟨by omega, by omega, psS_le⟩, flc_2, flc_3⟩⟩
      by_cases e0 : kkS b L 200 t' = 0
      · rw [if_pos e0, if_pos (show 200 < L by omega), if10, bd2_some]
        exact hbad
      · rw [if_neg e0, bd2_some]
        exact hbad
