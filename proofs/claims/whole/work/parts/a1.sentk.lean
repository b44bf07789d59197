/-! sentence(), both whole -/
def FZs (z : Nat) (T V : Mm) : Prop := (∀ a k, a ≠ 1 → a ≠ 3 → a ≠ 4 → a ≠ 5 → ¬ (z ≤ a ∧ a ≤ z + 3) → ¬ (a = 0 ∧ k = 15) → V.1 a k = T.1 a k) ∧ (∀ a, a ≠ 6 → V.2 a = T.2 a) ∧ V.1 1 1 = 0
theorem k_sentence {R : Rf} {T T' : Mm} {b : Nat → Nat} {L f s z : Nat} {F : Nat → Nat} {N : Nat → List Nat} (hR : RT R) (hr : RM R) (r00 : R 0 0 = 1) (r011 : R 0 11 = f) (r013 : R 0 13 = s) (r014 : R 0 14 = z) (hS : RS R z) (h97 : 97 ≤ z) (h79 : 79 ≤ f) (hfz : f + 8 < z) (hv : VF F) (hN : NW F N) (hX : XC T b L) (hg : CG R T f F N) (hF : MF T' F) (hnm : NM T' F N) (h2 : T'.1 105 2 = nI L) (hb : ∀ k, k < L → b k < 256 ∧ T'.1 106 k &&& 255 = nI (b k)) (hkw : ∀ k, k < 24 → T'.2 111 k = w8 (kwk k)) : (∃ k p V V', gB L 200 k p ∧ pX11_sentence R T 0 = some (-1 - nI p, V, R) ∧ pX12_sentence R T' 105 = some (-1 - nI p, V') ∧ V.1 0 15 = nI k ∧ V'.1 105 15 = nI k ∧ FZs z T V ∧ FSm T' V' ∧ V'.1 107 = T'.1 107) ∨ ∃ c ones V V', pX11_sentence R T 0 = some (nI ones, V, up2 (up2 R 0 13 z) 0 14 s) ∧ pX12_sentence R T' 105 = some (nI ones, V') ∧ V.1 0 15 = 0 ∧ V'.1 105 15 = 0 ∧ SC V z c ones ∧ c.length < 40 ∧ WD c 1 ∧ LSn V' c ∧ FZs z T V ∧ FSm T' V' := by
  obtain ⟨Vb, n, _, _, _, _, _, b6⟩ := c_begin (M := 200) hR hX (by omega)
  have hn0 : kkS b L 200 n = 0 := by
    unfold kkS
    exact if_neg (by have := b6.2.2.2.2.2.1; omega)
  obtain ⟨V, v1, v2, v3⟩ := c_sentRead (b := b) (L := L) hR hS h97 hv hN h79 hfz hX hg
  have hm := m_sentW (R := R) (n := n) hr hv hN hF hnm hX.1 h2 hb hkw hn0 b6.1
  have fz : ∀ x, FZs z T (wI (wI V 0 15 x) 1 1 0) := fun x => ⟨fun a k h1 h3 h4 h5 hz h0 => by rw [wI_n (Or.inl h1), wI_n (by omega), v2.1 a h1 h3 h4 h5 hz], fun a ha => v2.2.1 a ha, wI_s⟩
  unfold pX11_sentence
  rw [r00, r011, r014, r013, v1, bd1_some]
  simp only [lt]
  rw [wI_n (Or.inl (by decide)), wI_s]
  rcases v3 with ⟨k, p, z1, z2, z3, z4⟩ | ⟨c, ones, z1, z2, z3, z4, z5⟩
  · left
    rcases hm with ⟨k', p', V', y1, y2, y3, y4, y5⟩ | ⟨c', ones', V', y1, _⟩
    · rw [y1] at z1
      cases z1
      have hk : ¬ nI k = 0 := fun z => by
        have := (nI_eq (b := 0) (by have := z2.2.1; omega) (by omega)).mp z
        have := z2.1
        omega
      rw [z3, if_neg hk]
      rw [wI_n (Or.inr (by decide)), wI_n (Or.inl (by decide)), z4]
      exact ⟨_, _, _, V', z2, rfl, y2, by rw [wI_n (Or.inl (by decide)), wI_s], y4, fz _, y3, y5⟩
    · rw [y1] at z1
      cases z1
  · right
    rcases hm with ⟨k', p', V', y1, _⟩ | ⟨c', ones', V', y1, y2, y3, y4, y5, y6⟩
    · rw [y1] at z1
      cases z1
    · rw [y1] at z1
      cases z1
      rw [z2, if_pos rfl, up2_n (Or.inr (by decide)), up2_s, wI_n (Or.inl (by omega)), wI_n (Or.inl (by omega)), z3.1]
      refine ⟨_, _, _, V', rfl, y2, by rw [wI_n (Or.inl (by decide)), wI_s], y4, ⟨?_, ?_, z3.2.2.of (fun a k h1 h2 _ => ?_)⟩, z4, ruS_wd hv 942 false [] [] 0 1 0 c ones (show WD [] 0 from rfl) y1, ⟨y5, y6⟩, fz _, y3⟩
      · rw [wI_n (Or.inl (by omega)), wI_n (Or.inl (by omega))]; exact z3.1
      · rw [wI_n (Or.inl (by omega)), wI_n (Or.inl (by omega))]; exact z3.2.1
      · rw [wI_n (Or.inl (by omega)), wI_n (Or.inl (by omega))]
