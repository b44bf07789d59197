/-! TAGS -/
def TXc (T : Mm) (l : List Nat) : Prop := T.1 43 1 = nI l.length ∧ ∀ k, k < l.length → T.1 44 k = nI (l.getD k 0)
def TXm (T : Mm) (l : List Nat) : Prop := T.1 105 35 = nI l.length ∧ ∀ k, k < l.length → T.1 117 k = nI (l.getD k 0)
def S43 (a : Nat) : Prop := a = 43 ∨ a = 44
theorem getD_snoc {l : List Nat} {c k : Nat} (h : k < l.length + 1) : (l ++ [c]).getD k 0 = if k = l.length then c else l.getD k 0 := by
  by_cases e : k = l.length
  · rw [if_pos e, e]
    simp [List.getD_eq_getElem?_getD]
  · rw [if_neg e]
    simp only [List.getD_eq_getElem?_getD]
    rw [List.getElem?_append_left (by omega)]
theorem c_put1c {R : Rf} {T : Mm} {l : List Nat} (r43 : R 43 0 = 44) (h : TXc T l) (hl : l.length < 16) (c : Nat) : ∃ T', pX9_put_ R T 43 (nI c) = some T' ∧ TXc T' (l ++ [c]) ∧ Fr S43 T T' := by
  obtain ⟨h1, h2⟩ := h
  unfold pX9_put_
  rw [h1, if_neg (show ¬ (16 : Int32) ≤ nI l.length from nI_ge (b := 16) hl (by decide)), ix_nI hl (by decide), nI_clamp (by omega), r43]
  simp only [lt]
  refine ⟨_, rfl, ⟨?_, ?_⟩, (Fr.refl.sw (Or.inr rfl)).sw (Or.inl rfl)⟩
  · rw [wI_s, wI_n (Or.inl (by decide)), h1, nI_1, List.length_append]
    rfl
  · intro k hk
    rw [List.length_append] at hk
    have hk' : k < l.length + 1 := hk
    rw [wI_n (Or.inl (by decide)), getD_snoc hk']
    by_cases e : k = l.length
    · rw [if_pos e, e, wI_s]
    · rw [if_neg e, wI_n (Or.inr e), h2 k (by omega)]
/-- the part of a memory that the reference's tags touch -/
def FT (T T' : Mm) : Prop := (∀ a, a ≠ 105 → a ≠ 117 → T'.1 a = T.1 a) ∧ (∀ k, k ≠ 35 → T'.1 105 k = T.1 105 k) ∧ T'.2 = T.2
theorem FT.refl {T : Mm} : FT T T := ⟨fun _ _ _ => rfl, fun _ _ => rfl, rfl⟩
theorem FT.trans {T U V : Mm} (h : FT T U) (h' : FT U V) : FT T V := ⟨fun a h1 h2 => (h'.1 a h1 h2).trans (h.1 a h1 h2), fun k hk => (h'.2.1 k hk).trans (h.2.1 k hk), h'.2.2.trans h.2.2⟩
theorem byte_id {c : Nat} (hc : c < 128) : ((nI c).toInt8.toInt32).toInt8.toInt32 = nI c := by
  have h : ∀ c, c < 128 → ((nI c).toInt8.toInt32).toInt8.toInt32 = nI c := by decide +kernel
  exact h c hc
theorem m_lays1 {R : Rf} {T : Mm} {l : List Nat} (r34 : R 105 34 = 117) (h : TXm T l) (hl : l.length < 24) {c : Nat} (hc : c < 128) : ∃ T', pX12_lays R T 105 (nI c) = some T' ∧ TXm T' (l ++ [c]) ∧ FT T T' := by
  obtain ⟨h1, h2⟩ := h
  unfold pX12_lays
  rw [h1, ix_nI hl (by decide), nI_clamp (by omega), r34, byte_id hc]
  simp only [lt]
  refine ⟨_, rfl, ⟨?_, ?_⟩, ?_, ?_, rfl⟩
  · rw [wI_s, wI_n (Or.inl (by decide)), h1, nI_1, List.length_append]
    rfl
  · intro k hk
    rw [List.length_append] at hk
    have hk' : k < l.length + 1 := hk
    rw [wI_n (Or.inl (by decide)), getD_snoc hk']
    by_cases e : k = l.length
    · rw [if_pos e, e, wI_s]
    · rw [if_neg e, wI_n (Or.inr e), h2 k (by omega)]
  · intro a ha hb
    rw [wI_1, up2_row ha, wI_1, up2_row hb]
  · intro k hk
    rw [wI_n (Or.inr hk), wI_n (Or.inl (by decide))]
theorem sh_digit {N s B m : Nat} (hN : N < 2 ^ 62) (hs : s < 64) (hB : 2 ^ m = B) (hm : m < 32) : (lN N >>> ((nI s).toInt64 &&& 63)) &&& lN (B - 1) = lN (N / 2 ^ s % B) := by
  have h1 : lN N >>> ((nI s).toInt64 &&& 63) = lN (N / 2 ^ s) := by
    refine pf_shr ?_ hN
    rw [wb_c s hs]
    have h : ∀ s, s < 64 → ((lN s).toBitVec.smod 64).toNat = s := by decide +kernel
    exact h s hs
  have hd : N / 2 ^ s ≤ N := Nat.div_le_self _ _
  rw [h1]
  exact g_mask hB (by omega) (by omega)
theorem c_spell {R : Rf} {j : Int64} {N : Nat} (r43 : R 43 0 = 44) (hj : j = lN N) (hN : N < 2 ^ 62) (x3 x4 : Int32) (ex : Mm → Option Mm) (Q : Option Mm → Prop) (T0 : Mm) (w : List Nat) (hw : w.length ≤ 9) (hex : ∀ T, Fr S43 T0 T → TXc T (w ++ spB 32 96 N 7) → Q (ex T)) : ∀ T, Fr S43 T0 T → TXc T w → Q (zl2 (pX9_write_9 R 43 j x3 x4 ex) FU T 30) := by
  have hlen : ∀ k, (spB 32 96 N k).length ≤ k := by
    intro k
    induction k with
    | zero => exact Nat.le_refl _
    | succ k ih =>
      unfold spB
      rw [List.length_append]
      by_cases e : N / 32 ^ k % 32 = 0
      · rw [if_pos e]; simp; omega
      · rw [if_neg e]; simp; omega
  intro T hT hw0
  refine zl2_wp (f := pX9_write_9 R 43 j x3 x4 ex) (P := fun m U x => ∃ v, Fr S43 T0 U ∧ TXc U v ∧ v ++ spB 32 96 N m = w ++ spB 32 96 N 7 ∧ m ≤ 7 ∧ v.length + m ≤ 16 ∧ ((m = 0 ∧ x = -5) ∨ (0 < m ∧ x = nI (5 * (m - 1))))) (Q := Q) ?_ FU 7 T 30 (by rw [FU_eq]; omega) ⟨w, hT, hw0, rfl, by omega, by omega, Or.inr ⟨by omega, rfl⟩⟩
  rintro m r U x ⟨v, hU, hv, hvw, hm, hvl, hx⟩ hr
  unfold pX9_write_9
  rcases hx with ⟨rfl, rfl⟩ | ⟨hm0, rfl⟩
  · rw [if_pos (by decide)]
    have : v = w ++ spB 32 96 N 7 := by
      rw [← hvw]
      unfold spB
      simp
    rw [this] at hv
    exact hex U hU hv
  · obtain ⟨k, rfl⟩ : ∃ k, m = k + 1 := ⟨m - 1, by omega⟩
    have hd := sh_digit (N := N) (s := 5 * k) (B := 32) (m := 5) hN (by omega) (by decide) (by decide)
    have hp : 2 ^ (5 * k) = 32 ^ k := by rw [Nat.pow_mul]
    rw [hp] at hd
    have hlt : N / 32 ^ k % 32 < 32 := Nat.mod_lt _ (by decide)
    have hd2 : ((j >>> ((nI (5 * (k + 1 - 1))).toInt64 &&& 63)) &&& 31).toInt32 = nI (N / 32 ^ k % 32) := by
      rw [hj, show k + 1 - 1 = k by omega]
      rw [show (31 : Int64) = lN (32 - 1) from rfl, hd, lN_i]
    have hstep : nI (5 * (k + 1 - 1)) + (-5) = if k = 0 then -5 else nI (5 * (k - 1)) := by
      have h : ∀ k, k < 7 → nI (5 * (k + 1 - 1)) + (-5) = if k = 0 then -5 else nI (5 * (k - 1)) := by decide +kernel
      exact h k (by omega)
    have hx' : (k = 0 ∧ nI (5 * (k + 1 - 1)) + (-5) = -5) ∨ (0 < k ∧ nI (5 * (k + 1 - 1)) + (-5) = nI (5 * (k - 1))) := by
      rw [hstep]
      by_cases e : k = 0
      · rw [if_pos e]; exact Or.inl ⟨e, rfl⟩
      · rw [if_neg e]; exact Or.inr ⟨by omega, rfl⟩
    rw [if_neg (nI_pos (by omega))]
    simp only [lt]
    rw [hd2]
    by_cases e : N / 32 ^ k % 32 = 0
    · rw [e, if_pos (show nI 0 = 0 from rfl)]
      refine hr k _ _ (by omega) ⟨v, hU, hv, ?_, by omega, by omega, hx'⟩
      rw [← hvw]
      show _ = v ++ ((if N / 32 ^ k % 32 = 0 then [] else [96 + N / 32 ^ k % 32]) ++ spB 32 96 N k)
      rw [if_pos e]
      rfl
    · rw [if_neg (nI_ne0 (by omega) (by omega))]
      have hc : (97 : Int32) + nI (N / 32 ^ k % 32) - 1 = nI (96 + N / 32 ^ k % 32) := by
        rw [show (97 : Int32) = nI 97 from rfl, nI_add, show (1 : Int32) = nI 1 from rfl, pk_sub (by omega)]
        congr 1
        omega
      obtain ⟨V, hV1, hV2, hV3⟩ := c_put1c r43 hv (by omega) (96 + N / 32 ^ k % 32)
      rw [hc, hV1, bd1_some]
      refine hr k _ _ (by omega) ⟨_, hU.trans hV3, hV2, ?_, by omega, ?_, hx'⟩
      · rw [← hvw]
        show _ = v ++ ((if N / 32 ^ k % 32 = 0 then [] else [96 + N / 32 ^ k % 32]) ++ spB 32 96 N k)
        rw [if_neg e, List.append_assoc]
      · rw [List.length_append]
        simp only [List.length_cons, List.length_nil]
        omega
theorem m_spell {R : Rf} {j : Int64} {N : Nat} (r34 : R 105 34 = 117) (hj : j = lN N) (hN : N < 2 ^ 62) (hch : ∀ k, N / 256 ^ k % 256 < 128) (T : Mm) (w : List Nat) (hw : w.length ≤ 16) (h : TXm T w) : ∃ T', pX12_spells R T 105 j = some T' ∧ TXm T' (w ++ spB 256 0 N 8) ∧ FT T T' := by
  unfold pX12_spells
  refine zl2_wp (f := pX12_spells_3 R 105 j (pX12_spells_37 R 105 j)) (P := fun m U x => ∃ v, FT T U ∧ TXm U v ∧ v ++ spB 256 0 N m = w ++ spB 256 0 N 8 ∧ m ≤ 8 ∧ v.length + m ≤ 24 ∧ ((m = 0 ∧ x = -8) ∨ (0 < m ∧ x = nI (8 * (m - 1))))) (Q := fun z => ∃ T', z = some T' ∧ TXm T' (w ++ spB 256 0 N 8) ∧ FT T T') ?_ FU 8 T 56 (by rw [FU_eq]; omega) ⟨w, FT.refl, h, rfl, by omega, by omega, Or.inr ⟨by omega, rfl⟩⟩
  rintro m r U x ⟨v, hU, hv, hvw, hm, hvl, hx⟩ hr
  unfold pX12_spells_3 pX12_spells_37
  rcases hx with ⟨rfl, rfl⟩ | ⟨hm0, rfl⟩
  · rw [if_pos (by decide)]
    have : v = w ++ spB 256 0 N 8 := by
      rw [← hvw]
      unfold spB
      simp
    rw [this] at hv
    exact ⟨U, rfl, hv, hU⟩
  · obtain ⟨k, rfl⟩ : ∃ k, m = k + 1 := ⟨m - 1, by omega⟩
    have hd := sh_digit (N := N) (s := 8 * k) (B := 256) (m := 8) hN (by omega) (by decide) (by decide)
    have hp : 2 ^ (8 * k) = 256 ^ k := by rw [Nat.pow_mul]
    rw [hp] at hd
    have hlt : N / 256 ^ k % 256 < 128 := hch k
    have hd2 : ((j >>> ((nI (8 * (k + 1 - 1))).toInt64 &&& 63)) &&& 255) = lN (N / 256 ^ k % 256) := by
      rw [hj, show k + 1 - 1 = k by omega]
      exact hd
    have hstep : nI (8 * (k + 1 - 1)) + (-8) = if k = 0 then -8 else nI (8 * (k - 1)) := by
      have h : ∀ k, k < 8 → nI (8 * (k + 1 - 1)) + (-8) = if k = 0 then -8 else nI (8 * (k - 1)) := by decide +kernel
      exact h k (by omega)
    have hx' : (k = 0 ∧ nI (8 * (k + 1 - 1)) + (-8) = -8) ∨ (0 < k ∧ nI (8 * (k + 1 - 1)) + (-8) = nI (8 * (k - 1))) := by
      rw [hstep]
      by_cases e : k = 0
      · rw [if_pos e]; exact Or.inl ⟨e, rfl⟩
      · rw [if_neg e]; exact Or.inr ⟨by omega, rfl⟩
    have hcmp : ∀ d, d < 128 → (lg_cmp (lN d) 0 = 0 ↔ d = 0) := by decide +kernel
    rw [if_neg (nI_pos (by omega)), hd2]
    simp only [lt]
    by_cases e : N / 256 ^ k % 256 = 0
    · rw [if_pos ((hcmp _ hlt).mpr e)]
      refine hr k _ _ (by omega) ⟨v, hU, hv, ?_, by omega, by omega, hx'⟩
      rw [← hvw]
      show _ = v ++ ((if N / 256 ^ k % 256 = 0 then [] else [0 + N / 256 ^ k % 256]) ++ spB 256 0 N k)
      rw [if_pos e]
      rfl
    · rw [if_neg (fun z => e ((hcmp _ hlt).mp z)), lN_i]
      obtain ⟨V, hV1, hV2, hV3⟩ := m_lays1 r34 hv (by omega) hlt
      rw [hV1, bd1_some]
      refine hr k _ _ (by omega) ⟨_, hU.trans hV3, hV2, ?_, by omega, ?_, hx'⟩
      · rw [← hvw]
        show _ = v ++ ((if N / 256 ^ k % 256 = 0 then [] else [0 + N / 256 ^ k % 256]) ++ spB 256 0 N k)
        rw [if_neg e, List.append_assoc, Nat.zero_add]
      · rw [List.length_append]
        simp only [List.length_cons, List.length_nil]
        omega
