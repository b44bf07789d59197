/-! TAGS, whole -/
def S3 (a : Nat) : Prop := a = 34 ∨ a = 43 ∨ a = 44
theorem c_putS {R : Rf} {T : Mm} {l s : List Nat} {z : Nat} (r43 : R 43 0 = 44) (h : TXc T l) (hl : l.length + s.length ≤ 16) (hz : lnS z = s.length) (hc : ∀ k, k < s.length → chS z k = nI (s.getD k 0)) : ∃ T', pX9_put R T 43 z = some T' ∧ TXc T' (l ++ s) ∧ Fr S43 T T' := by
  unfold pX9_put
  refine zl2_wp (f := pX9_put_2 R 43 z (pX9_put_25 R 43 z)) (P := fun m U x => ∃ k, x = nI k ∧ k + m = s.length ∧ Fr S43 T U ∧ TXc U (l ++ s.take k)) (Q := fun z => ∃ T', z = some T' ∧ TXc T' (l ++ s) ∧ Fr S43 T T') ?_ FU s.length T 0 (by rw [FU_eq]; omega) ⟨0, rfl, by omega, Fr.refl, by simpa using h⟩
  rintro m r U x ⟨k, rfl, hk, hU, hv⟩ hr
  unfold pX9_put_2 pX9_put_25
  rw [hz]
  by_cases e : k < s.length
  · have hlen : (l ++ s.take k).length = l.length + k := by
      rw [List.length_append, List.length_take]
      omega
    obtain ⟨V, hV1, hV2, hV3⟩ := c_put1c r43 hv (by omega) (s.getD k 0)
    rw [if_neg (nI_ge e (by omega)), ix_nI e (by omega), nI_clamp (by omega), hc k e, hV1, bd1_some]
    simp only [lt, nI_1]
    refine hr (m - 1) _ _ (by omega) ⟨k + 1, rfl, by omega, hU.trans hV3, ?_⟩
    have : l ++ s.take (k + 1) = l ++ s.take k ++ [s.getD k 0] := by
      rw [List.append_assoc]
      congr 1
      rw [List.take_add_one, List.getD_eq_getElem?_getD]
      rw [List.getElem?_eq_getElem e]
      rfl
    rw [this]
    exact hV2
  · have ek : k = s.length := by omega
    subst ek
    rw [if_pos (nI_le (Nat.le_refl _) (by omega))]
    rw [List.take_length] at hv
    exact ⟨U, rfl, hv, hU⟩
def st1 : List Nat := [32, 114, 101, 97, 100, 121]
def st2 : List Nat := [32, 104, 97, 110, 103, 115]
def st3 : List Nat := [32, 105, 110, 32]
def st4 : List Nat := [32, 111, 117, 116, 32]
theorem st_ok : (lnS 1 = st1.length ∧ ∀ k, k < st1.length → chS 1 k = nI (st1.getD k 0)) ∧ (lnS 2 = st2.length ∧ ∀ k, k < st2.length → chS 2 k = nI (st2.getD k 0)) ∧ (lnS 3 = st3.length ∧ ∀ k, k < st3.length → chS 3 k = nI (st3.getD k 0)) ∧ (lnS 4 = st4.length ∧ ∀ k, k < st4.length → chS 4 k = nI (st4.getD k 0)) := by decide +kernel
def dgS (n : Nat) : List Nat := if n < 10 then [48 + n % 10] else [48 + n / 10, 48 + n % 10]
def tgS (w : List Nat) (how : Int32) (n : Nat) : List Nat := if how = 0 then w ++ st1 else if how = 1 then w ++ st2 else if how = 2 then w ++ st3 ++ dgS n else w ++ st4 ++ dgS n
theorem c_digits {R : Rf} {T : Mm} {l : List Nat} (r43 : R 43 0 = 44) (h : TXc T l) (hl : l.length ≤ 14) {n : Nat} (hn : n ≤ 10) (j : Int64) (x3 : Int32) : ∃ T', (if nI n < 10 then pX9_write_106 R 43 j x3 (nI n) T else bd1 (pX9_put_ R T 43 (48 + (nI n / 10))) (fun (T8 : Mm) => pX9_write_106 R 43 j x3 (nI n) T8)) = some T' ∧ TXc T' (l ++ dgS n) ∧ Fr S43 T T' := by
  have hr : nI n - nI n / 10 * 10 = nI (n % 10) := pk_rem (d := 10) (by omega) (by decide) (by decide)
  have hdv : nI n / 10 = nI (n / 10) := pk_div (d := 10) (by omega) (by decide) (by decide)
  unfold pX9_write_106 dgS
  rw [hr, hdv, show (48 : Int32) + nI (n % 10) = nI (48 + n % 10) from nI_add 48 _, show (48 : Int32) + nI (n / 10) = nI (48 + n / 10) from nI_add 48 _]
  by_cases e : n < 10
  · obtain ⟨V, hV1, hV2, hV3⟩ := c_put1c r43 h (by omega) (48 + n % 10)
    rw [if_pos (show nI n < 10 from nI_lt (b := 10) e (by decide)), if_pos e, hV1, bd1_some]
    exact ⟨V, rfl, hV2, hV3⟩
  · obtain ⟨V, hV1, hV2, hV3⟩ := c_put1c r43 h (by omega) (48 + n / 10)
    obtain ⟨W, hW1, hW2, hW3⟩ := c_put1c r43 hV2 (by rw [List.length_append]; simp only [List.length_cons, List.length_nil]; omega) (48 + n % 10)
    rw [if_neg (show ¬ nI n < 10 from nI_nlt (b := 10) (by omega) (by omega)), if_neg e, hV1, bd1_some, hW1, bd1_some]
    refine ⟨W, rfl, ?_, hV3.trans hW3⟩
    rw [List.append_assoc] at hW2
    exact hW2
theorem c_write {R : Rf} {T : Mm} (r43 : R 43 0 = 44) {w : List Nat} (hw : IW w) {how : Int32} (hh : how = 0 ∨ how = 1 ∨ how = 2 ∨ how = 3) {n : Nat} (hn : n ≤ 10) : ∃ T', pX9_write R T 43 (w5 w) how (nI n) = some T' ∧ TXc T' (tgS w how n) ∧ Fr S43 T T' := by
  have hlt := hw.lt5
  have hsp := sp_en (B := 32) (o := 96) (by decide) w.length w rfl hw.c5 7 hw.2.1
  have h7 := hw.2.1
  unfold pX9_write
  simp only [lt]
  refine c_spell r43 (j := w5 w) (N := enB 32 96 w) rfl (by omega) how (nI n) (pX9_write_47 R 43 (w5 w) how (nI n)) (fun z => ∃ T', z = some T' ∧ TXc T' (tgS w how n) ∧ Fr S43 T T') (wI T 43 1 0) [] (by decide) ?_ _ Fr.refl ⟨wI_s, fun k hk => by cases hk⟩
  intro U hU hU2
  have hTU : Fr S43 T U := (Fr.refl.sw (Or.inl rfl)).trans hU
  rw [List.nil_append, hsp] at hU2
  unfold pX9_write_47 pX9_write_79 tgS
  rcases hh with rfl | rfl | rfl | rfl
  · obtain ⟨V, hV1, hV2, hV3⟩ := c_putS (s := st1) (z := 1) r43 hU2 (by show _ + 6 ≤ 16; omega) st_ok.1.1 st_ok.1.2
    rw [if_pos rfl, if_pos rfl, hV1, bd1_some, if_pos (by decide)]
    exact ⟨V, rfl, hV2, hTU.trans hV3⟩
  · obtain ⟨V, hV1, hV2, hV3⟩ := c_putS (s := st2) (z := 2) r43 hU2 (by show _ + 6 ≤ 16; omega) st_ok.2.1.1 st_ok.2.1.2
    rw [if_neg (show ¬ (1 : Int32) = 0 by decide), if_neg (show ¬ (1 : Int32) = 0 by decide), if_pos rfl, if_pos rfl, hV1, bd1_some, if_pos (by decide)]
    exact ⟨V, rfl, hV2, hTU.trans hV3⟩
  · obtain ⟨V, hV1, hV2, hV3⟩ := c_putS (s := st3) (z := 3) r43 hU2 (by show _ + 4 ≤ 16; omega) st_ok.2.2.1.1 st_ok.2.2.1.2
    obtain ⟨W, hW1, hW2, hW3⟩ := c_digits r43 hV2 (by rw [List.length_append]; show _ + 4 ≤ 14; omega) hn (w5 w) 2
    rw [if_neg (show ¬ (2 : Int32) = 0 by decide), if_neg (show ¬ (2 : Int32) = 0 by decide), if_neg (show ¬ (2 : Int32) = 1 by decide), if_neg (show ¬ (2 : Int32) = 1 by decide), if_pos rfl, if_pos rfl, hV1, bd1_some, if_neg (show ¬ (2 : Int32) < 2 by decide), hW1]
    exact ⟨W, rfl, hW2, (hTU.trans hV3).trans hW3⟩
  · obtain ⟨V, hV1, hV2, hV3⟩ := c_putS (s := st4) (z := 4) r43 hU2 (by show _ + 5 ≤ 16; omega) st_ok.2.2.2.1 st_ok.2.2.2.2
    obtain ⟨W, hW1, hW2, hW3⟩ := c_digits r43 hV2 (by rw [List.length_append]; show _ + 5 ≤ 14; omega) hn (w5 w) 3
    rw [if_neg (show ¬ (3 : Int32) = 0 by decide), if_neg (show ¬ (3 : Int32) = 0 by decide), if_neg (show ¬ (3 : Int32) = 1 by decide), if_neg (show ¬ (3 : Int32) = 1 by decide), if_neg (show ¬ (3 : Int32) = 2 by decide), if_neg (show ¬ (3 : Int32) = 2 by decide), hV1, bd1_some, if_neg (show ¬ (3 : Int32) < 2 by decide), hW1]
    exact ⟨W, rfl, hW2, (hTU.trans hV3).trans hW3⟩
theorem m_says1 {R : Rf} {T : Mm} (r34 : R 105 34 = 117) {l s : List Nat} (h : TXm T l) (hl : l.length ≤ 14) {N : Nat} (hN : N < 2 ^ 62) (hch : ∀ k, N / 256 ^ k % 256 < 128) (hs : spB 256 0 N 8 = s) {j : Int64} (hj : j = lN N) : ∃ T', pX12_says R T 105 j = some T' ∧ TXm T' (l ++ [32] ++ s) ∧ FT T T' := by
  obtain ⟨V, hV1, hV2, hV3⟩ := m_lays1 r34 h (by omega) (c := 32) (by decide)
  obtain ⟨W, hW1, hW2, hW3⟩ := m_spell r34 hj hN hch V (l ++ [32]) (by rw [List.length_append]; simp only [List.length_cons, List.length_nil]; omega) hV2
  unfold pX12_says
  rw [show (32 : Int32) = nI 32 from rfl, hV1, bd1_some, hW1, bd1_some]
  rw [hs] at hW2
  exact ⟨W, rfl, hW2, hV3.trans hW3⟩
theorem dig_big {N B k : Nat} (m : Nat) (h : N < B ^ m) (hk : m ≤ k) (hB : 0 < B) : N / B ^ k % B = 0 := by
  have : N < B ^ k := Nat.lt_of_lt_of_le h (Nat.pow_le_pow_right hB hk)
  rw [Nat.div_eq_of_lt this, Nat.zero_mod]
theorem chk {N : Nat} (h : N < 256 ^ 8) (h8 : ∀ k, k < 8 → N / 256 ^ k % 256 < 128) : ∀ k, N / 256 ^ k % 256 < 128 := fun k => by
  by_cases e : k < 8
  · exact h8 k e
  · rw [dig_big 8 h (by omega) (by decide)]; decide
theorem sp_mem {B o N : Nat} : ∀ k i, i < k → N / B ^ i % B ≠ 0 → o + N / B ^ i % B ∈ spB B o N k
  | 0, _, h, _ => by omega
  | k + 1, i, h, hn => by
    unfold spB
    rw [List.mem_append]
    by_cases e : i = k
    · subst e
      left
      rw [if_neg hn]
      exact List.mem_singleton.mpr rfl
    · exact Or.inr (sp_mem k i (by omega) hn)
theorem IW.ch {w : List Nat} (hw : IW w) : ∀ k, enB 256 0 w / 256 ^ k % 256 < 128 := by
  have hlt := hw.lt8
  have hsp := sp_en (B := 256) (o := 0) (by decide) w.length w rfl hw.c8 8 (by have := hw.2.1; omega)
  refine chk (by omega) (fun k hk => ?_)
  by_cases e : enB 256 0 w / 256 ^ k % 256 = 0
  · omega
  · have := sp_mem (o := 0) 8 k hk e
    rw [hsp] at this
    have := hw.2.2 _ this
    omega
theorem m_digits {R : Rf} {T : Mm} {l : List Nat} (r34 : R 105 34 = 117) (h : TXm T l) (hl : l.length ≤ 20) {n : Nat} (hn : n ≤ 10) (x : Int32) : ∃ T', (if nI n ≤ 9 then pX12_tag_118 R 105 x T (nI n) else bd1 (pX12_lays R T 105 (48 + (nI n / 10))) (fun (T10 : Mm) => pX12_tag_118 R 105 x T10 (nI n))) = some (nI (l ++ dgS n).length, T') ∧ TXm T' (l ++ dgS n) ∧ FT T T' := by
  have hr : nI n - nI n / 10 * 10 = nI (n % 10) := pk_rem (d := 10) (by omega) (by decide) (by decide)
  have hdv : nI n / 10 = nI (n / 10) := pk_div (d := 10) (by omega) (by decide) (by decide)
  unfold pX12_tag_118 dgS
  rw [hr, hdv, show (48 : Int32) + nI (n % 10) = nI (48 + n % 10) from nI_add 48 _, show (48 : Int32) + nI (n / 10) = nI (48 + n / 10) from nI_add 48 _]
  by_cases e : n < 10
  · obtain ⟨V, hV1, hV2, hV3⟩ := m_lays1 r34 h (by omega) (c := 48 + n % 10) (by omega)
    rw [if_pos (show nI n ≤ 9 from nI_le (b := 9) (by omega) (by decide)), if_pos e, hV1, bd1_some]
    exact ⟨V, by rw [hV2.1], hV2, hV3⟩
  · obtain ⟨V, hV1, hV2, hV3⟩ := m_lays1 r34 h (by omega) (c := 48 + n / 10) (by omega)
    obtain ⟨W, hW1, hW2, hW3⟩ := m_lays1 r34 hV2 (by rw [List.length_append]; simp only [List.length_cons, List.length_nil]; omega) (c := 48 + n % 10) (by omega)
    rw [if_neg (show ¬ nI n ≤ 9 from fun z => by have := (nI_leI (b := 9) (by omega) (by decide)).mp z; omega), if_neg e, hV1, bd1_some, hW1, bd1_some]
    rw [List.append_assoc] at hW2
    exact ⟨W, by rw [hW2.1]; rfl, hW2, hV3.trans hW3⟩
