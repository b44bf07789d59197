/-! Parts.around and GoingOverModel.heldWith -/
def wdS (g : Nat → Int32) (A P : Int32) : Int32 := fo (fun k w => if bt P k = false then w else w ||| (g k &&& A)) 0 10 P
theorem bt_wdk (g : Nat → Int32) (A P : Int32) (b : Nat) : ∀ (k i : Nat) (w : Int32), (bt (fo (fun k w => if bt P k = false then w else w ||| (g k &&& A)) i k w) b = true ↔ bt w b = true ∨ ∃ a, i ≤ a ∧ a < i + k ∧ bt P a = true ∧ bt (g a) b = true ∧ bt A b = true)
  | 0, i, w => ⟨fun h => Or.inl h, fun h => by
      rcases h with h | ⟨a, h1, h2, _⟩
      · exact h
      · omega⟩
  | k + 1, i, w => by
    show bt (fo _ (i + 1) k _) b = true ↔ _
    rw [bt_wdk g A P b k (i + 1)]
    dsimp only
    by_cases e : bt P i = false
    · rw [if_pos e]
      constructor
      · rintro (h | ⟨a, h1, h2, h3⟩)
        · exact Or.inl h
        · exact Or.inr ⟨a, by omega, by omega, h3⟩
      · rintro (h | ⟨a, h1, h2, h3⟩)
        · exact Or.inl h
        · by_cases ea : a = i
          · subst ea
            rw [e] at h3
            exact absurd h3.1 (by decide)
          · exact Or.inr ⟨a, by omega, by omega, h3⟩
    · rw [if_neg e, b_or, b_and, Bool.or_eq_true, Bool.and_eq_true]
      have e' : bt P i = true := by simpa using e
      constructor
      · rintro ((h | h) | ⟨a, h1, h2, h3⟩)
        · exact Or.inl h
        · exact Or.inr ⟨i, by omega, by omega, e', h.1, h.2⟩
        · exact Or.inr ⟨a, by omega, by omega, h3⟩
      · rintro (h | ⟨a, h1, h2, h3, h4, h5⟩)
        · exact Or.inl (Or.inl h)
        · by_cases ea : a = i
          · subst ea
            exact Or.inl (Or.inr ⟨h4, h5⟩)
          · exact Or.inr ⟨a, by omega, by omega, h3, h4, h5⟩
theorem bt_wdS {g : Nat → Int32} {A P : Int32} {b : Nat} : bt (wdS g A P) b = true ↔ bt P b = true ∨ ∃ a, a < 10 ∧ bt P a = true ∧ bt (g a) b = true ∧ bt A b = true := by
  unfold wdS
  rw [bt_wdk]
  constructor
  · rintro (h | ⟨a, _, h2, h3⟩)
    · exact Or.inl h
    · exact Or.inr ⟨a, by omega, h3⟩
  · rintro (h | ⟨a, h2, h3⟩)
    · exact Or.inl h
    · exact Or.inr ⟨a, by omega, by omega, h3⟩
theorem b_ne {x y : Int32} (h : x ≠ y) : ∃ i, i < 32 ∧ bt x i ≠ bt y i := Classical.byContradiction fun q => h (b_ext fun i hi => Classical.byContradiction fun z => q ⟨i, hi, z⟩)
theorem eg_lt {F : Nat → Nat} (hv : VF F) {a b j : Nat} (hj : j < F 2) (h : eg F a b j = true) : a < F 1 ∧ b < F 1 ∧ F (12 + a) = F (12 + b) ∧ a ≠ b := by
  obtain ⟨v0, v1, v2, v3, v4, v5, v6, vs, vo, vj⟩ := hv
  obtain ⟨h1, h2, h3, h4, _⟩ := vj j hj
  unfold eg at h
  simp only [Bool.or_eq_true, Bool.and_eq_true, decide_eq_true_iff] at h
  rcases h with ⟨rfl, rfl⟩ | ⟨rfl, rfl⟩
  · exact ⟨h1, h2, h4, h3⟩
  · exact ⟨h2, h1, h4.symm, fun z => h3 z.symm⟩
theorem c_around {R : Rf} {T : Mm} {F : Nat → Nat} {J : Int32} (hv : VF F) (h0 : R 33 0 = 34) (hn : ∀ k, k < 10 → T.1 34 k = nr F J k) {i : Nat} (hi : i < 10) (A : Int32) : pX6_around R T 33 (nI i) A = some (rc F J A i) := by
  have inner : ∀ (r7 : Int32 → Int32 → Option Int32) (e62 e73 : Int32 → Option Int32) (P x4 : Int32), zl4 (pX6_around_20 R T 33 (nI i) A (pX6_around_56 R T 33 (nI i) A r7 e62 e73)) FU P x4 P 0 = pX6_around_56 R T 33 (nI i) A r7 e62 e73 P x4 (wdS (nr F J) A P) := by
    intro r7 e62 e73 P x4
    refine zl4_fr (f := pX6_around_20 R T 33 (nI i) A (pX6_around_56 R T 33 (nI i) A r7 e62 e73)) (fun _ => P) (fun _ => x4) (fun w => w) (fun k w => if bt P k = false then w else w ||| (nr F J k &&& A)) (fun w => pX6_around_56 R T 33 (nI i) A r7 e62 e73 P x4 w) 0 10 (fun _ _ => True) (by omega) (by omega) (fun _ _ _ _ _ => trivial) ?_ ?_ P trivial
    · intro r k w _ hk _
      unfold pX6_around_20
      simp (disch := omega) only [lt, jn, bd1_some, bd2_some, ix_nI, ix_lit, nI_clamp, lit_clamp, lit_add, add_lit, nI_add, nI_leI, nI_ltI, nI_eq, lit_le, le_lit, lit_lt, lt_lit, lit_eq, eq_lit, if_pos, if_neg, h0, hn, bt_test]
      by_cases e : bt P k = false
      · simp [e]
      · simp [e]
    · intro r w _
      unfold pX6_around_20
      rw [if_pos (by decide)]
  unfold pX6_around
  simp only [lt]
  refine zl2_wp (f := pX6_around_7 R T 33 (nI i) A (pX6_around_62 R T 33 (nI i) A) (pX6_around_73 R T 33 (nI i) A)) (P := fun m P x => ∃ r, x = nI r ∧ r + m = 10 ∧ r + 1 ≤ cnt (bt P) 10 ∧ bt P i = true ∧ ∀ k, k < 32 → bt P k = true → k < 10 ∧ Rch (Ed F J A) i k) (Q := fun z => z = some (rc F J A i)) ?_ FU 10 _ 0 (by rw [FU_eq]; omega) ⟨0, rfl, by omega, ?_, ?_, ?_⟩
  · rintro m r P x ⟨q, rfl, hq, hc, h1, h2⟩ hr
    unfold pX6_around_7
    by_cases hm : q = 10
    · have := cnt_le (bt P) 10
      omega
    · rw [if_neg (show ¬ (10 : Int32) ≤ nI q from nI_ge (b := 10) (by omega) (by omega)), inner]
      unfold pX6_around_56 pX6_around_62
      have sub : ∀ k, bt P k = true → bt (wdS (nr F J) A P) k = true := fun k hk => bt_wdS.mpr (Or.inl hk)
      have inv : ∀ k, k < 32 → bt (wdS (nr F J) A P) k = true → k < 10 ∧ Rch (Ed F J A) i k := by
        intro k hk hb
        rcases bt_wdS.mp hb with h | ⟨a, ha, hp, hg, hA⟩
        · exact h2 k hk h
        · have hk10 : k < 10 := by
            rcases Nat.lt_or_ge k 10 with z | z
            · exact z
            · rw [bt_nr_big z] at hg
              exact absurd hg (by decide)
          exact ⟨hk10, (h2 a (by omega) hp).2.step ⟨(bt_nr hk10).mp hg, hA⟩⟩
      by_cases e : wdS (nr F J) A P = P
      · rw [if_pos e]
        congr 1
        refine rcS_is h2 h1 ?_
        intro a b ha hE
        obtain ⟨hx, hA⟩ := hE
        have ha10 := (h2 a (by
          rcases Nat.lt_or_ge a 32 with z | z
          · exact z
          · rw [b_big z] at ha
            exact absurd ha (by decide)) ha).1
        obtain ⟨j, hj, hJ, he⟩ := hx
        rcases Nat.lt_or_ge b 10 with hb | hb
        · rw [← e]
          exact bt_wdS.mpr (Or.inr ⟨a, ha10, ha, (bt_nr hb).mpr ⟨j, hj, hJ, he⟩, hA⟩)
        · have := (eg_lt hv hj he).2.1
          have := hv.2.1
          omega
      · rw [if_neg e]
        simp only [lt, nI_1]
        refine hr (m - 1) _ _ (by omega) ⟨q + 1, rfl, by omega, ?_, sub i h1, inv⟩
        obtain ⟨k, hk, hne⟩ := b_ne e
        have hk1 : bt (wdS (nr F J) A P) k = true := by
          cases z : bt (wdS (nr F J) A P) k with
          | true => rfl
          | false =>
            cases z2 : bt P k with
            | true => rw [sub k z2] at z; cases z
            | false => rw [z, z2] at hne; exact absurd rfl hne
        have hk0 : bt P k = false := by
          cases z2 : bt P k with
          | true => rw [hk1, z2] at hne; exact absurd rfl hne
          | false => rfl
        have := cnt_lt (c := bt P) (d := bt (wdS (nr F J) A P)) (n := 10) (fun k _ h => sub k h) ⟨k, (inv k hk hk1).1, hk1, hk0⟩
        omega
  · exact cnt_pos hi (by rw [bt_one i (by omega) (by omega)]; simp)
  · rw [bt_one i (by omega) (by omega)]; simp
  · intro k hk hb
    rw [bt_one i (by omega) hk] at hb
    have e : k = i := by simpa using hb
    subst e
    exact ⟨hi, Rch.refl⟩
/-! bits of a set of ten -/
theorem lo10 {x : Int32} (h : ∀ i, i < 32 → bt x i = true → i < 10) : ∃ m, m < 1024 ∧ x = nI m := by
  obtain ⟨m, hm, e⟩ := pk_andE x (m := 1023) 10 (by decide)
  refine ⟨m, hm, ?_⟩
  rw [← e]
  apply b_ext
  intro i hi
  rw [b_and]
  have h1 : ∀ i, i < 32 → bt 1023 i = decide (i < 10) := by decide +kernel
  rw [h1 i hi]
  cases z : bt x i with
  | false => rfl
  | true => simp [h i hi z]
def bitsK (x : Int32) : Option Int32 := zl2 (fun (r : Int32 → Int32 → Option Int32) (x1 x2 : Int32) => if x2 = 0 then some x1 else r (x1 + 1) (x2 &&& (x2 - 1))) FU 0 x
theorem bits_K {R : Rf} {T : Mm} {x : Int32} : pX12_bits R T x = bitsK x := rfl
theorem bitsK_all : ∀ m, m < 1024 → bitsK (nI m) = some (nI (cnt (bt (nI m)) 10)) := by decide +kernel
theorem m_bits {R : Rf} {T : Mm} {x : Int32} (h : ∀ i, i < 32 → bt x i = true → i < 10) : pX12_bits R T x = some (nI (cnt (bt x) 10)) := by
  obtain ⟨m, hm, rfl⟩ := lo10 h
  rw [bits_K, bitsK_all m hm]
theorem bits2_0 : bitsK 0 = some 0 := by decide +kernel
theorem bits2_1 : ∀ a, a < 10 → bitsK ((1 : Int32) <<< (nI a &&& 31)) = some 1 := by decide +kernel
theorem bits2_2 : ∀ a, a < 10 → ∀ b, b < 10 → a ≠ b → bitsK (((1 : Int32) <<< (nI a &&& 31)) ||| (1 <<< (nI b &&& 31))) = some 2 := by decide +kernel
def twS (F : Nat → Nat) (A : Int32) (j : Nat) : Int32 := (((1 : Int32) <<< (nI (F (32 + j)) &&& 31)) ||| (1 <<< (nI (F (48 + j)) &&& 31))) &&& A
theorem m_heldWith {R : Rf} {T : Mm} {F : Nat → Nat} {J A : Int32} (r6 : R 105 6 = 107) (hM : MF T F) (hv : VF F) {i : Nat} (hi : i < 10) (hA : bt A i = true) : pX12_heldWith R T 105 (nI i) A J = some (rc F J A i) := by
  obtain ⟨v0, v1, v2, v3, v4, v5, v6, vs, vo, vj⟩ := id hv
  have hm : ∀ k, k < 80 → T.1 107 k = nI (F k) := hM
  unfold pX12_heldWith
  simp only [lt]
  refine zl2_wp (f := pX12_heldWith_8 R T 105 (nI i) A J (pX12_heldWith_120 R T 105 (nI i) A J)) (P := fun m S x => bt S i = true ∧ (∀ k, k < 32 → bt S k = true → k < 10 ∧ Rch (Ed F J A) i k ∧ bt A k = true) ∧ ((x = 1 ∧ m + cnt (bt S) 10 = 11) ∨ (x = 0 ∧ m = 0 ∧ ∀ a b, bt S a = true → Ed F J A a b → bt S b = true))) (Q := fun z => z = some (rc F J A i)) ?_ FU 10 _ 1 (by rw [FU_eq]; omega) ⟨?_, ?_, Or.inl ⟨rfl, ?_⟩⟩
  · rintro m r S x ⟨h1, h2, h3⟩ hr
    unfold pX12_heldWith_8 pX12_heldWith_120
    rcases h3 with ⟨rfl, hc⟩ | ⟨rfl, _, hcl⟩
    · rw [if_neg (by decide)]
      refine zl3_wp (f := pX12_heldWith_19 R T 105 (nI i) A J (pX12_heldWith_117 R T 105 (nI i) A J r (fun x4 => some x4))) (P := fun m' S' x' j' => ∃ j, j' = nI j ∧ j + m' = F 2 ∧ (∀ k, bt S k = true → bt S' k = true) ∧ (∀ k, k < 32 → bt S' k = true → k < 10 ∧ Rch (Ed F J A) i k ∧ bt A k = true) ∧ ((x' = 0 ∧ S' = S ∧ ∀ q, q < j → bt J q = true → ∀ a b, bt S a = true → eg F a b q = true → bt A b = true → bt S b = true) ∨ (x' = 1 ∧ ∃ b, b < 10 ∧ bt S' b = true ∧ bt S b = false))) (Q := fun z => z = some (rc F J A i)) ?_ FU (F 2) S 0 0 (by rw [FU_eq]; omega) ⟨0, rfl, by omega, fun _ h => h, h2, Or.inl ⟨rfl, rfl, fun q hq => by omega⟩⟩
      rintro m' r' S' x' j' ⟨j, rfl, hj, g1, g2, g3⟩ hr'
      unfold pX12_heldWith_19 pX12_heldWith_117
      by_cases hjn : j < F 2
      · obtain ⟨ha, hb, hne, _⟩ := vj j hjn
        have go0 : (∀ a b, bt S' a = true → bt J j = true → eg F a b j = true → bt A b = true → bt S' b = true) → r' S' x' (nI (j + 1)) = some (rc F J A i) := by
          intro hno
          refine hr' (m' - 1) _ _ _ (by omega) ⟨j + 1, rfl, by omega, g1, g2, ?_⟩
          rcases g3 with ⟨rfl, rfl, q3⟩ | q3
          · refine Or.inl ⟨rfl, rfl, fun q hq hJ a b h4 h5 h6 => ?_⟩
            by_cases e : q = j
            · subst e
              exact hno a b h4 hJ h5 h6
            · exact q3 q (by omega) hJ a b h4 h5 h6
          · exact Or.inr q3
        have btw : ∀ k, k < 32 → bt (twS F A j) k = ((decide (k = F (32 + j)) || decide (k = F (48 + j))) && bt A k) := by
          intro k hk
          unfold twS
          rw [b_and, b_or, bt_one _ (by omega) hk, bt_one _ (by omega) hk]
        simp (disch := omega) only [lt, jn, bd1_some, bd2_some, ix_nI, ix_lit, nI_clamp, lit_clamp, lit_add, add_lit, nI_add, nI_leI, nI_ltI, nI_eq, lit_le, le_lit, lit_lt, lt_lit, lit_eq, eq_lit, if_pos, if_neg, r6, hm, m_bitOfS]
        change (if (if bt J j = false then (0 : Int32) else 1) = 0 then r' S' x' (nI (j + 1)) else bd1 (pX12_bits R T (twS F A j)) (fun u4 => if u4 < 2 then r' S' x' (nI (j + 1)) else if (twS F A j &&& S') = 0 then r' S' x' (nI (j + 1)) else if (twS F A j &&& (S' ^^^ (-1 : Int32))) = 0 then r' S' x' (nI (j + 1)) else r' (S' ||| twS F A j) 1 (nI (j + 1)))) = _
        by_cases eJ : bt J j = false
        · rw [if_pos eJ, if_pos rfl]
          exact go0 (fun a b _ h5 => by rw [eJ] at h5; cases h5)
        · rw [if_neg eJ, if_neg (by decide), bits_K]
          have eJ' : bt J j = true := by simpa using eJ
          have egj : ∀ a b, eg F a b j = true → (a = F (32 + j) ∧ b = F (48 + j)) ∨ (a = F (48 + j) ∧ b = F (32 + j)) := by
            intro a b h
            unfold eg at h
            simp only [Bool.or_eq_true, Bool.and_eq_true, decide_eq_true_iff] at h
            rcases h with ⟨h, h'⟩ | ⟨h, h'⟩
            · exact Or.inl ⟨h.symm, h'.symm⟩
            · exact Or.inr ⟨h'.symm, h.symm⟩
          have lt32 : ∀ {k}, bt S' k = true → k < 32 := fun {k} h => by
            rcases Nat.lt_or_ge k 32 with z | z
            · exact z
            · rw [b_big z] at h
              cases h
          by_cases eA : bt A (F (32 + j)) = true ∧ bt A (F (48 + j)) = true
          · have e2 : twS F A j = ((1 : Int32) <<< (nI (F (32 + j)) &&& 31)) ||| (1 <<< (nI (F (48 + j)) &&& 31)) := by
              apply b_ext
              intro k hk
              rw [btw k hk, b_or, bt_one _ (by omega) hk, bt_one _ (by omega) hk]
              by_cases z1 : k = F (32 + j)
              · simp [z1, eA.1]
              · by_cases z2 : k = F (48 + j)
                · simp [z2, eA.2]
                · simp [z1, z2]
            have eb : bitsK (twS F A j) = some 2 := by rw [e2]; exact bits2_2 _ (by omega) _ (by omega) hne
            rw [eb, bd1_some, if_neg (by decide)]
            by_cases c1 : (twS F A j &&& S') = 0
            · rw [if_pos c1]
              apply go0
              intro a b h4 _ h5 h6
              have := b_zero.mp c1 a (lt32 h4)
              rw [b_and, btw a (lt32 h4), h4] at this
              rcases egj a b h5 with ⟨rfl, rfl⟩ | ⟨rfl, rfl⟩
              · rw [eA.1] at this
                simp at this
              · rw [eA.2] at this
                simp at this
            · rw [if_neg c1]
              by_cases c2 : (twS F A j &&& (S' ^^^ (-1 : Int32))) = 0
              · rw [if_pos c2]
                apply go0
                intro a b h4 _ h5 h6
                rcases egj a b h5 with ⟨rfl, rfl⟩ | ⟨rfl, rfl⟩
                · have := b_zero.mp c2 (F (48 + j)) (by omega)
                  rw [b_and, btw _ (by omega), eA.2, bt_not _ (by omega)] at this
                  simpa using this
                · have := b_zero.mp c2 (F (32 + j)) (by omega)
                  rw [b_and, btw _ (by omega), eA.1, bt_not _ (by omega)] at this
                  simpa using this
              · rw [if_neg c2]
                have hx : ∃ a b, bt S' a = true ∧ eg F a b j = true ∧ bt S' b = false ∧ bt A b = true ∧ b < 10 ∧ ∀ k, k < 32 → bt (twS F A j) k = true → k = a ∨ k = b := by
                  have t1 : bt S' (F (32 + j)) = true ∨ bt S' (F (48 + j)) = true := by
                    refine Classical.byContradiction fun z => c1 (b_zero.mpr fun k hk => ?_)
                    rw [b_and, btw k hk]
                    by_cases z1 : k = F (32 + j)
                    · subst z1
                      have : bt S' (F (32 + j)) = false := by
                        cases y : bt S' (F (32 + j)) with
                        | true => exact absurd (Or.inl y) z
                        | false => rfl
                      simp [this]
                    · by_cases z2 : k = F (48 + j)
                      · subst z2
                        have : bt S' (F (48 + j)) = false := by
                          cases y : bt S' (F (48 + j)) with
                          | true => exact absurd (Or.inr y) z
                          | false => rfl
                        simp [this]
                      · simp [z1, z2]
                  have t2 : bt S' (F (32 + j)) = false ∨ bt S' (F (48 + j)) = false := by
                    refine Classical.byContradiction fun z => c2 (b_zero.mpr fun k hk => ?_)
                    rw [b_and, btw k hk, bt_not _ hk]
                    by_cases z1 : k = F (32 + j)
                    · subst z1
                      have : bt S' (F (32 + j)) = true := by
                        cases y : bt S' (F (32 + j)) with
                        | false => exact absurd (Or.inl y) z
                        | true => rfl
                      simp [this]
                    · by_cases z2 : k = F (48 + j)
                      · subst z2
                        have : bt S' (F (48 + j)) = true := by
                          cases y : bt S' (F (48 + j)) with
                          | false => exact absurd (Or.inr y) z
                          | true => rfl
                        simp [this]
                      · simp [z1, z2]
                  have t3 : ∀ k, k < 32 → bt (twS F A j) k = true → k = F (32 + j) ∨ k = F (48 + j) := by
                    intro k hk h
                    rw [btw k hk] at h
                    simp only [Bool.and_eq_true, Bool.or_eq_true, decide_eq_true_iff] at h
                    exact h.1
                  cases y : bt S' (F (32 + j)) with
                  | true =>
                    have y2 : bt S' (F (48 + j)) = false := by
                      rcases t2 with t2 | t2
                      · rw [y] at t2; cases t2
                      · exact t2
                    exact ⟨_, _, y, by simp [eg], y2, eA.2, by omega, t3⟩
                  | false =>
                    have y2 : bt S' (F (48 + j)) = true := by
                      rcases t1 with t1 | t1
                      · rw [y] at t1; cases t1
                      · exact t1
                    exact ⟨_, _, y2, by simp [eg], y, eA.1, by omega, fun k hk h => (t3 k hk h).symm⟩
                obtain ⟨a, b, h4, h5, h6, h7, h8, h9⟩ := hx
                refine hr' (m' - 1) _ _ _ (by omega) ⟨j + 1, rfl, by omega, fun k h => ?_, ?_, Or.inr ⟨rfl, b, h8, ?_, ?_⟩⟩
                · rw [b_or, g1 k h]; rfl
                · intro k hk h
                  rw [b_or, Bool.or_eq_true] at h
                  rcases h with h | h
                  · exact g2 k hk h
                  · rcases h9 k hk h with rfl | rfl
                    · exact g2 k hk h4
                    · exact ⟨h8, (g2 a (lt32 h4) h4).2.1.step ⟨⟨j, hjn, eJ', h5⟩, h7⟩, h7⟩
                · rw [b_or, Bool.or_eq_true]
                  right
                  rw [btw b (by omega), h7]
                  rcases egj a b h5 with ⟨_, rfl⟩ | ⟨_, rfl⟩ <;> simp
                · cases y : bt S b with
                  | false => rfl
                  | true => rw [g1 b y] at h6; cases h6
          · have eb : ∃ v, bitsK (twS F A j) = some v ∧ v < 2 := by
              by_cases z1 : bt A (F (32 + j)) = true
              · have z2 : bt A (F (48 + j)) = false := by
                  cases y : bt A (F (48 + j)) with
                  | true => exact absurd ⟨z1, y⟩ eA
                  | false => rfl
                refine ⟨1, ?_, by decide⟩
                rw [← bits2_1 (F (32 + j)) (by omega)]
                congr 1
                apply b_ext
                intro k hk
                rw [btw k hk, bt_one _ (by omega) hk]
                by_cases y1 : k = F (32 + j)
                · subst y1; simp [z1]
                · by_cases y2 : k = F (48 + j)
                  · subst y2; simp [z2, y1]
                  · simp [y1, y2]
              · have z1' : bt A (F (32 + j)) = false := by simpa using z1
                by_cases z2 : bt A (F (48 + j)) = true
                · refine ⟨1, ?_, by decide⟩
                  rw [← bits2_1 (F (48 + j)) (by omega)]
                  congr 1
                  apply b_ext
                  intro k hk
                  rw [btw k hk, bt_one _ (by omega) hk]
                  by_cases y1 : k = F (32 + j)
                  · subst y1; simp [z1', hne]
                  · by_cases y2 : k = F (48 + j)
                    · subst y2; simp [z2]
                    · simp [y1, y2]
                · have z2' : bt A (F (48 + j)) = false := by simpa using z2
                  refine ⟨0, ?_, by decide⟩
                  rw [← bits2_0]
                  congr 1
                  apply b_zero.mpr
                  intro k hk
                  rw [btw k hk]
                  by_cases y1 : k = F (32 + j)
                  · subst y1; simp [z1']
                  · by_cases y2 : k = F (48 + j)
                    · subst y2; simp [z2']
                    · simp [y1, y2]
            obtain ⟨v, eb, hv2⟩ := eb
            rw [eb, bd1_some, if_pos hv2]
            apply go0
            intro a b h4 _ h5 h6
            have hA4 := (g2 a (lt32 h4) h4).2.2
            rcases egj a b h5 with ⟨rfl, rfl⟩ | ⟨rfl, rfl⟩
            · exact absurd ⟨hA4, h6⟩ eA
            · exact absurd ⟨h6, hA4⟩ eA
      · have e : j = F 2 := by omega
        subst e
        simp (disch := omega) only [lt, jn, bd1_some, bd2_some, ix_nI, ix_lit, nI_clamp, lit_clamp, lit_add, add_lit, nI_add, nI_leI, nI_ltI, nI_eq, lit_le, le_lit, lit_lt, lt_lit, lit_eq, eq_lit, if_pos, if_neg, r6, hm]
        rcases g3 with ⟨rfl, rfl, q3⟩ | ⟨rfl, b, hb, q3, q4⟩
        · refine hr 0 _ _ (by have := cnt_le (bt S') 10; omega) ⟨h1, h2, Or.inr ⟨rfl, rfl, ?_⟩⟩
          rintro a b h4 ⟨⟨q, hq, hJ, he⟩, hb⟩
          exact q3 q hq hJ a b h4 he hb
        · have := cnt_lt (c := bt S) (d := bt S') (n := 10) (fun k _ h => g1 k h) ⟨b, hb, q3, q4⟩
          have h10 := cnt_le (bt S') 10
          exact hr (11 - cnt (bt S') 10) _ _ (by omega) ⟨g1 i h1, g2, Or.inl ⟨rfl, by omega⟩⟩
    · rw [if_pos rfl]
      congr 1
      exact rcS_is (fun k hk h => ⟨(h2 k hk h).1, (h2 k hk h).2.1⟩) h1 hcl
  · rw [bt_one i (by omega) (by omega)]; simp
  · intro k hk hb
    rw [bt_one i (by omega) hk] at hb
    have e : k = i := by simpa using hb
    subst e
    exact ⟨hi, Rch.refl, hA⟩
  · have h1 : ∀ i, i < 10 → cnt (bt ((1 : Int32) <<< (nI i &&& 31))) 10 = 1 := by decide +kernel
    rw [h1 i hi]
