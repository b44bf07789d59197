/-! questions: lighten, keep -/
theorem nI_sub1 {m B : Nat} (hm : m < 1024) (hB : B < 1024) (h : (nI m &&& (nI B ^^^ (-1 : Int32))) = 0) : m ≤ B := by
  have h1 : nI m &&& nI B = nI m := by
    apply b_ext
    intro i hi
    have := b_zero.mp h i hi
    rw [b_and, bt_not _ hi] at this
    rw [b_and]
    cases z : bt (nI m) i with
    | false => rfl
    | true =>
      rw [z] at this
      simpa using this
  rw [nI_and _ _ (by omega) (by omega)] at h1
  have h2 : m &&& B = m := by
    have := Nat.and_le_left (n := m) (m := B)
    have e := congrArg (fun x => x.toBitVec.toNat) h1
    rwa [pk_tn (by omega), pk_tn (by omega)] at e
  have := Nat.and_le_right (n := m) (m := B)
  omega
theorem sub_bits {x A : Int32} (h : (x &&& (A ^^^ (-1 : Int32))) = 0) {i : Nat} (hi : bt x i = true) : bt A i = true := by
  have h32 : i < 32 := by
    rcases Nat.lt_or_ge i 32 with z | z
    · exact z
    · rw [b_big z] at hi; cases hi
  have := b_zero.mp h i h32
  rw [b_and, bt_not _ h32, hi] at this
  simpa using this
theorem bits_sub {x A : Int32} (h : ∀ i, bt x i = true → bt A i = true) : (x &&& (A ^^^ (-1 : Int32))) = 0 := by
  apply b_zero.mpr
  intro i hi
  rw [b_and, bt_not _ hi]
  cases z : bt x i with
  | false => rfl
  | true => rw [h i z]; rfl
theorem bt_1024 {m i : Nat} (hm : m < 1024) (h : bt (nI m) i = true) : i < 10 := by
  rw [bt_nI (by omega)] at h
  rcases Nat.lt_or_ge i 10 with z | z
  · exact z
  · rw [Nat.testBit_lt_two_pow (Nat.lt_of_lt_of_le hm (Nat.pow_le_pow_right (n := 2) (show 0 < 2 by decide) z))] at h
    cases h
/-- a barrel's bits as a number -/
theorem brl_nI {F : Nat → Nat} (hv : VF F) (C : Nat → Int32) (p : Nat) : ∃ B, B < 2 ^ (F 1) ∧ brl F C p = nI B := by
  have v1 := hv.2.1
  have h10 : 2 ^ (F 1) ≤ 2 ^ 10 := Nat.pow_le_pow_right (n := 2) (show 0 < 2 by decide) v1
  obtain ⟨B, hB, e⟩ := lo10 (x := brl F C p) (fun i _ h => by have := (brl_own hv h).1; omega)
  refine ⟨B, ?_, e⟩
  apply Nat.lt_pow_two_of_testBit
  intro i hi
  cases z : Nat.testBit B i with
  | false => rfl
  | true =>
    rw [← bt_nI (by omega), ← e] at z
    have := (brl_own hv z).1
    omega
theorem shl_nI {n : Nat} (hn : n ≤ 10) : (1 : Int32) <<< (nI n &&& 31) = nI (2 ^ n) := by
  have h : ∀ n, n < 11 → (1 : Int32) <<< (nI n &&& 31) = nI (2 ^ n) := by decide +kernel
  exact h n (by omega)
theorem flS_nI {F : Nat → Nat} (hv : VF F) (d : Int32) : ∃ φ, φ ≤ 198 ∧ flS F d = nI φ := by
  obtain ⟨v0, v1, v2, v3, v4, v5, v6, vs, vo, vj⟩ := hv
  unfold flS flI
  by_cases e : nI (F 5) ≤ 0
  · rw [if_pos e]; exact ⟨F 4, by omega, rfl⟩
  · rw [if_neg e]
    by_cases e2 : d - d / nI (F 5) * nI (F 5) = 0
    · rw [if_pos e2, nI_add]; exact ⟨_, by omega, rfl⟩
    · rw [if_neg e2]; exact ⟨F 4, by omega, rfl⟩
/-- is the set m, of a barrel A, lighter to take out than b? -/
def ltc (F : Nat → Nat) (A : Int32) (φ m b : Nat) : Bool := decide ((nI m &&& (A ^^^ (-1 : Int32))) = 0) && decide (wtS F A ≤ wtS F (nI m) + φ) && (decide (cnt (bt (nI m)) 10 < cnt (bt (nI b)) 10) || (decide (cnt (bt (nI m)) 10 = cnt (bt (nI b)) 10) && decide (wtS F (nI m) < wtS F (nI b))))
def ltT (F : Nat → Nat) (A : Int32) (φ : Nat) (m b : Nat) : Nat := if ltc F A φ m b = true then m else b
def lsS (F : Nat → Nat) (B φ : Nat) : Nat := fo (ltT F (nI B) φ) 0 B B
theorem ls_ext {F : Nat → Nat} {B φ : Nat} (hB : B < 1024) : ∀ (k i b : Nat), B ≤ i → i + k ≤ 1024 → (cnt (bt (nI b)) 10 < cnt (bt (nI B)) 10 ∨ (cnt (bt (nI b)) 10 = cnt (bt (nI B)) 10 ∧ wtS F (nI b) ≤ wtS F (nI B))) → fo (ltT F (nI B) φ) i k b = b
  | 0, _, _, _, _, _ => rfl
  | k + 1, i, b, hi, hk, hb => by
    show fo (ltT F (nI B) φ) (i + 1) k (ltT F (nI B) φ i b) = b
    have e : ltT F (nI B) φ i b = b := by
      unfold ltT
      rw [if_neg]
      intro h
      unfold ltc at h
      simp only [Bool.and_eq_true, decide_eq_true_iff, Bool.or_eq_true] at h
      have := nI_sub1 (by omega) hB h.1.1
      have ei : i = B := by omega
      subst ei
      omega
    rw [e]
    exact ls_ext hB k (i + 1) b (by omega) (by omega) hb
theorem lt_inv {F : Nat → Nat} {B φ : Nat} : ∀ (k i b : Nat), (cnt (bt (nI b)) 10 < cnt (bt (nI B)) 10 ∨ (cnt (bt (nI b)) 10 = cnt (bt (nI B)) 10 ∧ wtS F (nI b) ≤ wtS F (nI B))) → (cnt (bt (nI (fo (ltT F (nI B) φ) i k b))) 10 < cnt (bt (nI B)) 10 ∨ (cnt (bt (nI (fo (ltT F (nI B) φ) i k b))) 10 = cnt (bt (nI B)) 10 ∧ wtS F (nI (fo (ltT F (nI B) φ) i k b)) ≤ wtS F (nI B)))
  | 0, _, _, h => h
  | k + 1, i, b, h => by
    show _ ∨ _
    refine lt_inv k (i + 1) (ltT F (nI B) φ i b) ?_
    unfold ltT
    by_cases e : ltc F (nI B) φ i b = true
    · rw [if_pos e]
      unfold ltc at e
      simp only [Bool.and_eq_true, decide_eq_true_iff, Bool.or_eq_true] at e
      omega
    · rw [if_neg e]; exact h
theorem fo_add {α : Type} (G : Nat → α → α) : ∀ (k i j : Nat) (a : α), fo G i (k + j) a = fo G (i + k) j (fo G i k a)
  | 0, i, j, a => by rw [Nat.zero_add]; rfl
  | k + 1, i, j, a => by
    rw [show k + 1 + j = (k + j) + 1 by omega]
    show fo G (i + 1) (k + j) (G i a) = fo G (i + (k + 1)) j (fo G (i + 1) k (G i a))
    rw [fo_add G k (i + 1) j, show i + 1 + k = i + (k + 1) by omega]
theorem ls_all {F : Nat → Nat} {B φ N : Nat} (hB : B < N) (hN : N ≤ 1024) : fo (ltT F (nI B) φ) 0 N B = lsS F B φ := by
  have : N = B + (N - B) := by omega
  rw [this, fo_add]
  exact ls_ext (by omega) _ _ _ (by omega) (by omega) (lt_inv _ _ _ (Or.inr ⟨rfl, Nat.le_refl _⟩))
theorem lt_lo {F : Nat → Nat} {A : Int32} {φ : Nat} {i b : Nat} (hi : i < 1024) (hb : b < 1024) : ltT F A φ i b < 1024 := by
  unfold ltT
  by_cases e : ltc F A φ i b = true
  · rw [if_pos e]; exact hi
  · rw [if_neg e]; exact hb
theorem fo_lo {F : Nat → Nat} {A : Int32} {φ : Nat} : ∀ (k i b : Nat), i + k ≤ 1024 → b < 1024 → fo (ltT F A φ) i k b < 1024
  | 0, _, _, _, h => h
  | k + 1, i, b, h, hb => fo_lo k (i + 1) _ (by omega) (lt_lo (by omega) hb)
theorem lsS_lt {F : Nat → Nat} {B φ : Nat} (h : B < 1024) : lsS F B φ < 1024 := fo_lo _ _ _ (by omega) h
theorem sub_le_nI {a b c : Nat} (ha : a ≤ 1000) (hb : b ≤ 1000) (hc : c ≤ 1000) : nI a - nI b ≤ nI c ↔ a ≤ b + c := by
  rw [Int32.le_iff_toInt_le, pk_sub_toInt (by omega) (by omega), nI_toInt (by omega)]
  omega
theorem lt_sub_nI {a b c : Nat} (ha : a ≤ 1000) (hb : b ≤ 1000) (hc : c ≤ 1000) : nI c < nI a - nI b ↔ c + b < a := by
  rw [Int32.lt_iff_toInt_lt, pk_sub_toInt (by omega) (by omega), nI_toInt (by omega)]
  omega
theorem c_fewest {R : Rf} {T : Mm} {f : Nat} {F : Nat → Nat} (hF : CF R T f F) (hv : VF F) {B φ : Nat} (hB : B < 2 ^ (F 1)) (hφ : φ ≤ 198) : pX3_fewestOut R T f (nI B) (nI φ) = some (nI (lsS F B φ)) := by
  have v1 := hv.2.1
  have h10 : 2 ^ (F 1) ≤ 2 ^ 10 := Nat.pow_le_pow_right (n := 2) (show 0 < 2 by decide) v1
  have hw := fun x => wtS_le hv x
  have hbc : ∀ m, m < 1024 → pJ6_bitCount_0f7a4 R T (nI m) = some (nI (cnt (bt (nI m)) 10)) := fun m hm => c_bits (fun i _ h => bt_1024 hm h)
  unfold pX3_fewestOut
  rw [c_weightOfS hF hv, bd1_some, hbc B (by omega)]
  simp only [lt, bd1_some]
  rw [← ls_all (F := F) (φ := φ) hB h10]
  refine zl5_fr (f := pX3_fewestOut_27 R T f (nI B) (nI φ) (pX3_fewestOut_110 R T f (nI B) (nI φ))) (fun _ => nI (wtS F (nI B)) - nI φ) (fun b => nI b) (fun b => nI (cnt (bt (nI b)) 10)) (fun b => nI (wtS F (nI b))) (ltT F (nI B) φ) (fun b => some (nI b)) 0 (2 ^ (F 1)) (fun _ b => b < 1024) (by omega) (by omega) (fun i b _ hi hb => lt_lo (by omega) hb) ?_ ?_ B (by omega)
  · intro r m b _ hm hb
    have c1 := cnt_le (bt (nI m)) 10
    have c2 := cnt_le (bt (nI b)) 10
    have w1 := hw (nI m)
    have w2 := hw (nI b)
    have w3 := hw (nI B)
    unfold pX3_fewestOut_27 pX3_fewestOut_92
    rw [hF.2.2.1, shl_nI v1, if_neg (nI_ge hm (by omega)), hbc m (by omega), bd1_some, c_weightOfS hF hv, bd1_some]
    simp (disch := omega) only [lt, nI_1, nI_leI, nI_ltI, lt_sub_nI]
    unfold ltT ltc
    by_cases e1 : (nI m &&& (nI B ^^^ (-1 : Int32))) = 0
    · rw [if_pos e1]
      by_cases e2 : cnt (bt (nI m)) 10 ≤ cnt (bt (nI b)) 10
      · rw [if_pos e2]
        by_cases e3 : wtS F (nI m) + φ < wtS F (nI B)
        · rw [if_pos e3, if_neg]
          simp only [Bool.and_eq_true, decide_eq_true_iff, Bool.or_eq_true]
          omega
        · rw [if_neg e3]
          by_cases e4 : cnt (bt (nI m)) 10 < cnt (bt (nI b)) 10
          · rw [if_pos e4, if_pos]
            simp only [Bool.and_eq_true, decide_eq_true_iff, Bool.or_eq_true]
            exact ⟨⟨e1, by omega⟩, Or.inl e4⟩
          · rw [if_neg e4]
            by_cases e5 : wtS F (nI b) ≤ wtS F (nI m)
            · rw [if_pos e5, if_neg]
              simp only [Bool.and_eq_true, decide_eq_true_iff, Bool.or_eq_true]
              omega
            · rw [if_neg e5, if_pos]
              simp only [Bool.and_eq_true, decide_eq_true_iff, Bool.or_eq_true]
              exact ⟨⟨e1, by omega⟩, Or.inr ⟨by omega, by omega⟩⟩
      · rw [if_neg e2, if_neg]
        simp only [Bool.and_eq_true, decide_eq_true_iff, Bool.or_eq_true]
        omega
    · rw [if_neg e1, if_neg]
      simp only [Bool.and_eq_true, decide_eq_true_iff, Bool.or_eq_true]
      exact fun q => e1 q.1.1
  · intro r b _
    unfold pX3_fewestOut_27 pX3_fewestOut_110
    rw [hF.2.2.1, shl_nI v1, if_pos (nI_le (Nat.le_refl _) (by omega))]
theorem c_lighten1 {R : Rf} {T : Mm} {f : Nat} {F : Nat → Nat} {C : Nat → Int32} (h : KV R T f F C) {p B φ : Nat} (hp : p < F 0) (hd : C (4 + p) < 2) (hB : B < 2 ^ (F 1)) (eB : brl F C p = nI B) (hφ : φ ≤ 198) (eφ : flS F (C 0) = nI φ) : pX11_lighten R T 0 (nI p) = some (nI (cnt (bt (nI (lsS F B φ))) 10), wI T 0 16 (nI (lsS F B φ))) := by
  have hcs := c_canStill h (nI p)
  rw [if_pos ⟨p, hp, rfl, hd⟩] at hcs
  obtain ⟨k1, k2, k3, k4, k5, k6, k7, k8, k9, k10⟩ := id h
  have v0 := k8.1
  have h10 : 2 ^ (F 1) ≤ 2 ^ 10 := Nat.pow_le_pow_right (n := 2) (show 0 < 2 by decide) k8.2.1
  have hfl : pX3_flowOn R T f (C 0) = some (nI φ) := by
    rw [c_flowOn, ← eφ]
    obtain ⟨⟨q5, q6, q7, q8, q9, q10, q11, q12⟩, f0, f1, f2, f3, f4, f14, f15, cs, co, cw, ca, cb, ch⟩ := k7
    rw [f4, f14, f15]
    rfl
  unfold pX11_lighten
  rw [hcs, bd1_some, if_neg (by decide), k3, k1, k9.1 0 (by decide), hfl, bd1_some, c_itemsOfS k7 k8 (by omega), bd1_some, k9.1 1 (by decide), Int32.and_comm, show ofS F p &&& C 1 = brl F C p from rfl, eB, c_fewest k7 k8 hB hφ, bd1_some]
  simp only [lt]
  rw [wI_s, c_bits (fun i _ h => bt_1024 (lsS_lt (F := F) (φ := φ) (show B < 1024 by omega)) h), bd1_some]
theorem m_lighten1 {R : Rf} {T : Mm} {F : Nat → Nat} {C : Nat → Int32} (h : LV R T F C) {p B φ : Nat} (hp : p < F 0) (hd : C (4 + p) < 2) (hB : B < 2 ^ (F 1)) (eB : brl F C p = nI B) (hφ : φ ≤ 198) (eφ : flS F (C 0) = nI φ) : pX12_lighten R T 105 (nI p) = some (nI (cnt (bt (nI (lsS F B φ))) 10), wI (wI (wI T 105 0 0) 105 26 1) 105 24 (nI (lsS F B φ))) := by
  have l := h.sw (a := 105) (k := 0) (v := 0) (by decide)
  unfold pX12_lighten
  simp only [lt]
  generalize wI T 105 0 0 = U at *
  obtain ⟨l1, l2, l3, l4, l5⟩ := id l
  have v0 := l3.1
  have h10 : 2 ^ (F 1) ≤ 2 ^ 10 := Nat.pow_le_pow_right (n := 2) (show 0 < 2 by decide) l3.2.1
  have hw := fun x => wtS_le l3 x
  have hbc : ∀ U m, m < 1024 → pX12_bits R U (nI m) = some (nI (cnt (bt (nI m)) 10)) := fun U m hm => m_bits (fun i _ h => bt_1024 hm h)
  rw [l.isP1 hp, bd1_some, if_neg (by decide), l.isDown (by omega), bd1_some, if_pos hd, if_pos rfl, l.barrel (by omega), bd1_some, eB]
  refine zl4_fr (f := pX12_lighten_34 R 105 (nI p) (pX12_lighten_116 R 105 (nI p))) (fun _ => U) (fun _ => nI B) (fun b => nI b) (ltT F (nI B) φ) (fun b => some (nI (cnt (bt (nI b)) 10), wI (wI U 105 26 1) 105 24 (nI b))) 0 B (fun _ b => b < 1024) (by omega) (by omega) (fun i b _ hi hb => lt_lo (by omega) hb) ?_ ?_ B (by omega)
  · intro r m b _ hm hb
    have c1 := cnt_le (bt (nI m)) 10
    have c2 := cnt_le (bt (nI b)) 10
    have w1 := hw (nI m)
    have w2 := hw (nI b)
    have w3 := hw (nI B)
    have e0 : wtC F C p = wtS F (nI B) := by rw [wtC_wtS l3, ← eB]; rfl
    have hdiff0 : ∀ a b : Nat, a ≤ 10 → b ≤ 10 → (nI a - nI b < 0 ↔ a < b) := by
      intro a b ha hb
      rw [Int32.lt_iff_toInt_lt, pk_sub_toInt (by omega) (by omega)]
      have : (0 : Int32).toInt = 0 := by decide
      rw [this]
      omega
    have hdiff1 : ∀ a b : Nat, a ≤ 10 → b ≤ 10 → (nI a - nI b = 0 ↔ a = b) := by
      intro a b ha hb
      rw [← Int32.toInt_inj, pk_sub_toInt (by omega) (by omega)]
      have : (0 : Int32).toInt = 0 := by decide
      rw [this]
      omega
    unfold pX12_lighten_34
    rw [if_neg (nI_ge hm (by omega)), l.weight (by omega), l.weighsIn, l.weighsIn, l.flow, eφ, hbc _ m (by omega), hbc _ b hb, e0]
    simp (disch := omega) only [lt, bd1_some, nI_1, nI_leI, nI_ltI, sub_le_nI, hdiff0, hdiff1]
    unfold ltT ltc
    by_cases e1 : (nI m &&& (nI B ^^^ (-1 : Int32))) = 0
    · rw [if_pos e1]
      by_cases e3 : wtS F (nI B) ≤ wtS F (nI m) + φ
      · rw [if_pos e3]
        by_cases e4 : cnt (bt (nI m)) 10 < cnt (bt (nI b)) 10
        · rw [if_pos e4, if_pos]
          simp only [Bool.and_eq_true, decide_eq_true_iff, Bool.or_eq_true]
          exact ⟨⟨e1, by omega⟩, Or.inl e4⟩
        · rw [if_neg e4]
          by_cases e6 : cnt (bt (nI m)) 10 = cnt (bt (nI b)) 10
          · rw [if_pos e6]
            by_cases e5 : wtS F (nI b) ≤ wtS F (nI m)
            · rw [if_pos e5, if_neg]
              simp only [Bool.and_eq_true, decide_eq_true_iff, Bool.or_eq_true]
              omega
            · rw [if_neg e5, if_pos]
              simp only [Bool.and_eq_true, decide_eq_true_iff, Bool.or_eq_true]
              exact ⟨⟨e1, by omega⟩, Or.inr ⟨by omega, by omega⟩⟩
          · rw [if_neg e6, if_neg]
            simp only [Bool.and_eq_true, decide_eq_true_iff, Bool.or_eq_true]
            omega
      · rw [if_neg e3, if_neg]
        simp only [Bool.and_eq_true, decide_eq_true_iff, Bool.or_eq_true]
        omega
    · rw [if_neg e1, if_neg]
      simp only [Bool.and_eq_true, decide_eq_true_iff, Bool.or_eq_true]
      exact fun q => e1 q.1.1
  · intro r b hb
    unfold pX12_lighten_34 pX12_lighten_116
    rw [if_pos (nI_le (Nat.le_refl _) (by omega))]
    simp only [lt]
    rw [hbc _ b hb, bd1_some]
