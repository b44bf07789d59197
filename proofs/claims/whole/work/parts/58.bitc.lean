/-! Integer.bitCount counts -/
def bcN1 (x : Nat) : Nat := x - ((x / 2) &&& 1431655765)
def bcN2 (v : Nat) : Nat := (v &&& 858993459) + ((v / 4) &&& 858993459)
def bcN3 (v : Nat) : Nat := (v + v / 16) &&& 252645135
/-- one byte's -/
def by1 (x : Nat) : Nat := x - ((x / 2) &&& 85)
def by2 (v : Nat) : Nat := (v &&& 51) + ((v / 4) &&& 51)
def by3 (v : Nat) : Nat := (v + v / 16) &&& 15
theorem land_split (a b m n : Nat) (ha : a < 256) (hm : m < 256) : (a + 256 * b) &&& (m + 256 * n) = (a &&& m) + 256 * (b &&& n) := by
  have h1 : ((a + 256 * b) &&& (m + 256 * n)) % 2 ^ 8 = (a + 256 * b) % 2 ^ 8 &&& (m + 256 * n) % 2 ^ 8 := Nat.and_mod_two_pow
  have h2 : ((a + 256 * b) &&& (m + 256 * n)) / 2 ^ 8 = (a + 256 * b) / 2 ^ 8 &&& (m + 256 * n) / 2 ^ 8 := Nat.and_div_two_pow
  rw [show (a + 256 * b) % 2 ^ 8 = a by omega, show (m + 256 * n) % 2 ^ 8 = m by omega] at h1
  rw [show (a + 256 * b) / 2 ^ 8 = b by omega, show (m + 256 * n) / 2 ^ 8 = n by omega] at h2
  omega
theorem by1_lo : ∀ x, x < 256 → ((x / 2) &&& 85) ≤ x ∧ by1 x < 256 ∧ ∀ c, c < 2 → ((x / 2 + 128 * c) &&& 85) = ((x / 2) &&& 85) := by decide +kernel
theorem by2_lo : ∀ x, x < 256 → by2 x < 256 ∧ (x &&& 51) < 256 ∧ ((x / 4) &&& 51) < 256 ∧ ∀ c, c < 4 → ((x / 4 + 64 * c) &&& 51) = ((x / 4) &&& 51) := by decide +kernel
theorem by3_lo : ∀ x, x < 256 → (by2 (by1 x)) % 16 ≤ 4 ∧ (by2 (by1 x)) / 16 ≤ 4 ∧ ∀ c, c < 5 → ((by2 (by1 x) + (by2 (by1 x) / 16 + 16 * c)) &&& 15) = by3 (by2 (by1 x)) ∧ by2 (by1 x) + (by2 (by1 x) / 16 + 16 * c) < 256 := by decide +kernel
theorem by_cnt : ∀ x, x < 256 → by3 (by2 (by1 x)) = cnt (fun i => Nat.testBit x i) 8 := by decide +kernel
theorem bcN1_by {x0 x1 x2 x3 : Nat} (h0 : x0 < 256) (h1 : x1 < 256) (h2 : x2 < 256) (h3 : x3 < 256) : bcN1 (x0 + 256 * (x1 + 256 * (x2 + 256 * x3))) = by1 x0 + 256 * (by1 x1 + 256 * (by1 x2 + 256 * by1 x3)) := by
  unfold bcN1
  rw [show (x0 + 256 * (x1 + 256 * (x2 + 256 * x3))) / 2 = (x0 / 2 + 128 * (x1 % 2)) + 256 * ((x1 / 2 + 128 * (x2 % 2)) + 256 * ((x2 / 2 + 128 * (x3 % 2)) + 256 * (x3 / 2))) by omega]
  rw [show 1431655765 = 85 + 256 * (85 + 256 * (85 + 256 * 85)) by decide]
  rw [land_split _ _ _ _ (by omega) (by decide), land_split _ _ _ _ (by omega) (by decide), land_split _ _ _ _ (by omega) (by decide)]
  rw [(by1_lo x0 h0).2.2 _ (by omega), (by1_lo x1 h1).2.2 _ (by omega), (by1_lo x2 h2).2.2 _ (by omega)]
  have a0 := (by1_lo x0 h0).1
  have a1 := (by1_lo x1 h1).1
  have a2 := (by1_lo x2 h2).1
  have a3 := (by1_lo x3 h3).1
  unfold by1
  omega
theorem bcN2_by {x0 x1 x2 x3 : Nat} (h0 : x0 < 256) (h1 : x1 < 256) (h2 : x2 < 256) (h3 : x3 < 256) : bcN2 (x0 + 256 * (x1 + 256 * (x2 + 256 * x3))) = by2 x0 + 256 * (by2 x1 + 256 * (by2 x2 + 256 * by2 x3)) := by
  unfold bcN2
  rw [show (x0 + 256 * (x1 + 256 * (x2 + 256 * x3))) / 4 = (x0 / 4 + 64 * (x1 % 4)) + 256 * ((x1 / 4 + 64 * (x2 % 4)) + 256 * ((x2 / 4 + 64 * (x3 % 4)) + 256 * (x3 / 4))) by omega]
  rw [show 858993459 = 51 + 256 * (51 + 256 * (51 + 256 * 51)) by decide]
  rw [land_split _ _ _ _ (by omega) (by decide), land_split _ _ _ _ (by omega) (by decide), land_split _ _ _ _ (by omega) (by decide)]
  rw [land_split _ _ _ _ (by omega) (by decide), land_split _ _ _ _ (by omega) (by decide), land_split _ _ _ _ (by omega) (by decide)]
  rw [(by2_lo x0 h0).2.2.2 _ (by omega), (by2_lo x1 h1).2.2.2 _ (by omega), (by2_lo x2 h2).2.2.2 _ (by omega)]
  unfold by2
  omega
theorem bcN3_by {x0 x1 x2 x3 : Nat} (h0 : x0 < 256) (h1 : x1 < 256) (h2 : x2 < 256) (h3 : x3 < 256) : bcN3 (by2 (by1 x0) + 256 * (by2 (by1 x1) + 256 * (by2 (by1 x2) + 256 * by2 (by1 x3)))) = by3 (by2 (by1 x0)) + 256 * (by3 (by2 (by1 x1)) + 256 * (by3 (by2 (by1 x2)) + 256 * by3 (by2 (by1 x3)))) := by
  have a0 := by3_lo x0 h0
  have a1 := by3_lo x1 h1
  have a2 := by3_lo x2 h2
  have a3 := by3_lo x3 h3
  have c0 := a0.2.2 (by2 (by1 x1) % 16) (by omega)
  have c1 := a1.2.2 (by2 (by1 x2) % 16) (by omega)
  have c2 := a2.2.2 (by2 (by1 x3) % 16) (by omega)
  have c3 := a3.2.2 0 (by omega)
  generalize by2 (by1 x0) = y0 at *
  generalize by2 (by1 x1) = y1 at *
  generalize by2 (by1 x2) = y2 at *
  generalize by2 (by1 x3) = y3 at *
  unfold bcN3
  rw [show (y0 + 256 * (y1 + 256 * (y2 + 256 * y3))) + (y0 + 256 * (y1 + 256 * (y2 + 256 * y3))) / 16 = (y0 + (y0 / 16 + 16 * (y1 % 16))) + 256 * ((y1 + (y1 / 16 + 16 * (y2 % 16))) + 256 * ((y2 + (y2 / 16 + 16 * (y3 % 16))) + 256 * (y3 + (y3 / 16 + 16 * 0)))) by omega]
  rw [show 252645135 = 15 + 256 * (15 + 256 * (15 + 256 * 15)) by decide]
  rw [land_split _ _ _ _ (by omega) (by decide), land_split _ _ _ _ (by omega) (by decide), land_split _ _ _ _ (by omega) (by decide)]
  rw [c0.1, c1.1, c2.1, c3.1]
theorem cnt_add (c : Nat → Bool) (n : Nat) : ∀ m, cnt c (n + m) = cnt c n + cnt (fun i => c (n + i)) m
  | 0 => by show _ = _ + 0; rfl
  | m + 1 => by
    rw [show n + (m + 1) = n + m + 1 by omega, cnt_succ, cnt_succ, cnt_add c n m]
    by_cases h : c (n + m) = true
    · rw [if_pos h, if_pos h]; omega
    · rw [if_neg h, if_neg h]
theorem cnt_congr {c d : Nat → Bool} {n : Nat} (h : ∀ i, i < n → c i = d i) : cnt c n = cnt d n := sW_congr h (fun _ _ => rfl)
theorem tb_byte (x k i : Nat) (hi : i < 8) : Nat.testBit x (8 * k + i) = Nat.testBit (x / 2 ^ (8 * k) % 256) i := by
  rw [show (256 : Nat) = 2 ^ 8 by decide, Nat.testBit_mod_two_pow, Nat.testBit_div_two_pow, Nat.add_comm]
  simp [hi]
theorem nI_and (a b : Nat) (ha : a < 2 ^ 32) (hb : b < 2 ^ 32) : nI a &&& nI b = nI (a &&& b) := by
  apply Int32.toBitVec_inj.mp
  apply BitVec.eq_of_toNat_eq
  rw [Int32.toBitVec_and, BitVec.toNat_and, pk_tn ha, pk_tn hb, pk_tn (Nat.and_lt_two_pow _ hb)]
theorem us_nI {a k : Nat} (ha : a < 2 ^ 32) (s : Int32) (hs : ((s.toUInt32 &&& Int32.toUInt32 31).toBitVec % 32).toNat = k) : us (nI a) s = nI (a / 2 ^ k) := pk_ushrN ha s k hs
theorem nI_mod (a : Nat) : nI (a % 2 ^ 32) = nI a := by
  apply Int32.toBitVec_inj.mp
  apply BitVec.eq_of_toNat_eq
  rw [pk_tn (Nat.mod_lt _ (by decide))]
  show a % 2 ^ 32 = (BitVec.ofNat 32 a).toNat
  rw [BitVec.toNat_ofNat]
theorem bt_nI {a i : Nat} (ha : a < 2 ^ 32) : bt (nI a) i = Nat.testBit a i := by
  unfold bt
  rw [BitVec.getLsbD, pk_tn ha]
theorem bc_fin {y0 y1 y2 y3 : Nat} (h0 : y0 ≤ 8) (h1 : y1 ≤ 8) (h2 : y2 ≤ 8) (h3 : y3 ≤ 8) : (y0 + 256 * (y1 + 256 * (y2 + 256 * y3)) + (y0 + 256 * (y1 + 256 * (y2 + 256 * y3))) / 2 ^ 8 + (y0 + 256 * (y1 + 256 * (y2 + 256 * y3)) + (y0 + 256 * (y1 + 256 * (y2 + 256 * y3))) / 2 ^ 8) / 2 ^ 16) % 2 ^ 6 = y0 + y1 + y2 + y3 := by
  have e1 : (y0 + 256 * (y1 + 256 * (y2 + 256 * y3))) / 2 ^ 8 = y1 + 256 * (y2 + 256 * y3) := by omega
  rw [e1]
  have e2 : (y0 + 256 * (y1 + 256 * (y2 + 256 * y3)) + (y1 + 256 * (y2 + 256 * y3))) / 2 ^ 16 = (y2 + y3) + 256 * y3 := by omega
  rw [e2]
  omega
theorem bitCount_nI {R : Rf} {T : Mm} {x : Nat} (hx : x < 2 ^ 32) : pJ6_bitCount_0f7a4 R T (nI x) = some (nI (cnt (fun i => Nat.testBit x i) 32)) := by
  have ex : x = x % 256 + 256 * (x / 256 % 256 + 256 * (x / 65536 % 256 + 256 * (x / 16777216 % 256))) := by omega
  have hc : cnt (fun i => Nat.testBit x i) 32 = cnt (fun i => Nat.testBit (x % 256) i) 8 + cnt (fun i => Nat.testBit (x / 256 % 256) i) 8 + cnt (fun i => Nat.testBit (x / 65536 % 256) i) 8 + cnt (fun i => Nat.testBit (x / 16777216 % 256) i) 8 := by
    rw [show 32 = 8 + (8 + (8 + 8)) by decide, cnt_add, cnt_add, cnt_add]
    rw [cnt_congr (d := fun i => Nat.testBit (x % 256) i) (fun i hi => by have := tb_byte x 0 i hi; simpa using this)]
    rw [cnt_congr (c := fun i => Nat.testBit x (8 + i)) (d := fun i => Nat.testBit (x / 256 % 256) i) (fun i hi => by have := tb_byte x 1 i hi; simpa using this)]
    rw [cnt_congr (c := fun i => Nat.testBit x (8 + (8 + i))) (d := fun i => Nat.testBit (x / 65536 % 256) i) (fun i hi => by have := tb_byte x 2 i hi; rw [show 8 + (8 + i) = 8 * 2 + i by omega]; simpa using this)]
    rw [cnt_congr (c := fun i => Nat.testBit x (8 + (8 + (8 + i)))) (d := fun i => Nat.testBit (x / 16777216 % 256) i) (fun i hi => by have := tb_byte x 3 i hi; rw [show 8 + (8 + (8 + i)) = 8 * 3 + i by omega]; simpa using this)]
    omega
  rw [hc]
  have h0 : x % 256 < 256 := by omega
  have h1 : x / 256 % 256 < 256 := by omega
  have h2 : x / 65536 % 256 < 256 := by omega
  have h3 : x / 16777216 % 256 < 256 := by omega
  generalize x % 256 = x0 at *
  generalize x / 256 % 256 = x1 at *
  generalize x / 65536 % 256 = x2 at *
  generalize x / 16777216 % 256 = x3 at *
  have p0 := by_cnt x0 h0
  have p1 := by_cnt x1 h1
  have p2 := by_cnt x2 h2
  have p3 := by_cnt x3 h3
  have l0 := cnt_le (fun i => Nat.testBit x0 i) 8
  have l1 := cnt_le (fun i => Nat.testBit x1 i) 8
  have l2 := cnt_le (fun i => Nat.testBit x2 i) 8
  have l3 := cnt_le (fun i => Nat.testBit x3 i) 8
  rw [← p0, ← p1, ← p2, ← p3]
  rw [← p0] at l0
  rw [← p1] at l1
  rw [← p2] at l2
  rw [← p3] at l3
  have e1 := bcN1_by h0 h1 h2 h3
  have b0 := (by1_lo x0 h0).2.1
  have b1 := (by1_lo x1 h1).2.1
  have b2 := (by1_lo x2 h2).2.1
  have b3 := (by1_lo x3 h3).2.1
  have e2 := bcN2_by b0 b1 b2 b3
  have d0 := (by2_lo (by1 x0) b0).1
  have d1 := (by2_lo (by1 x1) b1).1
  have d2 := (by2_lo (by1 x2) b2).1
  have d3 := (by2_lo (by1 x3) b3).1
  have e3 := bcN3_by h0 h1 h2 h3
  unfold pJ6_bitCount_0f7a4
  simp only [lt]
  have s1 : nI x - ((us (nI x) 1) &&& 1431655765) = nI (bcN1 x) := by
    rw [us_nI hx 1 (k := 1) (by decide), show (1431655765 : Int32) = nI 1431655765 from rfl, nI_and _ _ (by omega) (by decide)]
    exact pk_sub (Nat.le_trans Nat.and_le_left (Nat.div_le_self _ _))
  rw [s1]
  rw [← ex] at e1
  rw [e1]
  have s2 : ∀ v, v < 2 ^ 32 → (nI v &&& 858993459) + ((us (nI v) 2) &&& 858993459) = nI (bcN2 v) := by
    intro v hv
    rw [us_nI hv 2 (k := 2) (by decide), show (858993459 : Int32) = nI 858993459 from rfl, nI_and _ _ (by omega) (by decide), nI_and _ _ (by omega) (by decide), nI_add]
    rfl
  rw [s2 _ (by omega), e2]
  have s3 : ∀ v, v + v / 16 < 2 ^ 32 → (nI v + (us (nI v) 4)) &&& 252645135 = nI (bcN3 v) := by
    intro v hv
    rw [us_nI (by omega) 4 (k := 4) (by decide), nI_add, show (252645135 : Int32) = nI 252645135 from rfl, nI_and _ _ (by omega) (by decide)]
    rfl
  have g0 := by3_lo x0 h0
  have g1 := by3_lo x1 h1
  have g2 := by3_lo x2 h2
  have g3 := by3_lo x3 h3
  rw [s3 _ (by omega), e3]
  generalize by3 (by2 (by1 x0)) = y0 at *
  generalize by3 (by2 (by1 x1)) = y1 at *
  generalize by3 (by2 (by1 x2)) = y2 at *
  generalize by3 (by2 (by1 x3)) = y3 at *
  rw [us_nI (by omega) 8 (k := 8) (by decide), nI_add, us_nI (by omega) 16 (k := 16) (by decide), nI_add]
  rw [pk_andN (by omega) 6 (by decide), bc_fin (by omega) (by omega) (by omega) (by omega)]
theorem c_bits {R : Rf} {T : Mm} {x : Int32} (h : ∀ i, i < 32 → bt x i = true → i < 10) : pJ6_bitCount_0f7a4 R T x = some (nI (cnt (bt x) 10)) := by
  obtain ⟨m, hm, rfl⟩ := lo10 h
  rw [bitCount_nI (by omega)]
  congr 2
  rw [show 32 = 10 + 22 by decide, cnt_add]
  have : cnt (fun i => Nat.testBit m (10 + i)) 22 = 0 := by
    have := cnt_congr (c := fun i => Nat.testBit m (10 + i)) (d := fun _ => false) (n := 22) (fun i _ => Nat.testBit_lt_two_pow (Nat.lt_of_lt_of_le hm (Nat.pow_le_pow_right (n := 2) (show 0 < 2 by decide) (show 10 ≤ 10 + i by omega))))
    rw [this]
    decide
  rw [this, Nat.add_zero]
  exact cnt_congr (fun i _ => (bt_nI (by omega)).symm)
