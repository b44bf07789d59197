/-! the tape: four bytes of a number -/
theorem wI_s {T : Mm} {a k : Nat} {v : Int32} : (wI T a k v).1 a k = v := up2_s
theorem wI_n {T : Mm} {a k b j : Nat} {v : Int32} (h : b ≠ a ∨ j ≠ k) : (wI T a k v).1 b j = T.1 b j := up2_n h
theorem wI_2 {T : Mm} {a k : Nat} {v : Int32} : (wI T a k v).2 = T.2 := rfl
def put1 (a0 b ln : Nat) (v : Int32) (L : Nat) (T : Mm) : Mm := wI (wI T b L v) a0 ln (nI (L + 1))
theorem c_put1 {R : Rf} {a0 b : Nat} (hR : R a0 0 = b) (hab : a0 ≠ b) (x : Int32) (ex : Mm → Option Mm) (r : Mm → Int32 → Option Mm) {T : Mm} {L : Nat} {s : Int32} (hL : T.1 a0 1 = nI L) (h : L < 940) (hs : ¬ s < 0) : pX10_put_3 R a0 x ex r T s = r (put1 a0 b 1 ((us x s) &&& 255) L T) (s + (-8)) := by
  unfold pX10_put_3 put1
  rw [if_neg hs, hL, hR, if_neg (show ¬ (940 : Int32) ≤ nI L from nI_ge (b := 940) h (by decide)), ix_nI h (by decide), nI_clamp (by omega)]
  show r (wI (wI T b L ((us x s) &&& 255)) a0 1 ((wI T b L ((us x s) &&& 255)).1 a0 1 + 1)) (s + (-8)) = _
  rw [wI_n (Or.inl hab), hL, nI_1]
theorem m_four1 {R : Rf} {a0 b : Nat} (hR : R a0 1 = b) (hab : a0 ≠ b) (x : Int32) (ex : Mm → Option Mm) (r : Mm → Int32 → Option Mm) {T : Mm} {L : Nat} {s : Int32} (hL : T.1 a0 2 = nI L) (h : L < 940) (hs : ¬ s < 0) : pX12_four_3 R a0 x ex r T s = r (put1 a0 b 2 (((x >>> (s &&& 31)).toInt8.toInt32).toInt8.toInt32) L T) (s + (-8)) := by
  unfold pX12_four_3 put1
  rw [if_neg hs, hL, hR, ix_nI h (by decide), nI_clamp (by omega)]
  show r (wI (wI T b L _) a0 2 ((wI T b L _).1 a0 2 + 1)) (s + (-8)) = _
  rw [wI_n (Or.inl hab), hL, nI_1]
def put4 (a0 b ln : Nat) (v : Int32 → Int32) (L : Nat) (T : Mm) : Mm := put1 a0 b ln (v 0) (L + 3) (put1 a0 b ln (v 8) (L + 2) (put1 a0 b ln (v 16) (L + 1) (put1 a0 b ln (v 24) L T)))
theorem put1_len {a0 b ln L : Nat} {v : Int32} {T : Mm} : (put1 a0 b ln v L T).1 a0 ln = nI (L + 1) := wI_s
/-- Tape.put -/
theorem c_put {R : Rf} {a0 b : Nat} (hR : R a0 0 = b) (hab : a0 ≠ b) (x : Int32) {T : Mm} {L : Nat} (hL : T.1 a0 1 = nI L) (h : L + 4 ≤ 940) : pX10_put R T a0 x = some (put4 a0 b 1 (fun s => (us x s) &&& 255) L T) := by
  unfold pX10_put
  rw [show FU = 999995 + 1 + 1 + 1 + 1 + 1 from rfl]
  rw [zl2_s, c_put1 hR hab x _ _ hL (by omega) (by decide), show (24 : Int32) + (-8) = 16 from by decide]
  rw [zl2_s, c_put1 hR hab x _ _ put1_len (by omega) (by decide), show (16 : Int32) + (-8) = 8 from by decide]
  rw [zl2_s, c_put1 hR hab x _ _ put1_len (by omega) (by decide), show (8 : Int32) + (-8) = 0 from by decide]
  rw [zl2_s, c_put1 hR hab x _ _ put1_len (by omega) (by decide), show (0 : Int32) + (-8) = -8 from by decide]
  rw [zl2_s]
  unfold pX10_put_3
  rw [if_pos (by decide)]
  rfl
/-- GoingOverModel.four -/
theorem m_four {R : Rf} {a0 b : Nat} (hR : R a0 1 = b) (hab : a0 ≠ b) (x : Int32) {T : Mm} {L : Nat} (hL : T.1 a0 2 = nI L) (h : L + 4 ≤ 940) : pX12_four R T a0 x = some (put4 a0 b 2 (fun s => ((x >>> (s &&& 31)).toInt8.toInt32).toInt8.toInt32) L T) := by
  unfold pX12_four
  rw [show FU = 999995 + 1 + 1 + 1 + 1 + 1 from rfl]
  rw [zl2_s, m_four1 hR hab x _ _ hL (by omega) (by decide), show (24 : Int32) + (-8) = 16 from by decide]
  rw [zl2_s, m_four1 hR hab x _ _ put1_len (by omega) (by decide), show (16 : Int32) + (-8) = 8 from by decide]
  rw [zl2_s, m_four1 hR hab x _ _ put1_len (by omega) (by decide), show (8 : Int32) + (-8) = 0 from by decide]
  rw [zl2_s, m_four1 hR hab x _ _ put1_len (by omega) (by decide), show (0 : Int32) + (-8) = -8 from by decide]
  rw [zl2_s]
  unfold pX12_four_3
  rw [if_pos (by decide)]
  rfl
