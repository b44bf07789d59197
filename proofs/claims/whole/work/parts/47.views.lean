/-! the numbers of FALLS (F, in the reference's own places) and of a course (C: 0 day, 1 inside, 2 broken, 3 dropped, 4 on how), and how both programs hold them -/
def VF (F : Nat → Nat) : Prop := F 0 ≤ 5 ∧ F 1 ≤ 10 ∧ F 2 ≤ 16 ∧ (1 ≤ F 3 ∧ F 3 ≤ 30) ∧ F 4 ≤ 99 ∧ F 5 ≤ 9 ∧ F 6 ≤ 99 ∧ (∀ p, p < F 0 → F (7 + p) ≤ 9) ∧ (∀ i, i < F 1 → F (12 + i) < F 0 ∧ 1 ≤ F (22 + i) ∧ F (22 + i) ≤ 20) ∧ (∀ j, j < F 2 → F (32 + j) < F 1 ∧ F (48 + j) < F 1 ∧ F (32 + j) ≠ F (48 + j) ∧ F (12 + F (32 + j)) = F (12 + F (48 + j)) ∧ 1 ≤ F (64 + j) ∧ F (64 + j) ≤ 30)
def CF (R : Rf) (T : Mm) (f : Nat) (F : Nat → Nat) : Prop := (R f 5 = f + 1 ∧ R f 6 = f + 2 ∧ R f 7 = f + 3 ∧ R f 8 = f + 4 ∧ R f 9 = f + 5 ∧ R f 10 = f + 6 ∧ R f 11 = f + 7 ∧ R f 12 = f + 8) ∧ T.1 f 0 = nI (F 0) ∧ T.1 f 1 = nI (F 1) ∧ T.1 f 2 = nI (F 2) ∧ T.1 f 3 = nI (F 3) ∧ T.1 f 4 = nI (F 4) ∧ T.1 f 14 = nI (F 5) ∧ T.1 f 15 = nI (F 6) ∧ (∀ p, p < F 0 → T.1 (f + 1) p = nI (F (7 + p))) ∧ (∀ i, i < F 1 → T.1 (f + 4) i = nI (F (12 + i))) ∧ (∀ i, i < F 1 → T.1 (f + 5) i = nI (F (22 + i))) ∧ (∀ j, j < F 2 → T.1 (f + 6) j = nI (F (32 + j))) ∧ (∀ j, j < F 2 → T.1 (f + 7) j = nI (F (48 + j))) ∧ (∀ j, j < F 2 → T.1 (f + 8) j = nI (F (64 + j)))
theorem CF.of {R : Rf} {T T' : Mm} {f : Nat} {F : Nat → Nat} (h : CF R T f F) (e : ∀ a, f ≤ a → a ≤ f + 8 → T'.1 a = T.1 a) : CF R T' f F := by
  obtain ⟨⟨q5, q6, q7, q8, q9, q10, q11, q12⟩, f0, f1, f2, f3, f4, f14, f15, cs, co, cw, ca, cb, ch⟩ := h
  refine ⟨⟨q5, q6, q7, q8, q9, q10, q11, q12⟩, ?_, ?_, ?_, ?_, ?_, ?_, ?_, ?_, ?_, ?_, ?_, ?_, ?_⟩
  all_goals first
    | (rw [e f (by omega) (by omega)]; assumption)
    | (intro i hi; first | (rw [e (f + 1) (by omega) (by omega)]; exact cs i hi) | (rw [e (f + 4) (by omega) (by omega)]; exact co i hi) | (rw [e (f + 5) (by omega) (by omega)]; exact cw i hi) | (rw [e (f + 6) (by omega) (by omega)]; exact ca i hi) | (rw [e (f + 7) (by omega) (by omega)]; exact cb i hi) | (rw [e (f + 8) (by omega) (by omega)]; exact ch i hi))
/-- the reference's cells -/
def RM (R : Rf) : Prop := R 105 1 = 106 ∧ R 105 6 = 107 ∧ R 105 7 = 108 ∧ R 105 8 = 109 ∧ R 105 9 = 110 ∧ R 105 10 = 111 ∧ R 105 21 = 112 ∧ R 105 22 = 113 ∧ R 105 28 = 114 ∧ R 105 32 = 115 ∧ R 105 33 = 116 ∧ R 105 34 = 117 ∧ R 105 38 = 118 ∧ R 105 40 = 119 ∧ R 105 46 = 120 ∧ R 105 47 = 121 ∧ R 105 48 = 122 ∧ R 105 49 = 123
def MF (T : Mm) (F : Nat → Nat) : Prop := ∀ k, k < 80 → T.1 107 k = nI (F k)
def uC (C : Nat → Int32) (k : Nat) (v : Int32) : Nat → Int32 := fun j => if j = k then v else C j
theorem uC_s {C : Nat → Int32} {k : Nat} {v : Int32} : uC C k v k = v := if_pos rfl
theorem uC_n {C : Nat → Int32} {k j : Nat} {v : Int32} (h : j ≠ k) : uC C k v j = C j := if_neg h
theorem uC_e {C : Nat → Int32} {k j : Nat} {v : Int32} (h : j = k) : uC C k v j = v := if_pos h
theorem uC_id {C : Nat → Int32} {k : Nat} : uC C k (C k) = C := funext fun j => by
  by_cases h : j = k
  · subst h; rw [uC_s]
  · rw [uC_n h]
/-- the class's course c is C -/
def setC (T : Mm) (c : Nat) (C : Nat → Int32) : Mm := (fun a k => if a = c then (if k < 4 then C k else T.1 a k) else if a = c + 1 then (if k < 5 then C (4 + k) else T.1 a k) else T.1 a k, T.2)
theorem setC_c {T : Mm} {c k : Nat} {C : Nat → Int32} (h : k < 4) : (setC T c C).1 c k = C k := by simp [setC, h]
theorem setC_h {T : Mm} {c k : Nat} {C : Nat → Int32} (h : k < 5) : (setC T c C).1 (c + 1) k = C (4 + k) := by simp [setC, h]
theorem setC_o {T : Mm} {c a : Nat} {C : Nat → Int32} (h : a ≠ c) (h' : a ≠ c + 1) : (setC T c C).1 a = T.1 a := by
  funext k
  simp [setC, h, h']
theorem setC_2 {T : Mm} {c : Nat} {C : Nat → Int32} : (setC T c C).2 = T.2 := rfl
theorem setC_w {T : Mm} {c k : Nat} {C : Nat → Int32} {v : Int32} (h : k < 4) : wI (setC T c C) c k v = setC T c (uC C k v) := by
  unfold wI setC up2 uC
  refine Prod.ext ?_ rfl
  funext a j
  by_cases ha : a = c
  · subst ha
    by_cases hj : j = k
    · subst hj
      simp [h]
    · by_cases h4 : j < 4
      · simp [hj, h4]
      · simp [hj, h4]
  · by_cases hb : a = c + 1
    · subst hb
      by_cases h5 : j < 5
      · have : ¬ 4 + j = k := by omega
        simp [h5, this]
      · simp [h5]
    · simp [ha, hb]
theorem setC_wh {T : Mm} {c k : Nat} {C : Nat → Int32} {v : Int32} (h : k < 5) : wI (setC T c C) (c + 1) k v = setC T c (uC C (4 + k) v) := by
  unfold wI setC up2 uC
  refine Prod.ext ?_ rfl
  funext a j
  by_cases ha : a = c
  · subst ha
    by_cases h4 : j < 4
    · have : ¬ j = 4 + k := by omega
      simp [h4, this]
    · simp [h4]
  · by_cases hb : a = c + 1
    · subst hb
      by_cases hj : j = k
      · subst hj
        simp [h]
      · have : ¬ 4 + j = 4 + k := by omega
        simp [hj]
    · simp [ha, hb]
theorem setC_setC {T : Mm} {c : Nat} {C D : Nat → Int32} : setC (setC T c C) c D = setC T c D := by
  unfold setC
  refine Prod.ext ?_ rfl
  funext a j
  by_cases ha : a = c
  · subst ha
    by_cases h4 : j < 4 <;> simp [h4]
  · by_cases hb : a = c + 1
    · subst hb
      by_cases h5 : j < 5 <;> simp [h5]
    · simp [ha, hb]
theorem CF.sC {R : Rf} {T : Mm} {f c : Nat} {F : Nat → Nat} {C : Nat → Int32} (h : CF R T f F) (hc : c + 1 < f ∨ f + 8 < c) : CF R (setC T c C) f F := h.of (fun a h1 h2 => setC_o (by omega) (by omega))
/-- the reference's course is C -/
def wh (n : Nat) (b : Int32) : Int32 := sB (fun j => !bt b j) n
def setM (T : Mm) (n : Nat) (C : Nat → Int32) : Mm := (fun a k => if a = 107 ∧ 80 ≤ k ∧ k < 89 then (if k = 82 then wh n (C 2) else C (k - 80)) else T.1 a k, T.2)
theorem setM_2 {T : Mm} {n : Nat} {C : Nat → Int32} : (setM T n C).1 107 82 = wh n (C 2) := by simp [setM]
theorem setM_0 {T : Mm} {n : Nat} {C : Nat → Int32} : (setM T n C).1 107 80 = C 0 := by simp [setM]
theorem setM_1 {T : Mm} {n : Nat} {C : Nat → Int32} : (setM T n C).1 107 81 = C 1 := by simp [setM]
theorem setM_3 {T : Mm} {n : Nat} {C : Nat → Int32} : (setM T n C).1 107 83 = C 3 := by simp [setM]
theorem setM_h {T : Mm} {n p : Nat} {C : Nat → Int32} (h : p < 5) : (setM T n C).1 107 (84 + p) = C (4 + p) := by
  have h1 : 80 ≤ 84 + p := by omega
  have h2 : 84 + p < 89 := by omega
  have h3 : 84 + p - 80 = 4 + p := by omega
  have h4 : ¬ 84 + p = 82 := by omega
  simp [setM, h1, h2, h3, h4]
theorem setM_lo {T : Mm} {n k : Nat} {C : Nat → Int32} (h : k < 80) : (setM T n C).1 107 k = T.1 107 k := by
  have : ¬ (80 ≤ k) := by omega
  simp [setM, this]
theorem setM_o {T : Mm} {n a : Nat} {C : Nat → Int32} (h : a ≠ 107) : (setM T n C).1 a = T.1 a := by
  funext k
  simp [setM, h]
theorem setM_T2 {T : Mm} {n : Nat} {C : Nat → Int32} : (setM T n C).2 = T.2 := rfl
theorem setM_w {T : Mm} {n : Nat} {C D : Nat → Int32} {k : Nat} {v : Int32} (hk : k < 9) (hv : v = if k = 2 then wh n (D 2) else D k) (hD : ∀ j, j ≠ k → D j = C j) : wI (setM T n C) 107 (80 + k) v = setM T n D := by
  unfold wI setM up2
  refine Prod.ext ?_ rfl
  funext a j
  dsimp only
  by_cases h : a = 107 ∧ j = 80 + k
  · obtain ⟨rfl, rfl⟩ := h
    have h1 : 80 ≤ 80 + k := by omega
    have h2 : 80 + k < 89 := by omega
    have h3 : 80 + k - 80 = k := by omega
    have h4 : (80 + k = 82) ↔ k = 2 := by omega
    simp only [h1, h2, h3, h4, and_self, if_true]
    exact hv
  · rw [if_neg h]
    by_cases h' : a = 107 ∧ 80 ≤ j ∧ j < 89
    · rw [if_pos h', if_pos h']
      have hj : j - 80 ≠ k := by
        intro e
        exact h ⟨h'.1, by omega⟩
      by_cases h2 : j = 82
      · subst h2
        rw [if_pos rfl, if_pos rfl, hD 2 (by omega)]
      · rw [if_neg h2, if_neg h2, hD _ hj]
    · rw [if_neg h', if_neg h']
theorem setM_w0 {T : Mm} {n : Nat} {C : Nat → Int32} {v : Int32} : wI (setM T n C) 107 80 v = setM T n (uC C 0 v) := setM_w (k := 0) (by decide) (by simp [uC_s]) (fun j hj => uC_n hj)
theorem setM_w1 {T : Mm} {n : Nat} {C : Nat → Int32} {v : Int32} : wI (setM T n C) 107 81 v = setM T n (uC C 1 v) := setM_w (k := 1) (by decide) (by simp [uC_s]) (fun j hj => uC_n hj)
theorem setM_w2 {T : Mm} {n : Nat} {C : Nat → Int32} {v : Int32} (b : Int32) (h : v = wh n b) : wI (setM T n C) 107 82 v = setM T n (uC C 2 b) := setM_w (k := 2) (by decide) (by simp [uC_s, h]) (fun j hj => uC_n hj)
theorem setM_w3 {T : Mm} {n : Nat} {C : Nat → Int32} {v : Int32} : wI (setM T n C) 107 83 v = setM T n (uC C 3 v) := setM_w (k := 3) (by decide) (by simp [uC_s]) (fun j hj => uC_n hj)
theorem setM_wh {T : Mm} {n p : Nat} {C : Nat → Int32} {v : Int32} (h : p < 5) : wI (setM T n C) 107 (84 + p) v = setM T n (uC C (4 + p) v) := by
  have := setM_w (T := T) (n := n) (C := C) (D := uC C (4 + p) v) (k := 4 + p) (v := v) (by omega) (by rw [if_neg (by omega), uC_s]) (fun j hj => uC_n hj)
  rwa [show 80 + (4 + p) = 84 + p by omega] at this
theorem setM_setM {T : Mm} {n m : Nat} {C D : Nat → Int32} : setM (setM T n C) m D = setM T m D := by
  unfold setM
  refine Prod.ext ?_ rfl
  funext a j
  by_cases h' : a = 107 ∧ 80 ≤ j ∧ j < 89
  · simp [h']
  · simp [h']
theorem MF.sM {T : Mm} {n : Nat} {F : Nat → Nat} {C : Nat → Int32} (h : MF T F) : MF (setM T n C) F := fun k hk => by rw [setM_lo hk, h k hk]
theorem bt_wh {n : Nat} {b : Int32} (hn : n ≤ 32) {j : Nat} (hj : j < 32) : bt (wh n b) j = (decide (j < n) && !bt b j) := bt_sB _ hn hj
theorem wh_or {n j : Nat} {b : Int32} (hn : n ≤ 32) (hj : j < 32) : wh n b &&& (((1 : Int32) <<< (nI j &&& 31)) ^^^ (-1 : Int32)) = wh n (b ||| (1 <<< (nI j &&& 31))) := by
  apply b_ext
  intro i hi
  rw [b_and, bt_wh hn hi, bt_wh hn hi, b_or, bt_not _ hi, bt_one j hj hi]
  simp [Bool.and_assoc]
theorem wh_clr {n j : Nat} {b : Int32} (hn : n ≤ 32) (hj : j < n) : wh n b ||| (1 <<< (nI j &&& 31)) = wh n (b &&& (((1 : Int32) <<< (nI j &&& 31)) ^^^ (-1 : Int32))) := by
  apply b_ext
  intro i hi
  rw [b_or, bt_wh hn hi, bt_wh hn hi, b_and, bt_not _ hi, bt_one j (by omega) hi]
  by_cases e : i = j
  · subst e
    simp [hj]
  · simp [e]
