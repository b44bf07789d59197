/-! a SENTENCE: the reference, all -/
def foI (T : Mm) (a o : Nat) (v : Nat → Int32) (n : Nat) : Mm := (fun x k => if x = a ∧ o ≤ k ∧ k < o + n then v (k - o) else T.1 x k, T.2)
def foJ (T : Mm) (a o : Nat) (v : Nat → Int64) (n : Nat) : Mm := (T.1, fun x k => if x = a ∧ o ≤ k ∧ k < o + n then v (k - o) else T.2 x k)
theorem foI_0 {T : Mm} {a o : Nat} {v : Nat → Int32} : foI T a o v 0 = T := by
  unfold foI
  refine Prod.ext ?_ rfl
  funext x k
  exact if_neg (by omega)
theorem foJ_0 {T : Mm} {a o : Nat} {v : Nat → Int64} : foJ T a o v 0 = T := by
  unfold foJ
  refine Prod.ext rfl ?_
  funext x k
  exact if_neg (by omega)
theorem foI_in {T : Mm} {a o n k : Nat} {v : Nat → Int32} (h : k < n) : (foI T a o v n).1 a (o + k) = v k := by
  show (if a = a ∧ o ≤ o + k ∧ o + k < o + n then v (o + k - o) else _) = _
  rw [if_pos ⟨rfl, by omega, by omega⟩, Nat.add_sub_cancel_left]
theorem foI_out {T : Mm} {a o n k x : Nat} {v : Nat → Int32} (h : x ≠ a ∨ k < o ∨ o + n ≤ k) : (foI T a o v n).1 x k = T.1 x k := if_neg (by omega)
theorem foI_o {T : Mm} {a o n x : Nat} {v : Nat → Int32} (h : x ≠ a) : (foI T a o v n).1 x = T.1 x := funext fun _ => foI_out (Or.inl h)
theorem foJ_in {T : Mm} {a o n k : Nat} {v : Nat → Int64} (h : k < n) : (foJ T a o v n).2 a (o + k) = v k := by
  show (if a = a ∧ o ≤ o + k ∧ o + k < o + n then v (o + k - o) else _) = _
  rw [if_pos ⟨rfl, by omega, by omega⟩, Nat.add_sub_cancel_left]
theorem foJ_out {T : Mm} {a o n k x : Nat} {v : Nat → Int64} (h : x ≠ a ∨ k < o ∨ o + n ≤ k) : (foJ T a o v n).2 x k = T.2 x k := if_neg (by omega)
theorem foJ_o {T : Mm} {a o n x : Nat} {v : Nat → Int64} (h : x ≠ a) : (foJ T a o v n).2 x = T.2 x := funext fun _ => foJ_out (Or.inl h)
theorem foI_s {T : Mm} {a o n : Nat} {v : Nat → Int32} : wI (foI T a o v n) a (o + n) (v n) = foI T a o v (n + 1) := by
  refine Prod.ext ?_ rfl
  funext x k
  by_cases h : x = a ∧ k = o + n
  · rw [h.1, h.2, wI_s, foI_in (Nat.lt_succ_self n)]
  · rw [wI_n (by omega)]
    by_cases h1 : x = a ∧ o ≤ k ∧ k < o + n
    · obtain ⟨rfl, h2, h3⟩ := h1
      obtain ⟨j, rfl⟩ : ∃ j, k = o + j := ⟨k - o, by omega⟩
      rw [foI_in (by omega), foI_in (by omega)]
    · rw [foI_out (by omega), foI_out (by omega)]
theorem foJ_s {T : Mm} {a o n : Nat} {v : Nat → Int64} : wJ (foJ T a o v n) a (o + n) (v n) = foJ T a o v (n + 1) := by
  refine Prod.ext rfl ?_
  funext x k
  by_cases h : x = a ∧ k = o + n
  · rw [h.1, h.2, wJ_s, foJ_in (Nat.lt_succ_self n)]
  · rw [wJ_n (by omega)]
    by_cases h1 : x = a ∧ o ≤ k ∧ k < o + n
    · obtain ⟨rfl, h2, h3⟩ := h1
      obtain ⟨j, rfl⟩ : ∃ j, k = o + j := ⟨k - o, by omega⟩
      rw [foJ_in (by omega), foJ_in (by omega)]
    · rw [foJ_out (by omega), foJ_out (by omega)]
theorem zl2_fillO {ρ : Type} {f : (Mm → Int32 → Option ρ) → Mm → Int32 → Option ρ} (T : Mm) (a o : Nat) (v : Nat → Int32) (n : Nat) (ex : Mm → Option ρ) (hn : n < 100000) (hs : ∀ (r : Mm → Int32 → Option ρ) (i : Nat), i < n → f r (foI T a o v i) (nI i) = r (wI (foI T a o v i) a (o + i) (v i)) (nI (i + 1))) (he : ∀ (r : Mm → Int32 → Option ρ), f r (foI T a o v n) (nI n) = ex (foI T a o v n)) : zl2 f FU T 0 = ex (foI T a o v n) := by
  refine zl2_wp (f := f) (P := fun m U x => ∃ i, x = nI i ∧ i + m = n ∧ U = foI T a o v i) (Q := fun z => z = ex (foI T a o v n)) ?_ FU n T 0 (by rw [FU_eq]; omega) ⟨0, rfl, by omega, foI_0.symm⟩
  rintro m r U x ⟨i, rfl, hi, rfl⟩ hr
  by_cases e : i < n
  · rw [hs r i e, foI_s]
    exact hr (m - 1) _ _ (by omega) ⟨i + 1, rfl, by omega, rfl⟩
  · have : i = n := by omega
    subst this
    exact he r
theorem zl2_fillOJ {ρ : Type} {f : (Mm → Int32 → Option ρ) → Mm → Int32 → Option ρ} (T : Mm) (a o : Nat) (v : Nat → Int64) (n : Nat) (ex : Mm → Option ρ) (hn : n < 100000) (hs : ∀ (r : Mm → Int32 → Option ρ) (i : Nat), i < n → f r (foJ T a o v i) (nI i) = r (wJ (foJ T a o v i) a (o + i) (v i)) (nI (i + 1))) (he : ∀ (r : Mm → Int32 → Option ρ), f r (foJ T a o v n) (nI n) = ex (foJ T a o v n)) : zl2 f FU T 0 = ex (foJ T a o v n) := by
  refine zl2_wp (f := f) (P := fun m U x => ∃ i, x = nI i ∧ i + m = n ∧ U = foJ T a o v i) (Q := fun z => z = ex (foJ T a o v n)) ?_ FU n T 0 (by rw [FU_eq]; omega) ⟨0, rfl, by omega, foJ_0.symm⟩
  rintro m r U x ⟨i, rfl, hi, rfl⟩ hr
  by_cases e : i < n
  · rw [hs r i e, foJ_s]
    exact hr (m - 1) _ _ (by omega) ⟨i + 1, rfl, by omega, rfl⟩
  · have : i = n := by omega
    subst this
    exact he r
def opR (o : List Nat) : Prop := ∀ x, x ∈ o → 20 ≤ x ∧ x < 24
theorem OpM.all {T : Mm} : ∀ {o : List Nat}, OpM T o → opR o
  | [], _ => fun x hx => by cases hx
  | y :: l, h => fun x hx => by
    rcases List.mem_cons.mp hx with rfl | hx
    · exact h.2.1
    · exact OpM.all h.2.2 x hx
theorem ntS_le : ∀ (o : List Nat) (c : Cod) (d : Nat), (ntS o c d).2.2 ≤ d ∧ (opR o → opR (ntS o c d).1)
  | [], c, d => ⟨Nat.le_refl _, fun h => h⟩
  | x :: o, c, d => by
    by_cases e : x = 20
    · subst e
      rw [ntS_20]
      obtain ⟨h1, h2⟩ := ntS_le o ((20, 0, 0) :: c) (d - 1)
      exact ⟨by omega, fun h => h2 (fun y hy => h y (List.mem_cons_of_mem _ hy))⟩
    · rw [ntS_no e]
      exact ⟨Nat.le_refl _, fun h => h⟩
theorem joS_le {m : Nat} : ∀ (o : List Nat) (c : Cod), opR o → opR (joS m o c).1
  | [], c, h => h
  | x :: o, c, h => by
    by_cases e : x = 21 ∨ (x = 22 ∧ m = 22)
    · rw [joS_y e]
      exact joS_le o _ (fun y hy => h y (List.mem_cons_of_mem _ hy))
    · rw [joS_n e]
      exact h
theorem beS_ok {b : Nat → Nat} {L M t ones d : Nat} {o : List Nat} {c : Cod} {w' : Bool} {o' : List Nat} {c' : Cod} {ones' d' t' : Nat} (h : beS b L M o c ones d t = paO (Sum.inl (w', o', c', ones', d', t'))) (hO : opR o) (k : SK true o c ones d) : SK w' o' c' ones' d' := by
  obtain ⟨k1, k2, k3, k4⟩ := k
  rw [if_pos rfl] at k1
  obtain ⟨n1, n2⟩ := ntS_len o c d k3
  obtain ⟨n3, n4⟩ := ntS_le o c d
  have n4' := n4 hO
  unfold beS at h
  generalize ho1 : (ntS o c d).1 = o1 at *
  generalize hc1 : (ntS o c d).2.1 = c1 at *
  generalize hd1 : (ntS o c d).2.2 = d1 at *
  obtain ⟨j1, j2⟩ := joS_len (m := 21) o1 c1
  obtain ⟨j3, j4⟩ := joS_len (m := 22) o1 c1
  by_cases e0 : kkS b L M t = 0 ∧ ¬ M < L
  · rw [if_pos e0] at h
    by_cases e : (joS 22 o1 c1).1 = []
    · rw [if_pos e] at h; cases h
    · rw [if_neg e] at h; cases h
  rw [if_neg e0] at h
  by_cases e12 : kkS b L M t = 4 ∧ vvS b L t = 12
  · rw [if_pos e12] at h
    cases h
    exact ⟨by rw [if_neg Bool.false_ne_true]; simp only [List.length_cons]; omega, k2, by rw [cnS_n (by decide)]; omega, by omega⟩
  rw [if_neg e12] at h
  by_cases e11 : kkS b L M t = 4 ∧ vvS b L t = 11
  · rw [if_pos e11] at h
    cases h
    exact ⟨by rw [if_neg Bool.false_ne_true]; simp only [List.length_cons]; omega, k2, by rw [cnS_n (by decide)]; omega, by omega⟩
  rw [if_neg e11] at h
  by_cases e41 : (kkS b L M t = 5 ∧ vvS b L t = 41) ∧ (joS 22 o1 c1).1 ≠ []
  · rw [if_pos e41] at h
    have hr := joS_le (m := 22) o1 c1 n4'
    cases h
    generalize ho2 : (joS 22 o1 c1).1 = o2 at *
    cases o2 with
    | nil => exact absurd rfl e41.2
    | cons x l =>
      have ht := joS_top ho2
      have hx := hr x (List.mem_cons_self ..)
      rw [cnS_y (by omega)] at j4
      simp only [List.length_cons, List.tail_cons] at *
      exact ⟨by rw [if_pos rfl]; omega, k2, by omega, by omega⟩
  · rw [if_neg e41] at h; cases h
theorem m_sLoop {R : Rf} {b : Nat → Nat} {L M n : Nat} {F : Nat → Nat} {N : Nat → List Nat} (hr : RM R) (hv : VF F) (hN : NW F N) (hn0 : kkS b L M n = 0) (hn : n ≤ 940) : ∀ (m fuel : Nat) (T : Mm) (w : Bool) (o : List Nat) (c : Cod) (ones d t : Nat), MF T F → NM T F N → CuM T b L M t → SM T o c ones d → T.1 105 45 = (if w = true then 1 else 0) → SK w o c ones d → t ≤ n → 942 ≤ m + t → m + 1 < fuel → (∃ k p V, ruS b L M F N m (w, o, c, ones, d, t) = paB k p ∧ zl2 (pX12_sentence_48 R 105 (pX12_sentence_83 R 105) (pX12_sentence_115 R 105) (pX12_sentence_125 R 105) (pX12_sentence_132 R 105)) fuel T 1 = some (-1 - nI p, V) ∧ FG T V ∧ V.1 105 15 = nI k) ∨ ∃ c' ones' d' V, ruS b L M F N m (w, o, c, ones, d, t) = paO (c', ones') ∧ zl2 (pX12_sentence_48 R 105 (pX12_sentence_83 R 105) (pX12_sentence_115 R 105) (pX12_sentence_125 R 105) (pX12_sentence_132 R 105)) fuel T 1 = pX12_sentence_132 R 105 V ∧ FG T V ∧ V.1 105 15 = T.1 105 15 ∧ SM V [] c' ones' d' ∧ c'.length ≤ 40 := by
  intro m
  induction m with
  | zero => intro fuel T w o c ones d t _ _ _ _ _ _ ht hm _; omega
  | succ m ih =>
    intro fuel T w o c ones d t hF hnm hc h h45 hk ht hm hf
    cases fuel with
    | zero => omega
    | succ fuel =>
      obtain ⟨k1, k2, k3, k4⟩ := id hk
      have next : ∀ (u : Int32) (V : Mm) (w' : Bool) (o' : List Nat) (c' : Cod) (ones' d' t' : Nat), FG T V → V.1 105 15 = T.1 105 15 → V.1 105 45 = (if w' = true then 1 else 0) → SM V o' c' ones' d' → CuM V b L M t' → AV b L M t t' → SK w' o' c' ones' d' → (∃ k p V', ruS b L M F N m (w', o', c', ones', d', t') = paB k p ∧ zl2 (pX12_sentence_48 R 105 (pX12_sentence_83 R 105) (pX12_sentence_115 R 105) (pX12_sentence_125 R 105) (pX12_sentence_132 R 105)) fuel V 1 = some (-1 - nI p, V') ∧ FG T V' ∧ V'.1 105 15 = nI k) ∨ ∃ c2 ones2 d2 V', ruS b L M F N m (w', o', c', ones', d', t') = paO (c2, ones2) ∧ zl2 (pX12_sentence_48 R 105 (pX12_sentence_83 R 105) (pX12_sentence_115 R 105) (pX12_sentence_125 R 105) (pX12_sentence_132 R 105)) fuel V 1 = pX12_sentence_132 R 105 V' ∧ FG T V' ∧ V'.1 105 15 = T.1 105 15 ∧ SM V' [] c2 ones2 d2 ∧ c2.length ≤ 40 := by
        intro u V w' o' c' ones' d' t' a1 a2 a3 a4 a5 a6 a7
        have := a6.1
        rcases ih fuel V w' o' c' ones' d' t' (fun k hk => by rw [a1.1 107 (by decide) (by decide) (by decide)]; exact hF k hk) (hnm.of (a1.2.1 110 (by decide))) a5 a4 a3 a7 (a6.2 n hn0 ht) (by omega) (by omega) with ⟨k, p, V', y1, y2, y3, y4⟩ | ⟨c2, ones2, d2, V', y1, y2, y3, y4, y5, y6⟩
        · exact Or.inl ⟨k, p, V', y1, y2, a1.trans y3, y4⟩
        · exact Or.inr ⟨c2, ones2, d2, V', y1, y2, a1.trans y3, by rw [y4, a2], y5, y6⟩
      rw [zl2_s, ruS_succ]
      unfold pX12_sentence_48
      rw [if10]
      cases w with
      | false =>
        have h45' : T.1 105 45 = 0 := h45
        rw [if_neg Bool.false_ne_true] at k1
        unfold pX12_sentence_101
        rw [h45', if00, if00, stS_w]
        obtain ⟨u, V, a1, a2, a3⟩ := m_operandS (R := R) hr hv hN hF hnm hc h h45' (by omega) k2 (by omega)
        rw [a1, bd2_some]
        rcases a3 with ⟨k, p, z1, z2, z3, z4⟩ | ⟨w', o', c', ones', d', t', z1, z2, z3, z4, z5, z6, z7⟩
        · rw [z1, paD_b, paD_b, z2, if_pos rfl]
          unfold pX12_sentence_125
          rw [z4]
          exact Or.inl ⟨k, p, V, rfl, rfl, a2, z3⟩
        · rw [z1, paD_o, paD_o, z2, if10]
          exact next u V w' o' c' ones' d' t' a2 z3 z4 z5 z6 z7 (opS_ok z1 hk)
      | true =>
        have h45' : T.1 105 45 = 1 := h45
        rw [if_pos rfl] at k1
        rw [h45', if10, stS_b]
        obtain ⟨_, _, _, t4⟩ := hc.t1
        by_cases e0 : kkS b L M t = 0 ∧ ¬ M < L
        · rw [if_pos (t4.mpr e0)]
          unfold beS
          rw [if_pos e0]
          obtain ⟨n1, n2⟩ := ntS_len o c d k3
          obtain ⟨V, v1, v2, v3, v4, v5, v6⟩ := m_notsS hr hc h (by omega) k3
          obtain ⟨W, w1, w2, w3, w4, w5, w6⟩ := m_joinsS (R := R) (x := 22) (m := 22) hr v3 v2 (by omega) (by omega) rfl
          obtain ⟨n3, _⟩ := joS_len (m := 22) (ntS o c d).1 (ntS o c d).2.1
          rw [v1, bd1_some, w1, bd1_some, w2.1]
          generalize ho2 : (joS 22 (ntS o c d).1 (ntS o c d).2.1).1 = o2 at *
          generalize hc2 : (joS 22 (ntS o c d).1 (ntS o c d).2.1).2 = c2 at *
          cases o2 with
          | nil =>
            rw [if_pos (show nI ([] : List Nat).length ≤ 0 by decide), if_pos rfl, paD_o]
            cases fuel with
            | zero => omega
            | succ fuel =>
              rw [zl2_s, if_pos rfl]
              exact Or.inr ⟨c2, ones, _, W, rfl, rfl, v4.trans w4, by rw [w5, v5], w2, by simp only [List.length_nil] at n3; omega⟩
          | cons x l =>
            simp only [List.length_cons] at n3
            rw [if_neg (show ¬ nI (x :: l).length ≤ 0 from fun z => by have := (nI_leI (b := 0) (by simp only [List.length_cons]; omega) (by omega)).mp z; simp only [List.length_cons] at this; omega), if_neg (fun z => by cases z), paD_b]
            unfold pX12_sentence_83
            rw [m_bad1 w3, bd2_some, flm_16]
            exact Or.inl ⟨1, _, _, rfl, rfl, (v4.trans w4).fl, flm_15⟩
        · rw [if_neg (fun z => e0 (t4.mp z))]
          unfold pX12_sentence_101
          rw [h45', if10]
          obtain ⟨u, V, a1, a2, a3⟩ := m_behindS (R := R) hr hc h h45' (by omega) k3 e0
          rw [a1, bd2_some]
          rcases a3 with ⟨k, p, z1, z2, z3, z4⟩ | ⟨w', o', c', ones', d', t', z1, z2, z3, z4, z5, z6, z7⟩
          · rw [z1, paD_b, z2, if_pos rfl]
            unfold pX12_sentence_115 pX12_sentence_125
            rw [z4]
            exact Or.inl ⟨k, p, V, rfl, rfl, a2, z3⟩
          · rw [z1, paD_o, z2, if10]
            exact next u V w' o' c' ones' d' t' a2 z3 z4 z5 z6 z7 (beS_ok z1 h.2.1.all hk)
/-- the codes in the reference's row -/
def SW (T : Mm) (o : Nat) (a : Nat) : Cod → Prop
  | [] => True
  | y :: l => T.1 a (o + 3 * l.length) = nI y.1 ∧ T.1 a (o + 3 * l.length + 1) = nI y.2.1 ∧ T.1 a (o + 3 * l.length + 2) = nI y.2.2 ∧ SW T o a l
theorem SW.of {T V : Mm} {o a o' a' : Nat} : ∀ {c : Cod}, SW T o a c → (∀ k, k < 3 * c.length → V.1 a' (o' + k) = T.1 a (o + k)) → SW V o' a' c
  | [], _, _ => trivial
  | y :: l, h, e => by
    obtain ⟨h1, h2, h3, h4⟩ := h
    simp only [List.length_cons] at e
    exact ⟨by rw [e _ (by omega)]; exact h1, by rw [Nat.add_assoc, e _ (by omega), ← Nat.add_assoc]; exact h2, by rw [Nat.add_assoc, e _ (by omega), ← Nat.add_assoc]; exact h3, SW.of h4 (fun k hk => e k (by omega))⟩
theorem CdM.sw {T V : Mm} : ∀ {c : Cod}, CdM T c → (∀ k, k < 3 * c.length → V.1 107 (90 + k) = T.1 109 k) → SW V 90 107 c
  | [], _, _ => trivial
  | y :: l, h, e => by
    obtain ⟨h1, h2, h3, h4⟩ := h
    simp only [List.length_cons] at e
    exact ⟨by rw [e _ (by omega)]; exact h1, by rw [Nat.add_assoc, e _ (by omega)]; exact h2, by rw [Nat.add_assoc, e _ (by omega)]; exact h3, CdM.sw h4 (fun k hk => e k (by omega))⟩
def FSm (T V : Mm) : Prop := (∀ a, a ≠ 105 → a ≠ 107 → a ≠ 109 → a ≠ 119 → V.1 a = T.1 a) ∧ (∀ a, a ≠ 105 → V.2 a = T.2 a) ∧ (∀ k, k ≠ 0 → ¬ (2 ≤ k ∧ k ≤ 5) → ¬ (11 ≤ k ∧ k ≤ 16) → k ≠ 18 → ¬ (41 ≤ k ∧ k ≤ 45) → V.1 105 k = T.1 105 k) ∧ V.1 105 0 = 0 ∧ V.1 105 2 = 0 ∧ ∀ k, k < 89 → V.1 107 k = T.1 107 k
theorem m_sentW {R : Rf} {T : Mm} {b : Nat → Nat} {L n : Nat} {F : Nat → Nat} {N : Nat → List Nat} (hr : RM R) (hv : VF F) (hN : NW F N) (hF : MF T F) (hnm : NM T F N) (hL : L ≤ 940) (h2 : T.1 105 2 = nI L) (hb : ∀ k, k < L → b k < 256 ∧ T.1 106 k &&& 255 = nI (b k)) (hkw : ∀ k, k < 24 → T.2 111 k = w8 (kwk k)) (hn0 : kkS b L 200 n = 0) (hn : n ≤ 940) : (∃ k p V, ruS b L 200 F N 942 (false, [], [], 0, 1, 0) = paB k p ∧ pX12_sentence R T 105 = some (-1 - nI p, V) ∧ FSm T V ∧ V.1 105 15 = nI k ∧ V.1 107 = T.1 107) ∨ ∃ c ones V, ruS b L 200 F N 942 (false, [], [], 0, 1, 0) = paO (c, ones) ∧ pX12_sentence R T 105 = some (nI ones, V) ∧ FSm T V ∧ V.1 105 15 = 0 ∧ V.1 107 89 = nI c.length ∧ SW V 90 107 c := by
  obtain ⟨r1, r6, r7, r8, r9, r10, r21, r22, r28, r32, r33, r34, r38, r40, r46, r47, r48, r49⟩ := id hr
  unfold pX12_sentence pX12_taken
  simp only [lt]
  rw [bd1_some]
  generalize hU : wI (wI (wI (wI (wI (wI (wI (wI (wI (wI (wI T 105 0 0) 105 3 ((wI T 105 0 0).1 105 2)) 105 2 0) 105 4 0) 105 5 200) 105 15 0) 105 41 0) 105 42 0) 105 43 0) 105 44 1) 105 45 0 = U
  have u105 : ∀ k, k ≠ 0 → k ≠ 3 → k ≠ 2 → k ≠ 4 → k ≠ 5 → k ≠ 15 → ¬ (41 ≤ k ∧ k ≤ 45) → U.1 105 k = T.1 105 k := by
    intro k h0 h3 h2 h4 h5 h15 h41
    rw [← hU]
    simp (disch := omega) only [wI_n]
  have uo : ∀ a, a ≠ 105 → U.1 a = T.1 a := by
    intro a h1
    rw [← hU]
    simp only [wI_1]
    rw [up2_row h1, up2_row h1, up2_row h1, up2_row h1, up2_row h1, up2_row h1, up2_row h1, up2_row h1, up2_row h1, up2_row h1, up2_row h1]
  have u2 : U.2 = T.2 := by rw [← hU]; rfl
  have v0 : U.1 105 0 = 0 := by rw [← hU]; simp (disch := omega) only [wI_n, wI_s]
  have v2 : U.1 105 2 = 0 := by rw [← hU]; simp (disch := omega) only [wI_n, wI_s]
  have v3 : U.1 105 3 = nI L := by rw [← hU]; simp (disch := omega) only [wI_n, wI_s]; exact h2
  have v4 : U.1 105 4 = nI 0 := by rw [← hU]; simp (disch := omega) only [wI_n, wI_s]; rfl
  have v5 : U.1 105 5 = nI 200 := by rw [← hU]; simp (disch := omega) only [wI_n, wI_s]; rfl
  have v15 : U.1 105 15 = 0 := by rw [← hU]; simp (disch := omega) only [wI_n, wI_s]
  have v41 : U.1 105 41 = 0 := by rw [← hU]; simp (disch := omega) only [wI_n, wI_s]
  have v42 : U.1 105 42 = 0 := by rw [← hU]; simp (disch := omega) only [wI_n, wI_s]
  have v43 : U.1 105 43 = 0 := by rw [← hU]; simp (disch := omega) only [wI_n, wI_s]
  have v44 : U.1 105 44 = 1 := by rw [← hU]; simp (disch := omega) only [wI_n, wI_s]
  have v45 : U.1 105 45 = 0 := by rw [← hU]; simp (disch := omega) only [wI_s]
  have hXM : XM U b L 200 := ⟨hL, by omega, v3, v5, fun k hk => by rw [uo 106 (by decide)]; exact hb k hk⟩
  obtain ⟨W, w1, w2, w3⟩ := m_next (R := R) r1 hXM v4 (by omega)
  rw [w1, bd1_some]
  have hCu : CuM W b L 200 0 := ⟨hXM.fx w2, Nat.zero_le _, w3, fun k hk => by rw [(w2.1 111 (by decide)).2, u2]; exact hkw k hk⟩
  have hSM : SM W [] [] 0 1 := (show SM U [] [] 0 1 from ⟨v43, trivial, v41, trivial, v42, v44⟩).fx w2
  have fr : ∀ X, FG W X → (∀ a, a ≠ 105 → a ≠ 109 → a ≠ 119 → X.1 a = T.1 a) ∧ FSm T X := fun X hX => by
    have g1 : ∀ a, a ≠ 105 → a ≠ 109 → a ≠ 119 → X.1 a = T.1 a := fun a h1 h2 h3 => by rw [hX.1 a h1 h2 h3, (w2.1 a h1).1, uo a h1]
    refine ⟨g1, fun a h1 h2 h3 h4 => g1 a h1 h3 h4, fun a h1 => by rw [hX.2.1 a h1, (w2.1 a h1).2, u2], fun k h0 h2 h11 h18 h41 => ?_, ?_, ?_, fun k hk => by rw [g1 107 (by decide) (by decide) (by decide)]⟩
    · rw [hX.2.2 k (by omega) h11 h18 h41, w2.2.1 k (by omega) (by omega) (by omega) (by omega) (by omega), u105 k h0 (by omega) (by omega) (by omega) (by omega) (by omega) h41]
    · rw [hX.2.2 0 (by decide) (by decide) (by decide) (by decide), w2.2.1 0 (by decide) (by decide) (by decide) (by decide) (by decide), v0]
    · rw [hX.2.2 2 (by decide) (by decide) (by decide) (by decide), w2.2.1 2 (by decide) (by decide) (by decide) (by decide) (by decide), v2]
  rcases m_sLoop (b := b) (L := L) (M := 200) (n := n) hr hv hN hn0 hn 942 FU W false [] [] 0 1 0 (fun k hk => by rw [(w2.1 107 (by decide)).1, uo 107 (by decide)]; exact hF k hk) (hnm.of (by rw [(w2.1 110 (by decide)).2, u2])) hCu hSM (by rw [w2.f45, v45]; rfl) ⟨by decide, by decide, by decide, by decide⟩ (Nat.zero_le _) (by omega) (by decide) with ⟨k, p, X, y1, y2, y3, y4⟩ | ⟨c, ones, d, X, y1, y2, y3, y4, y5, y6⟩
  · obtain ⟨g1, g2⟩ := fr X y3
    exact Or.inl ⟨k, p, X, y1, y2, g2, y4, g1 107 (by decide) (by decide) (by decide)⟩
  · right
    obtain ⟨g1, g2⟩ := fr X y3
    obtain ⟨s43, sO, s41, sC, s42, s44⟩ := y5
    rw [y2]
    unfold pX12_sentence_132
    simp (disch := omega) only [ix_lit, lit_clamp, lt]
    rw [r6, s41]
    generalize hY : wI X 107 89 (nI c.length) = Y
    have yo : ∀ a, a ≠ 107 → Y.1 a = X.1 a := fun a ha => by rw [← hY, wI_1, up2_row ha]
    rw [zl2_fillO Y 107 90 (fun i => Y.1 109 i) (3 * c.length) (pX12_sentence_176 R 105) (by omega) ?_ ?_]
    · unfold pX12_sentence_176
      refine ⟨c, ones, foI Y 107 90 (fun i => Y.1 109 i) (3 * c.length), y1, ?_, ⟨fun a h1 h2 h3 h4 => ?_, fun a ha => ?_, fun k h0 h2 h11 h18 h41 => ?_, ?_, ?_, fun k hk => ?_⟩, ?_, ?_, ?_⟩
      · rw [foI_o (by decide), yo 105 (by decide), s42]
      · rw [foI_o h2, yo a h2, g2.1 a h1 h2 h3 h4]
      · show Y.2 a = _
        rw [← hY]; exact g2.2.1 a ha
      · rw [foI_o (by decide), yo 105 (by decide), g2.2.2.1 k h0 h2 h11 h18 h41]
      · rw [foI_o (by decide), yo 105 (by decide), g2.2.2.2.1]
      · rw [foI_o (by decide), yo 105 (by decide), g2.2.2.2.2.1]
      · rw [foI_out (by omega), ← hY, wI_n (Or.inr (by omega)), g2.2.2.2.2.2 k hk]
      · rw [foI_o (by decide), yo 105 (by decide), y4, w2.f15, v15]
      · rw [foI_out (by omega), ← hY, wI_s]
      · exact sC.sw (fun k hk => by rw [foI_in hk, yo 109 (by decide)])
    · intro r i hi
      unfold pX12_sentence_145
      rw [foI_o (by decide), yo 105 (by decide), s41, lit_mul, if_neg (show ¬ nI (3 * c.length) ≤ nI i from fun z => by have := (nI_leI (by omega) (by omega)).mp z; omega), lit_add, ix_nI (by omega) (by decide), ix_nI (by omega) (by decide), nI_clamp (by omega), nI_clamp (by omega), r6, r8, foI_o (by decide)]
      simp only [lt]
      rw [nI_1]
    · intro r
      unfold pX12_sentence_145
      rw [foI_o (by decide), yo 105 (by decide), s41, lit_mul, if_pos ((nI_leI (by omega) (by omega)).mpr (Nat.le_refl _))]
