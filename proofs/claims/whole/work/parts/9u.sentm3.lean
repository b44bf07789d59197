/-! a SENTENCE: the reference's operand -/
theorem SM.fx {T V : Mm} {o : List Nat} {c : Cod} {ones d : Nat} (h : SM T o c ones d) (f : FX T V) : SM V o c ones d := by
  obtain ⟨h43, hO, h41, hC, h42, h44⟩ := h
  exact ⟨(f.2.1 43 (by decide) (by decide) (by decide) (by decide) (by decide)).trans h43, hO.of (fun k _ => by rw [(f.1 119 (by decide)).1]), (f.2.1 41 (by decide) (by decide) (by decide) (by decide) (by decide)).trans h41, hC.of (fun k _ => by rw [(f.1 109 (by decide)).1]), (f.2.1 42 (by decide) (by decide) (by decide) (by decide) (by decide)).trans h42, (f.2.1 44 (by decide) (by decide) (by decide) (by decide) (by decide)).trans h44⟩
theorem SM.ones {T : Mm} {o : List Nat} {c : Cod} {ones d e : Nat} (h : SM T o c ones d) : SM (wI T 105 42 (nI e)) o c e d := by
  obtain ⟨h43, hO, h41, hC, h42, h44⟩ := h
  exact ⟨(wI_n (Or.inr (by decide))).trans h43, hO.of (fun k _ => wI_n (Or.inl (by decide))), (wI_n (Or.inr (by decide))).trans h41, hC.of (fun k _ => wI_n (Or.inl (by decide))), wI_s, (wI_n (Or.inr (by decide))).trans h44⟩
theorem SM.o5 {T : Mm} {o : List Nat} {c : Cod} {ones d k : Nat} {v : Int32} (h : SM T o c ones d) (hk : k = 18 ∨ k = 45) : SM (wI T 105 k v) o c ones d := by
  obtain ⟨h43, hO, h41, hC, h42, h44⟩ := h
  exact ⟨(wI_n (Or.inr (by omega))).trans h43, hO.of (fun k _ => wI_n (Or.inl (by decide))), (wI_n (Or.inr (by omega))).trans h41, hC.of (fun k _ => wI_n (Or.inl (by decide))), (wI_n (Or.inr (by omega))).trans h42, (wI_n (Or.inr (by omega))).trans h44⟩
theorem SM.push {T : Mm} {o : List Nat} {c : Cod} {ones d x : Nat} (h : SM T o c ones d) (hx : 20 ≤ x ∧ x < 24) : SM (wI (wI T 119 o.length (nI x)) 105 43 (nI (o.length + 1))) (x :: o) c ones d := by
  obtain ⟨h43, hO, h41, hC, h42, h44⟩ := h
  refine ⟨wI_s, ⟨?_, hx, hO.of (fun k hk => ?_)⟩, ?_, hC.of (fun k _ => ?_), ?_, ?_⟩
  · rw [wI_n (Or.inl (by decide)), wI_s]
  · rw [wI_n (Or.inl (by decide)), wI_n (Or.inr (by omega))]
  · rw [wI_n (Or.inr (by decide)), wI_n (Or.inl (by decide))]; exact h41
  · rw [wI_n (Or.inl (by decide)), wI_n (Or.inl (by decide))]
  · rw [wI_n (Or.inr (by decide)), wI_n (Or.inl (by decide))]; exact h42
  · rw [wI_n (Or.inr (by decide)), wI_n (Or.inl (by decide))]; exact h44
theorem FX.f45 {T V : Mm} (h : FX T V) : V.1 105 45 = T.1 105 45 := h.2.1 45 (by decide) (by decide) (by decide) (by decide) (by decide)
/-- no TOKEN is passed over that is the end -/
def AV (b : Nat → Nat) (L M t t' : Nat) : Prop := t < t' ∧ ∀ n, kkS b L M n = 0 → t ≤ n → t' ≤ n
theorem AV.s {b : Nat → Nat} {L M t : Nat} (h : kkS b L M t ≠ 0) : AV b L M t (t + 1) := ⟨Nat.lt_succ_self t, fun n h1 h2 => Nat.lt_of_le_of_ne h2 (fun e => h (by rw [e]; exact h1))⟩
theorem AV.n {b : Nat → Nat} {L M t u : Nat} (a : AV b L M t u) (h : kkS b L M u ≠ 0) : AV b L M t (u + 1) := ⟨Nat.lt_succ_of_lt a.1, fun n h1 h2 => (AV.s h).2 n h1 (a.2 n h1 h2)⟩
def MO (b : Nat → Nat) (L M : Nat) (T : Mm) (t : Nat) (out : Option (Int32 × Mm)) (r : Pa SSt) : Prop := ∃ u V, out = some (u, V) ∧ FG T V ∧ ((∃ k p, r = paB k p ∧ u = 0 ∧ V.1 105 15 = nI k ∧ V.1 105 16 = nI p) ∨ ∃ w o c ones d t', r = paO (w, o, c, ones, d, t') ∧ u = 1 ∧ V.1 105 15 = T.1 105 15 ∧ V.1 105 45 = (if w = true then 1 else 0) ∧ SM V o c ones d ∧ CuM V b L M t' ∧ AV b L M t t')
theorem MO.fl {b : Nat → Nat} {L M : Nat} {T U : Mm} {t k p : Nat} (h : FG T U) : MO b L M T t (some (0, flm U k p)) (paB k p) := ⟨0, _, rfl, h.fl, Or.inl ⟨k, p, rfl, rfl, flm_15, flm_16⟩⟩
theorem m_leafOf {R : Rf} {T : Mm} {b : Nat → Nat} {L M t : Nat} (h : CuM T b L M t) : pX12_leafOf R T 105 = some (if kkS b L M t = 4 ∧ 14 ≤ vvS b L t then nI (vvS b L t - 14) else -1) := by
  unfold pX12_leafOf
  rw [m_isWordK (k := 14) h (by omega) (by decide), m_isWordK (k := 15) h (by omega) (by decide), m_isWordK (k := 16) h (by omega) (by decide), m_isWordK (k := 17) h (by omega) (by decide), m_isWordK (k := 18) h (by omega) (by decide), m_isWordK (k := 19) h (by omega) (by decide), m_isWordK (k := 20) h (by omega) (by decide), m_isWordK (k := 21) h (by omega) (by decide), m_isWordK (k := 22) h (by omega) (by decide), m_isWordK (k := 23) h (by omega) (by decide)]
  simp only [bd1_some, ifI]
  by_cases e : kkS b L M t = 4 ∧ 14 ≤ vvS b L t
  · have h4 := e.1
    have hv : vvS b L t < 24 := (kw_some ((kk_word (Or.inr h4)).2.2 h4)).1
    rw [if_pos e]
    have : vvS b L t = 14 ∨ vvS b L t = 15 ∨ vvS b L t = 16 ∨ vvS b L t = 17 ∨ vvS b L t = 18 ∨ vvS b L t = 19 ∨ vvS b L t = 20 ∨ vvS b L t = 21 ∨ vvS b L t = 22 ∨ vvS b L t = 23 := by omega
    rcases this with e' | e' | e' | e' | e' | e' | e' | e' | e' | e' <;> rw [e', h4] <;> rfl
  · rw [if_neg e, if_neg (fun z => e ⟨z.1, by omega⟩), if_neg (fun z => e ⟨z.1, by omega⟩), if_neg (fun z => e ⟨z.1, by omega⟩), if_neg (fun z => e ⟨z.1, by omega⟩), if_neg (fun z => e ⟨z.1, by omega⟩), if_neg (fun z => e ⟨z.1, by omega⟩), if_neg (fun z => e ⟨z.1, by omega⟩), if_neg (fun z => e ⟨z.1, by omega⟩), if_neg (fun z => e ⟨z.1, by omega⟩), if_neg (fun z => e ⟨z.1, by omega⟩)]
theorem m_op84 {R : Rf} {T V : Mm} {b : Nat → Nat} {L M t ones d x : Nat} {x1 : Int32} {o : List Nat} {c : Cod} (hr : RM R) (f : FG T V) (h15 : V.1 105 15 = T.1 105 15) (h45 : V.1 105 45 = 0) (hc : CuM V b L M (t + 1)) (h : SM V o c ones d) (hl : o.length < 45) (hd : d < 100) (hk : kkS b L M t ≠ 0) (ex : (x = 20 ∧ x1 = 1) ∨ (x = 23 ∧ x1 = 0)) : MO b L M T t (pX12_operand_84 R 105 V x1) (paO (false, x :: o, c, ones, d + 1, t + 1)) := by
  obtain ⟨h43, hO, h41, hC, h42, h44⟩ := id h
  have e84 : pX12_operand_84 R 105 V x1 = pX12_operand_103 R 105 V 119 (nI o.length) (nI x) := by
    unfold pX12_operand_84
    rw [hr.2.2.2.2.2.2.2.2.2.2.2.2.2.1, h43]
    rcases ex with ⟨rfl, rfl⟩ | ⟨rfl, rfl⟩
    · rw [if10]; rfl
    · rw [if00]; rfl
  rw [e84]
  unfold pX12_operand_103
  rw [ix_nI hl (by decide), nI_clamp (by omega)]
  simp only [lt]
  rw [wI_n (Or.inl (by decide)), h43, nI_1, wI_n (Or.inr (by decide)), wI_n (Or.inl (by decide)), h44, nI_1]
  refine ⟨1, _, rfl, (((f.wa (by omega)).w (by omega)).w (by omega)), Or.inr ⟨_, _, _, _, _, _, rfl, rfl, ?_, ?_, (h.push (by omega)).deep, ((hc.wa (by decide) (by decide)).w6 (by omega)).w6 (by omega), AV.s hk⟩⟩
  · rw [wI_n (Or.inr (by decide)), wI_n (Or.inr (by decide)), wI_n (Or.inl (by decide)), h15]
  · rw [wI_n (Or.inr (by decide)), wI_n (Or.inr (by decide)), wI_n (Or.inl (by decide)), h45]; rfl
/-- behind the first word of an operand that is no not and no bracket -/
theorem m_opLeaf {R : Rf} {T V : Mm} {b : Nat → Nat} {L M t ones d : Nat} {F : Nat → Nat} {N : Nat → List Nat} {o : List Nat} {c : Cod} (hr : RM R) (hv : VF F) (hN : NW F N) (hF : MF V F) (hn : NM V F N) (f : FG T V) (h15 : V.1 105 15 = T.1 105 15) (hc : CuM V b L M (t + 1)) (h : SM V o c ones d) (hl : c.length < 45) (hk : kkS b L M t ≠ 0) {x3 : Int32} (a : Nat) (ex : x3 = nI a) (ha : a < 10) : MO b L M T t (lt (wI V 105 45 1) (fun (T10 : Mm) => if 5 ≤ x3 then if 6 ≤ x3 then if (T10.1 105 11) = 3 then if (T10.1 105 14) < 60 then pX12_operand_209 R 105 T10 else if (T10.1 105 14) ≤ 62 then lt (T10.1 105 14) (fun (v12 : Int32) => bd1 (pX12_next R T10 105) (fun (T13 : Mm) => if (T13.1 105 11) = 2 then bd1 (pX12_code R T13 105 x3 v12 (T13.1 105 14)) (fun (T14 : Mm) => bd1 (pX12_next R T14 105) (fun (T15 : Mm) => some (1, T15))) else bd2 (pX12_bad R T13 105 1) (fun (u16 : Int32) (T16 : Mm) => bz u16 (some (u16, T16))))) else pX12_operand_209 R 105 T10 else pX12_operand_209 R 105 T10 else ix 1 270 (bd2 (pX12_looksAt R T10 105 5 (T10.1 (R 105 6) (1 : Int32).toNatClampNeg)) (fun (u17 : Int32) (T17 : Mm) => if u17 = 0 then some (0, T17) else bd1 (pX12_code R T17 105 x3 0 (T17.1 105 18)) (fun (T18 : Mm) => bd1 (pX12_next R T18 105) (fun (T19 : Mm) => some (1, T19))))) else bd1 (pX12_code R T10 105 x3 0 0) (fun (T20 : Mm) => some (1, T20)))) (if a < 5 then paO (true, o, (a, 0, 0) :: c, ones, d, t + 1) else if a = 5 then paD (naP b L M (t + 1) (fnI F N (wwS b L (t + 1)))) fun i => paO (true, o, (5, 0, i) :: c, ones, d, t + 2) else if kkS b L M (t + 1) = 5 ∧ 60 ≤ vvS b L (t + 1) ∧ vvS b L (t + 1) ≤ 62 then paD (nuP b L M (t + 2) 0 999) fun v => paO (true, o, (a, vvS b L (t + 1), v) :: c, ones, d, t + 3) else paB 1 (psS b L M (t + 1))) := by
  subst ex
  obtain ⟨v0, v1, v2, v3, v4, v5, v6, vs, vo, vj⟩ := id hv
  simp only [lt]
  generalize hU : wI V 105 45 1 = U
  have uC : CuM U b L M (t + 1) := by rw [← hU]; exact hc.w6 (by omega)
  have uS : SM U o c ones d := by rw [← hU]; exact h.o5 (by omega)
  have uF : FG T U := by rw [← hU]; exact f.w (by omega)
  have u15 : U.1 105 15 = T.1 105 15 := by rw [← hU, wI_n (Or.inr (by decide)), h15]
  have u45 : U.1 105 45 = 1 := by rw [← hU, wI_s]
  have uM : MF U F := fun k hk => by rw [← hU, wI_n (Or.inl (by decide))]; exact hF k hk
  have uN : NM U F N := hn.of (by rw [← hU]; rfl)
  simp (disch := omega) only [lit_le]
  by_cases a5 : a < 5
  · rw [if_pos a5, if_neg (by omega)]
    obtain ⟨W, w1, w2, w3, w4, w5, w6⟩ := m_code (R := R) (a := a) (x := 0) (v := 0) (w := nI a) (y := 0) (z := 0) hr.2.2.2.1 uC uS hl rfl rfl rfl
    rw [w1, bd1_some]
    exact ⟨1, W, rfl, uF.trans w4, Or.inr ⟨_, _, _, _, _, _, rfl, rfl, by rw [w5, u15], by rw [w6, u45]; rfl, w2, w3, AV.s hk⟩⟩
  · rw [if_neg a5, if_pos (by omega)]
    by_cases a6 : a = 5
    · rw [if_pos a6, if_neg (by omega)]
      simp (disch := omega) only [ix_lit, lit_clamp]
      rw [hr.2.1, uM 1 (by omega)]
      obtain ⟨i, o1, o2, o3, o4⟩ | ⟨k, p, X, o1, o2, o3⟩ := m_look (x := 5) (y := nI (F 1)) (base := 5) (cnt := F 1) (N := fun i => N (5 + i)) hr uC rfl rfl (by omega) hN.2 uN.2
      · have o1' : naP b L M (t + 1) (fnI F N (wwS b L (t + 1))) = paO i := o1
        rw [o4, bd2_some, if10, wI_s, o1', paD_o]
        obtain ⟨W, w1, w2, w3, w4, w5, w6⟩ := m_code (R := R) (a := a) (x := 0) (v := i) (w := nI a) (y := 0) (z := nI i) hr.2.2.2.1 (uC.w6 (k := 18) (v := nI i) (by omega)) (uS.o5 (Or.inl rfl)) hl rfl rfl rfl
        obtain ⟨Y, y1, y2, y3⟩ := m_nextS (R := R) hr.1 w3 (by omega)
        rw [w1, bd1_some, y1, bd1_some]
        subst a6
        exact ⟨1, Y, rfl, ((uF.w (by omega)).trans w4).x y2, Or.inr ⟨_, _, _, _, _, _, rfl, rfl, by rw [y2.f15, w5, wI_n (Or.inr (by decide)), u15], by rw [y2.f45, w6, wI_n (Or.inr (by decide)), u45]; rfl, w2.fx y2, y3, (AV.s hk).n (by omega)⟩⟩
      · have o1' : naP b L M (t + 1) (fnI F N (wwS b L (t + 1))) = paB k p := o1
        rw [o1', paD_b, o2, bd2_some, if_pos rfl]
        rcases o3 with rfl | rfl
        · exact MO.fl uF
        · exact MO.fl (uF.w (by omega))
    · rw [if_neg a6, if_pos (by omega)]
      have e209 : pX12_operand_209 R 105 U = some (0, flm U 1 (psS b L M (t + 1))) := by
        unfold pX12_operand_209
        rw [m_bad1 uC, bd2_some, bz_0]
      rw [e209]
      obtain ⟨_, _, t3, _⟩ := uC.t1
      by_cases e5 : kkS b L M (t + 1) = 5
      · have hv14 := (uC.tok.2.2.2.2.2.1 e5).2
        have hlt := mk_lt (kk_mark e5)
        rw [if_pos (t3.mpr e5), hv14]
        simp (disch := omega) only [lt_lit, le_lit]
        by_cases e60 : vvS b L (t + 1) < 60
        · rw [if_pos e60, if_neg (by omega)]
          exact MO.fl uF
        · rw [if_neg e60]
          by_cases e62 : vvS b L (t + 1) ≤ 62
          · rw [if_pos e62, if_pos ⟨e5, by omega, e62⟩]
            obtain ⟨X, x1, x2, x3⟩ := m_nextS (R := R) hr.1 uC (by omega)
            rw [x1, bd1_some]
            obtain ⟨_, t2, _, _⟩ := x3.t1
            unfold nuP
            by_cases e2 : kkS b L M (t + 1 + 1) = 2
            · have hnum := kk_num e2
              rw [if_pos (t2.mpr e2), (x3.tok.2.2.2.1 e2).2, if_pos e2, if_pos ⟨Nat.zero_le _, hnum⟩, paD_o]
              obtain ⟨W, w1, w2, w3, w4, w5, w6⟩ := m_code (R := R) (a := a) (x := vvS b L (t + 1)) (v := vvS b L (t + 1 + 1)) (w := nI a) (y := nI (vvS b L (t + 1))) (z := nI (vvS b L (t + 1 + 1))) hr.2.2.2.1 x3 (uS.fx x2) hl rfl rfl rfl
              obtain ⟨Y, y1, y2, y3⟩ := m_nextS (R := R) hr.1 w3 (by omega)
              rw [w1, bd1_some, y1, bd1_some]
              exact ⟨1, Y, rfl, ((uF.x x2).trans w4).x y2, Or.inr ⟨_, _, _, _, _, _, rfl, rfl, by rw [y2.f15, w5, x2.f15, u15], by rw [y2.f45, w6, x2.f45, u45]; rfl, w2.fx y2, y3, ((AV.s hk).n (by omega)).n (by omega)⟩⟩
            · rw [if_neg (fun z => e2 (t2.mp z)), if_neg e2, paD_b, m_bad1 x3, bd2_some, bz_0]
              exact MO.fl (uF.x x2)
          · rw [if_neg e62, if_neg (by omega)]
            exact MO.fl uF
      · rw [if_neg (fun z => e5 (t3.mp z)), if_neg (fun z => e5 z.1)]
        exact MO.fl uF
theorem m_operandS {R : Rf} {T : Mm} {b : Nat → Nat} {L M t ones d : Nat} {F : Nat → Nat} {N : Nat → List Nat} {o : List Nat} {c : Cod} (hr : RM R) (hv : VF F) (hN : NW F N) (hF : MF T F) (hn : NM T F N) (hc : CuM T b L M t) (h : SM T o c ones d) (h45 : T.1 105 45 = 0) (hl : o.length + c.length ≤ 40) (h20 : ones ≤ 20) (hd : d < 100) : MO b L M T t (pX12_operand R T 105) (opS b L M F N o c ones d t) := by
  obtain ⟨h43, hO, h41, hC, h42, h44⟩ := id h
  unfold pX12_operand opS
  rw [m_isWordK (k := 13) hc (by omega) (by decide), bd1_some, show (40 : Int32) = nI 40 from rfl, m_isSignC hc (by omega), bd1_some, m_leafOf hc, bd1_some, m_bad1 hc, bd2_some, bz_0, ifI, ifI]
  have hv24 : kkS b L M t = 4 → vvS b L t < 24 := fun h4 => (kw_some ((kk_word (Or.inr h4)).2.2 h4)).1
  have key : ∀ x1 x2 x3, ((kkS b L M t = 4 ∧ vvS b L t = 13 ∧ x1 = 1) ∨ (kkS b L M t = 5 ∧ vvS b L t = 40 ∧ x1 = 0 ∧ x2 = 1) ∨ (kkS b L M t = 4 ∧ 14 ≤ vvS b L t ∧ x1 = 0 ∧ x2 = 0 ∧ x3 = nI (vvS b L t - 14))) → MO b L M T t (pX12_operand_38 R 105 T x1 x2 x3) (if ones = 20 ∨ 8 < d then paB 4 (psS b L M t) else if kkS b L M t = 5 then paO (false, 23 :: o, c, ones + 1, d + 1, t + 1) else if vvS b L t = 13 then paO (false, 20 :: o, c, ones + 1, d + 1, t + 1) else if vvS b L t < 19 then paO (true, o, (vvS b L t - 14, 0, 0) :: c, ones + 1, d, t + 1) else if vvS b L t = 19 then paD (naP b L M (t + 1) (fnI F N (wwS b L (t + 1)))) fun i => paO (true, o, (5, 0, i) :: c, ones + 1, d, t + 2) else if kkS b L M (t + 1) = 5 ∧ 60 ≤ vvS b L (t + 1) ∧ vvS b L (t + 1) ≤ 62 then paD (nuP b L M (t + 2) 0 999) fun v => paO (true, o, (vvS b L t - 14, vvS b L (t + 1), v) :: c, ones + 1, d, t + 3) else paB 1 (psS b L M (t + 1))) := by
    intro x1 x2 x3 hx
    unfold pX12_operand_38
    have e56 : pX12_operand_56 R 105 T = some (0, flm T 4 (psS b L M t)) := by
      unfold pX12_operand_56
      rw [m_bad4 hc, bd2_some, bz_0]
    rw [e56, h42, h44]
    by_cases e20 : ones = 20
    · rw [if_pos (show nI ones = 20 by rw [e20]; rfl), if_pos (Or.inl e20)]
      exact MO.fl FG.refl
    rw [if_neg (show ¬ nI ones = 20 from fun z => e20 ((nI_eq (b := 20) (by omega) (by omega)).mp z))]
    by_cases e8 : d ≤ 8
    · rw [if_pos (show nI d ≤ 8 from (nI_leI (b := 8) (by omega) (by omega)).mpr e8), if_neg (show ¬ (ones = 20 ∨ 8 < d) by omega)]
      have hk0 : kkS b L M t ≠ 0 := by omega
      obtain ⟨V, v1, v2, v3⟩ := m_nextS (R := R) hr.1 (hc.w6 (k := 42) (v := nI (ones + 1)) (by omega)) hk0
      have vS : SM V o c (ones + 1) d := h.ones.fx v2
      have vF : FG T V := (FG.refl.w (by omega)).x v2
      have v15 : V.1 105 15 = T.1 105 15 := by rw [v2.f15, wI_n (Or.inr (by decide))]
      have v45 : V.1 105 45 = 0 := by rw [v2.f45, wI_n (Or.inr (by decide)), h45]
      have vM : MF V F := fun k hk => by rw [vF.1 107 (by decide) (by decide) (by decide)]; exact hF k hk
      have vN : NM V F N := hn.of (vF.2.1 110 (by decide))
      rcases hx with ⟨g1, g2, rfl⟩ | ⟨g1, g2, rfl, rfl⟩ | ⟨g1, g2, rfl, rfl, rfl⟩
      · rw [if_neg (show ¬ kkS b L M t = 5 by omega), if_pos g2]
        simp only [lt]
        rw [nI_1, v1, bd1_some, if10]
        exact m_op84 hr vF v15 v45 v3 vS (by omega) hd hk0 (Or.inl ⟨rfl, rfl⟩)
      · rw [if_pos g1]
        simp only [lt]
        rw [nI_1, v1, bd1_some, if_pos trivial, if10]
        exact m_op84 hr vF v15 v45 v3 vS (by omega) hd hk0 (Or.inr ⟨rfl, rfl⟩)
      · rw [if_neg (show ¬ kkS b L M t = 5 by omega), if_neg (show ¬ vvS b L t = 13 by omega)]
        have hv' := hv24 g1
        have hh := m_opLeaf (R := R) (T := T) (V := V) (t := t) (o := o) (c := c) (ones := ones + 1) (d := d) hr hv hN vM vN vF v15 v3 vS (by omega) hk0 (x3 := nI (vvS b L t - 14)) (vvS b L t - 14) rfl (by omega)
        simp only [show (vvS b L t - 14 < 5) = (vvS b L t < 19) from propext ⟨fun _ => by omega, fun _ => by omega⟩, show (vvS b L t - 14 = 5) = (vvS b L t = 19) from propext ⟨fun _ => by omega, fun _ => by omega⟩] at hh
        rw [lt, nI_1, v1, bd1_some, if00, if00]
        exact hh
    · rw [if_neg (show ¬ nI d ≤ 8 from fun z => e8 ((nI_leI (b := 8) (by omega) (by omega)).mp z)), if_pos (show ones = 20 ∨ 8 < d by omega)]
      exact MO.fl FG.refl
  by_cases e1 : kkS b L M t = 4 ∧ vvS b L t = 13
  · rw [if_pos e1, if_pos (Or.inl ⟨e1.1, by omega⟩)]
    exact key _ _ _ (Or.inl ⟨e1.1, e1.2, by rw [if_pos e1]⟩)
  · rw [if_neg e1]
    by_cases e2 : kkS b L M t = 5 ∧ vvS b L t = 40
    · rw [if_pos e2, if_pos (Or.inr e2)]
      exact key _ _ _ (Or.inr (Or.inl ⟨e2.1, e2.2, by rw [if_neg e1], by rw [if_pos e2]⟩))
    · rw [if_neg e2]
      by_cases e3 : kkS b L M t = 4 ∧ 14 ≤ vvS b L t
      · rw [if_pos e3, if_pos (show (0 : Int32) ≤ nI (vvS b L t - 14) from (nI_leI (a := 0) (by omega) (by have := hv24 e3.1; omega)).mpr (Nat.zero_le _)), if_pos (Or.inl ⟨e3.1, by omega⟩)]
        exact key _ _ _ (Or.inr (Or.inr ⟨e3.1, e3.2, by rw [if_neg e1], by rw [if_neg e2], rfl⟩))
      · rw [if_neg e3, if_neg (show ¬ (0 : Int32) ≤ -1 by decide), if_neg (by omega)]
        exact MO.fl FG.refl
