/-! the reference's join of FALLS, and a line -/
def jnC (F : Nat → Nat) (x y j : Nat) : Bool := (decide (F (32 + j) = x) && decide (F (48 + j) = y)) || (decide (F (32 + j) = y) && decide (F (48 + j) = x))
theorem fo_or_true {c : Nat → Bool} : ∀ (k i : Nat), fo (fun i a => a || c i) i k true = true
  | 0, _ => rfl
  | k + 1, i => by
    show fo _ (i + 1) k (true || c i) = true
    rw [Bool.true_or]
    exact fo_or_true k (i + 1)
theorem m_join103 {R : Rf} {T : Mm} {F : Nat → Nat} {x y : Nat} (hr : RM R) (h108 : ∀ k, k < 80 → T.1 108 k = nI (F k)) (hv : VF F) (hx : x < 10) (hy : y < 10) (h18 : T.1 105 18 = nI y) (f0 : Bool) : zl5 (pX12_readJoin_103 R 105 (pX12_readJoin_187 R 105)) FU T (nI (F 2)) (nI x) (if f0 = true then 1 else 0) 0 = pX12_readJoin_187 R 105 T (nI (F 2)) (nI x) (if (f0 || jnB F x y) = true then 1 else 0) := by
  obtain ⟨r1, r6, r7, r8, r9, r10, r21, r22, r28, r32, r33, r34, r38, r40, r46, r47, r48, r49⟩ := id hr
  obtain ⟨v0, v1, v2, v3, v4, v5, v6, vs, vo, vj⟩ := id hv
  have key := zl5_fr (f := pX12_readJoin_103 R 105 (pX12_readJoin_187 R 105)) (fun _ : Bool => T) (fun _ => nI (F 2)) (fun _ => nI x) (fun f => if f = true then (1 : Int32) else 0) (fun i f => f || jnC F x y i) (fun f => pX12_readJoin_187 R 105 T (nI (F 2)) (nI x) (if f = true then 1 else 0)) 0 (F 2) (fun _ _ => True) (by omega) (by omega) (fun _ _ _ _ _ => trivial) ?_ ?_ f0 trivial
  · rw [show nI 0 = (0 : Int32) from rfl] at key
    rw [key]
    congr 2
    cases f0 with
    | true => rw [fo_or_true, Bool.true_or]
    | false => rw [Bool.false_or]; rfl
  · intro r i f _ hi _
    obtain ⟨j1, j2, _⟩ := vj i hi
    unfold pX12_readJoin_103 pX12_readJoin_144
    rw [if_neg (nI_ge hi (by omega)), r7]
    simp (disch := omega) only [lt, lit_add, ix_nI, nI_clamp]
    rw [h108 (32 + i) (by omega), h108 (48 + i) (by omega), h18, nI_1]
    simp (disch := omega) only [nI_eq]
    cases f with
    | true => rw [if_pos rfl, if10, Bool.true_or, if_pos rfl]
    | false =>
      rw [if_neg (show ¬ (false = true) by decide), if00, Bool.false_or]
      unfold jnC
      by_cases e1 : F (32 + i) = x
      · by_cases e2 : F (48 + i) = y
        · rw [if_pos e1, if_pos e2, if_pos (by simp [e1, e2])]
        · rw [if_pos e1, if_neg e2]
          by_cases e3 : F (32 + i) = y
          · by_cases e4 : F (48 + i) = x
            · rw [if_pos e3, if_pos e4, if_pos (by simp [e3, e4])]
            · rw [if_pos e3, if_neg e4, if_neg (by simp [e2, e4])]
          · rw [if_neg e3, if_neg (by simp [e2, e3])]
      · rw [if_neg e1]
        by_cases e3 : F (32 + i) = y
        · by_cases e4 : F (48 + i) = x
          · rw [if_pos e3, if_pos e4, if_pos (by simp [e3, e4])]
          · rw [if_pos e3, if_neg e4, if_neg (by simp [e1, e4])]
        · rw [if_neg e3, if_neg (by simp [e1, e3])]
  · intro r f _
    unfold pX12_readJoin_103
    rw [if_pos (nI_le (by omega) (by omega))]
theorem m_join187 {R : Rf} {T : Mm} {b : Nat → Nat} {L M t : Nat} {F : Nat → Nat} {N : Nat → List Nat} (hr : RM R) (h : CuM T b L M t) (hg : MG T F N) (hv : VF F) (hN : NW F N) {x y : Nat} (hx : x < F 1) (hy : y < F 1) (h18 : T.1 105 18 = nI y) (h16 : F 2 < 16) (h3 : kkS b L M t = 3) : MP R b L M T (pX12_readJoin_187 R 105 T (nI (F 2)) (nI x) 0) (paD (nuP b L M (t + 1) 1 30) fun v => paO (uT (uT (uT (uT F (32 + F 2) x) (48 + F 2) y) (64 + F 2) v) 2 (F 2 + 1), N, t + 2)) := by
  obtain ⟨r1, r6, r7, r8, r9, r10, r21, r22, r28, r32, r33, r34, r38, r40, r46, r47, r48, r49⟩ := id hr
  obtain ⟨v0, v1, v2, v3, v4, v5, v6, vs, vo, vj⟩ := id hv
  obtain ⟨g1, g2, g3, g4, g5⟩ := id hg
  unfold pX12_readJoin_187
  rw [if_pos rfl, r7]
  simp (disch := omega) only [lt, ix_lit, lit_clamp, lit_add, ix_nI, nI_clamp]
  rw [wI_n (Or.inl (by decide)), h18]
  obtain ⟨V, v1, v2, v3⟩ := m_nextS (R := R) r1 ((h.wa (a := 108) (k := 32 + F 2) (v := nI x) (by decide) (by decide)).wa (a := 108) (k := 48 + F 2) (v := nI y) (by decide) (by decide)) (by omega)
  have fr : FQ T V := FQ.refl.h8.h8.x v2
  rw [v1, bd1_some]
  obtain ⟨v, Y, p1, p2, p3, p4, p5, p6, p7, p15, p8, p9⟩ | ⟨k, p, p1, p2⟩ := m_puts (w := nI (64 + F 2)) (y := 1) (z := 30) (x := 64 + F 2) (lo := 1) (hi := 30) hr v3 rfl (by omega) rfl rfl (by omega) (by omega)
  · rw [p1, paD_o, p2, bd2_some, if10]
    have f108 : Y.1 108 = uT (uT (uT (T.1 108) (32 + F 2) (nI x)) (48 + F 2) (nI y)) (64 + F 2) (nI v) := by
      rw [p5, (v2.1 108 (by decide)).1, wI_row, wI_row]
    have f110 : Y.2 110 = T.2 110 := p6.trans (v2.1 110 (by decide)).2
    have f20 : Y.1 105 20 = T.1 105 20 := by
      rw [p7, v2.2.1 20 (by decide) (by decide) (by decide) (by decide) (by decide), wI_n (Or.inl (by decide)), wI_n (Or.inl (by decide))]
    have ex0 : Y.1 108 2 = nI (F 2) := by rw [f108, uT_n (by omega), uT_n (by omega), uT_n (by omega), g1 2 (by omega)]
    rw [ex0, nI_1]
    refine ⟨1, _, rfl, (fr.trans p3).h8, Or.inr ⟨_, _, _, rfl, rfl, by rw [wI_n (Or.inl (by decide)), p15, v2.f15, wI_n (Or.inl (by decide)), wI_n (Or.inl (by decide))], ⟨?_, ?_, ?_, ?_, ?_⟩, p4.wa (by decide) (by decide)⟩⟩
    · intro k hk8
      rw [wI_row, f108, uT_nI (uT_nI (uT_nI (uT_nI g1 (32 + F 2) x) (48 + F 2) y) (64 + F 2) v) 2 (F 2 + 1) k hk8]
    · rw [wI_n (Or.inl (by decide)), f20, g2]
      simp (disch := omega) only [uT_n]
    · rw [wI_n (Or.inl (by decide)), f20, g3]
      simp (disch := omega) only [uT_n]
    · intro p hp
      simp (disch := omega) only [uT_n] at hp
      show Y.2 110 _ = _
      rw [f110]; exact g4 p hp
    · intro p hp
      simp (disch := omega) only [uT_n] at hp
      show Y.2 110 _ = _
      rw [f110]; exact g5 p hp
  · rw [p1, paD_b, p2, bd2_some, if_pos rfl]
    exact MP.fl fr
theorem m_readJoin {R : Rf} {T : Mm} {b : Nat → Nat} {L M t : Nat} {F : Nat → Nat} {N : Nat → List Nat} (hr : RM R) (h : CuM T b L M t) (hg : MG T F N) (hv : VF F) (hN : NW F N) (hk : kkS b L M t ≠ 0) : MP R b L M T (pX12_readJoin R T 105) (rF4 b L M F N t) := by
  obtain ⟨r1, r6, r7, r8, r9, r10, r21, r22, r28, r32, r33, r34, r38, r40, r46, r47, r48, r49⟩ := id hr
  obtain ⟨v0, v1, v2, v3, v4, v5, v6, vs, vo, vj⟩ := id hv
  obtain ⟨g1, g2, g3, g4, g5⟩ := id hg
  obtain ⟨V, v1, v2, v3⟩ := m_nextS (R := R) r1 h hk
  unfold pX12_readJoin rF4
  simp (disch := omega) only [lt, ix_lit, lit_clamp]
  rw [r7, g1 2 (by omega), m_bad4 h, bd2_some, bz_0, v1, bd1_some]
  simp (disch := omega) only [eq_lit]
  by_cases e : F 2 < 16
  · rw [if_pos e, if_neg (by omega)]
    have hgV := hg.fx v2
    have fr : FQ T V := FQ.refl.x v2
    rw [hgV.1 1 (by omega)]
    obtain ⟨x, X, o1, o2, o3, o4, o5, o6⟩ | ⟨k, p, U, o1, o2, o3⟩ := m_takesNameG (x := 20) (y := nI (F 1)) (base := 20) (cnt := F 1) (N := fun i => N (5 + i)) hr v3 rfl rfl (by omega) hN.2 hgV.2.2.2.2
    · have hx : x < F 1 := fnI_lt o2
      have o1' : naP b L M (t + 1) (fnI F N (wwS b L (t + 1))) = paO x := o1
      have fr2 : FQ T X := (fr.w (by omega)).x o5
      have e18 : X.1 105 18 = nI x := (o5.2.1 18 (by decide) (by decide) (by decide) (by decide) (by decide)).trans wI_s
      have hgX : MG X F N := MG.fx (hgV.of (by rw [wI_1, up2_row (by decide)]) (wI_n (Or.inr (by decide))) (fun _ _ => rfl) (fun _ _ => rfl)) o5
      rw [o1', paD_o, o4, bd2_some, if10, e18, hgX.1 1 (by omega), show t + 2 = t + 1 + 1 from rfl]
      obtain ⟨y, n1, n2, n3, n4⟩ | ⟨k, p, U, n1, n2, n3⟩ := m_look (x := 20) (y := nI (F 1)) (base := 20) (cnt := F 1) (N := fun i => N (5 + i)) hr o6 rfl rfl (by omega) hN.2 hgX.2.2.2.2
      · have hy : y < F 1 := fnI_lt n2
        have n1' : naP b L M (t + 1 + 1) (fnI F N (wwS b L (t + 1 + 1))) = paO y := n1
        have hgY : MG (wI X 105 18 (nI y)) F N := hgX.of (by rw [wI_1, up2_row (by decide)]) (wI_n (Or.inr (by decide))) (fun _ _ => rfl) (fun _ _ => rfl)
        have cY := o6.w5 (k := 18) (v := nI y) (by omega)
        have fr3 := fr2.w (k := 18) (v := nI y) (by omega)
        have hox := (vo x hx).1
        have hoy := (vo y hy).1
        have J := fun f0 : Bool => m_join103 (R := R) (T := wI X 105 18 (nI y)) (F := F) (x := x) (y := y) hr hgY.1 hv (by omega) (by omega) wI_s f0
        have J1 := J true
        have J0 := J false
        rw [if_pos rfl, Bool.true_or, if_pos rfl] at J1
        rw [if_neg (by decide), Bool.false_or] at J0
        rw [n1', paD_o, n4, bd2_some, if10, wI_s, J1, J0]
        simp (disch := omega) only [lit_add, ix_nI, nI_clamp]
        rw [hgY.1 (12 + y) (by omega), hgY.1 (12 + x) (by omega)]
        simp (disch := omega) only [nI_eq]
        have hbad : MP R b L M T (pX12_readJoin_187 R 105 (wI X 105 18 (nI y)) (nI (F 2)) (nI x) 1) (paB 3 (psS b L M (t + 1 + 1))) := by
          unfold pX12_readJoin_187
          rw [if10, m_bad3 cY, bd2_some, bz_0]
          exact MP.fl fr3
        by_cases e5 : x ≠ y ∧ F (12 + x) = F (12 + y) ∧ jnB F x y = false
        · rw [if_pos e5, if_neg (fun z => e5.1 z.symm), if_pos e5.2.1.symm, e5.2.2, if_neg (by decide)]
          exact (m_join187 hr cY hgY hv hN hx hy wI_s e n3).tr fr3 (by rw [wI_n (Or.inr (by decide)), o5.f15, wI_n (Or.inr (by decide)), v2.f15])
        · rw [if_neg e5]
          by_cases e6 : y = x
          · rw [if_pos e6]; exact hbad
          · rw [if_neg e6]
            by_cases e7 : F (12 + y) = F (12 + x)
            · rw [if_pos e7, if_pos]
              · exact hbad
              · cases z : jnB F x y with
                | true => rfl
                | false => exact absurd ⟨fun q => e6 q.symm, e7.symm, z⟩ e5
            · rw [if_neg e7]; exact hbad
      · have n1' : naP b L M (t + 1 + 1) (fnI F N (wwS b L (t + 1 + 1))) = paB k p := n1
        rw [n1', paD_b, n2, bd2_some, if_pos rfl]
        rcases n3 with rfl | rfl
        · exact MP.fl fr2
        · exact MP.fl (fr2.w (by omega))
    · have o1' : naP b L M (t + 1) (fnI F N (wwS b L (t + 1))) = paB k p := o1
      rw [o1', paD_b, o2, bd2_some, if_pos rfl]
      rcases o3 with rfl | rfl
      · exact MP.fl fr
      · exact MP.fl (fr.w (by omega))
  · rw [if_neg e, if_pos (by omega)]
    exact MP.fl FQ.refl
/-- a line without its ';' -/
def rFK (b : Nat → Nat) (L M : Nat) (F : Nat → Nat) (N : Nat → List Nat) (t : Nat) : Pa FSt := if kkS b L M t = 4 ∧ vvS b L t < 5 then (if vvS b L t = 0 then rF0 b L M F N t else if vvS b L t = 1 then rF1 b L M F N t else if vvS b L t = 2 then rF2 b L M F N t else if vvS b L t = 3 then rF3 b L M F N t else rF4 b L M F N t) else paB 1 (psS b L M t)
theorem MP.bz {R : Rf} {b : Nat → Nat} {L M : Nat} {T : Mm} {o : Option (Int32 × Mm)} {r : Pa FSt} (h : MP R b L M T o r) : MP R b L M T (bd2 o (fun (u : Int32) (V : Mm) => bz u (some (u, V)))) r := by
  obtain ⟨u, V, h1, h2, h3⟩ := h
  rw [h1, bd2_some]
  refine ⟨u, V, ?_, h2, h3⟩
  rcases h3 with ⟨k, p, _, z, _⟩ | ⟨F', N', t', _, z, _⟩
  · rw [z]; exact bz_0
  · rw [z]; rfl
theorem ifI {α : Type} {c : Prop} [Decidable c] {x y : α} : (if (if c then (1 : Int32) else 0) = 0 then x else y) = if c then y else x := by
  by_cases h : c
  · rw [if_pos h, if10, if_pos h]
  · rw [if_neg h, if00, if_neg h]
theorem m_readLineF {R : Rf} {T : Mm} {b : Nat → Nat} {L M t : Nat} {F : Nat → Nat} {N : Nat → List Nat} (hr : RM R) (h : CuM T b L M t) (hg : MG T F N) (hv : VF F) (hN : NW F N) (h80 : F 80 ≤ 1) : MP R b L M T (pX12_readLine R T 105) (rFK b L M F N t) := by
  unfold pX12_readLine rFK
  have hkw := fun k (hk : k < 24) (j : Int64) (hj : j = w8 (kwk k)) => m_isWordK (R := R) h hk hj
  rw [hkw 0 (by omega) 439721159795 (by decide), hkw 1 (by omega) 1918986606 (by decide), hkw 2 (by omega) 123581014175598 (by decide), hkw 3 (by omega) 1769235821 (by decide), hkw 4 (by omega) 1785686382 (by decide)]
  simp only [bd1_some, ifI]
  rw [m_bad1 h, bd2_some, bz_0]
  by_cases e : kkS b L M t = 4
  · have hk : kkS b L M t ≠ 0 := by omega
    by_cases e0 : vvS b L t = 0
    · rw [if_pos ⟨e, e0⟩, if_pos ⟨e, by omega⟩, if_pos e0]
      exact m_rFalls hr h hg hv hN h80 hk
    rw [if_neg (fun z => e0 z.2)]
    by_cases e1 : vvS b L t = 1
    · rw [if_pos ⟨e, e1⟩, if_pos ⟨e, by omega⟩, if_neg e0, if_pos e1]
      exact m_rRain hr h hg hv hN hk
    rw [if_neg (fun z => e1 z.2)]
    by_cases e2 : vvS b L t = 2
    · rw [if_pos ⟨e, e2⟩, if_pos ⟨e, by omega⟩, if_neg e0, if_neg e1, if_pos e2]
      exact (m_readPerson hr h hg hv hN hk).bz
    rw [if_neg (fun z => e2 z.2)]
    by_cases e3 : vvS b L t = 3
    · rw [if_pos ⟨e, e3⟩, if_pos ⟨e, by omega⟩, if_neg e0, if_neg e1, if_neg e2, if_pos e3]
      exact (m_readItem hr h hg hv hN hk).bz
    rw [if_neg (fun z => e3 z.2)]
    by_cases e4 : vvS b L t = 4
    · rw [if_pos ⟨e, e4⟩, if_pos ⟨e, by omega⟩, if_neg e0, if_neg e1, if_neg e2, if_neg e3]
      exact (m_readJoin hr h hg hv hN hk).bz
    rw [if_neg (fun z => e4 z.2), if_neg (fun z => by omega)]
    exact MP.fl FQ.refl
  · rw [if_neg (fun z => e z.1), if_neg (fun z => e z.1), if_neg (fun z => e z.1), if_neg (fun z => e z.1), if_neg (fun z => e z.1), if_neg (fun z => e z.1)]
    exact MP.fl FQ.refl
