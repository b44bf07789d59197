/-! a SENTENCE: the class's CONDITION -/
theorem FS.cg {R : Rf} {s f : Nat} {T V : Mm} {F : Nat → Nat} {N : Nat → List Nat} (h : FS s T V) (hg : CG R T f F N) (h79 : 79 ≤ f) (hfs : f + 8 < s) : CG R V f F N := hg.at (fun a h1 h2 => h.1 a (by omega) (by omega)) (fun p _ => by rw [h.2.1]) (fun p _ => by rw [h.2.1])
/-- the inner loop: ONES joined by 'and' -/
theorem c_ands {R : Rf} {b : Nat → Nat} {L M n s f : Nat} {F : Nat → Nat} {N : Nat → List Nat} {FO FC : RecF} {d : Nat} (hR : RT R) (hS : RS R s) (h97 : 97 ≤ s) (h79 : 79 ≤ f) (hfs : f + 8 < s) (hO : OneC R b L M n s f F N FO d) (o0 : List Nat) (ho : ∀ x l, o0 = x :: l → x = 23 ∨ x = 22) (x4 : Int32) (e30 : Mm → Option (Int32 × Mm)) (e55 e68 : Mm → Int32 → Option (Int32 × Mm)) : ∀ (m fuel k : Nat) (T : Mm) (c : Cod) (ones t : Nat), CuC T b L M n t → SC T s c ones → CG R T f F N → c.length + (if 0 < k then 21 :: o0 else o0).length ≤ 2 * ones → ones ≤ 20 → k ≤ ones → 21 ≤ ones + m → m < fuel → (∃ V k' p j, zl3 (pX8_readCondition_13 FO FC R s 1 f (nI d) e30 e55 e68) fuel T x4 (nI k) = e30 V ∧ FS s T V ∧ V.1 1 2 = nI k' ∧ V.1 1 3 = nI p ∧ gB L M k' p ∧ baT b L M F N (false, (if 0 < k then 21 :: o0 else o0), c, ones, d, t) k' p j ∧ t + j ≤ n + 1) ∨ ∃ V o2 c2 d2 c' ones' t' j, zl3 (pX8_readCondition_13 FO FC R s 1 f (nI d) e30 e55 e68) fuel T x4 (nI k) = e55 V x4 ∧ FS s T V ∧ V.1 1 2 = T.1 1 2 ∧ goT b L M F N (false, (if 0 < k then 21 :: o0 else o0), c, ones, d, t) (true, o2, c2, ones', d2, t') j ∧ t + j ≤ t' ∧ (joS 22 (ntS o2 c2 d2).1 (ntS o2 c2 d2).2.1 = joS 22 o0 c' ∧ (ntS o2 c2 d2).2.2 = d) ∧ ¬ (kkS b L M t' = 4 ∧ vvS b L t' = 12) ∧ SC V s c' ones' ∧ CuC V b L M n t' ∧ c'.length + o0.length + 1 ≤ 2 * ones' ∧ ones < ones' ∧ ones' ≤ 20 := by
  intro m
  induction m with
  | zero => intro fuel k T c ones t _ _ _ _ _ _ hm _; omega
  | succ m ih =>
    intro fuel k T c ones t h hs hg hlen h20 hk hm hf
    cases fuel with
    | zero => omega
    | succ fuel =>
      rw [zl3_s]
      have ih' := ih fuel
      generalize zl3 (pX8_readCondition_13 FO FC R s 1 f (nI d) e30 e55 e68) fuel = rr at ih' ⊢
      unfold pX8_readCondition_13 pX8_readCondition_46
      rw [if_neg (show ¬ (20 : Int32) < nI k from fun z => by have := (nI_ltI (a := 20) (by omega) (by omega)).mp z; omega)]
      obtain ⟨u, V, z1, z2, z3⟩ := hO T _ c ones t h hs hg hlen h20
      rw [z1, bd2_some]
      rcases z3 with ⟨k', p, j, rfl, y2, y3, y4, y5, y6⟩ | ⟨o2, c2, d2, c', ones', t', j, rfl, y2, y3, y4, y5, y7, y8, y9, y10, y11⟩
      · rw [if_pos rfl]
        exact Or.inl ⟨V, k', p, j, rfl, z2, y2, y3, y4, y5, y6⟩
      · rw [if10]
        have hnt0 : ∀ c, ntS o0 c d = (o0, c, d) := fun c => by
          cases o0 with
          | nil => rfl
          | cons x l => exact ntS_no (by have := ho x l rfl; omega)
        have hj21 : ∀ c, joS 21 o0 c = (o0, c) := fun c => by
          cases o0 with
          | nil => rfl
          | cons x l => exact joS_n (by have := ho x l rfl; omega)
        -- after the class's own AND
        have key : ∃ W c'', (if nI k ≤ 0 then bd1 (pX10_keyword R V 1) (fun (u2 : Int32) => if u2 = 12 then bd1 (pX10_advance R V 1) (fun (T3 : Mm) => lt (nI k + 1) (fun (v4 : Int32) => rr T3 x4 v4)) else e55 V x4) else bd2 (pX8_step R V s 12 0 0) (fun (_ : Int32) (T5 : Mm) => bd1 (pX10_keyword R T5 1) (fun (u2 : Int32) => if u2 = 12 then bd1 (pX10_advance R T5 1) (fun (T3 : Mm) => lt (nI k + 1) (fun (v4 : Int32) => rr T3 x4 v4)) else e55 T5 x4))) = bd1 (pX10_keyword R W 1) (fun (u2 : Int32) => if u2 = 12 then bd1 (pX10_advance R W 1) (fun (T3 : Mm) => lt (nI k + 1) (fun (v4 : Int32) => rr T3 x4 v4)) else e55 W x4) ∧ FS s T W ∧ W.1 1 2 = T.1 1 2 ∧ SC W s c'' ones' ∧ CuC W b L M n t' ∧ c''.length + o0.length + 1 ≤ 2 * ones' ∧ joS 21 (ntS o2 c2 d2).1 (ntS o2 c2 d2).2.1 = (o0, c'') ∧ joS 22 (ntS o2 c2 d2).1 (ntS o2 c2 d2).2.1 = joS 22 o0 c'' ∧ (ntS o2 c2 d2).2.2 = d := by
          by_cases e : 0 < k
          · rw [if_pos e] at y5 y9
            rw [if_neg (show ¬ nI k ≤ 0 from nI_ge (b := k) (a := 0) e (by omega))]
            simp only [List.length_cons] at y9
            obtain ⟨W, q1, q2, q3, q4⟩ := c_step (a := 21) (x := 0) (v := 0) (w := 12) (y := 0) (z := 0) hS h97 y7 (by omega) rfl rfl rfl
            rw [q1, bd2_some]
            rw [ntS_no (by decide)] at y5
            refine ⟨W, (21, 0, 0) :: c', rfl, z2.trans q3, by rw [q4, y2], q2, ?_, by simp only [List.length_cons]; omega, ?_, ?_, ?_⟩
            · exact y8.of (q3.1 3 (by decide) (by omega)) (q3.1 4 (by decide) (by omega)) (q3.1 5 (by decide) (by omega)) (by rw [q3.2.1]) (by rw [q4]) (by rw [q4]) (by rw [q4]; exact y8.2.1) y8.2.2.1
            · rw [y5, joS_y (Or.inl rfl), hj21]
            · rw [y5, joS_y (Or.inl rfl)]
            · rw [y5]
          · rw [if_neg e] at y5 y9
            have e0 : k = 0 := by omega
            subst e0
            rw [if_pos (by decide)]
            rw [hnt0] at y5
            exact ⟨V, c', rfl, z2, y2, y7, y8, y9, by rw [y5, hj21], by rw [y5], by rw [y5]⟩
        obtain ⟨W, c'', w1, w2, w3, w4, w5, w6, w7, w8, w9⟩ := key
        rw [w1, c_keyword hR w5, bd1_some]
        by_cases ea : kkS b L M t' = 4 ∧ vvS b L t' = 12
        · rw [if_pos ea.1, ea.2, if_pos (show nI 12 = 12 from rfl)]
          obtain ⟨a1, a2⟩ := c_advance (R := R) w5 (w5.lt (by omega))
          rw [a1, bd1_some]
          simp only [lt]
          rw [nI_1]
          have hst : stS b L M F N (true, o2, c2, ones', d2, t') = paO (Sum.inl (false, 21 :: o0, c'', ones', d, t' + 1)) := by
            rw [stS_b]
            unfold beS
            rw [if_neg (show ¬ (kkS b L M t' = 0 ∧ ¬ M < L) by omega), if_pos ea, w7, w9]
          have hgo := goT_t y3 (goT_1 hst)
          have hi := ih' (k + 1) (wI W 1 6 (nI (t' + 1))) c'' ones' (t' + 1) a2 (w4.w1 h97) ((w2.w1 (k := 6) (v := nI (t' + 1)) (by omega)).cg hg h79 hfs) (by rw [if_pos (by omega)]; simp only [List.length_cons]; omega) y11 (by omega)
          rcases hi (by omega) (by omega) with ⟨X, k', p, j', x1, x2, x3, x4', x5, x6, x7⟩ | ⟨X, o3, c3, d3, c4, ones3, t3, j', x1, x2, x3, x4', x5, x6, x7, x8, x9, x10, x11, x12⟩
          · rw [if_pos (show 0 < k + 1 by omega)] at x6
            exact Or.inl ⟨X, k', p, _, x1, (w2.w1 (by omega)).trans x2, x3, x4', x5, baT_t hgo x6, by omega⟩
          · rw [if_pos (show 0 < k + 1 by omega)] at x4'
            exact Or.inr ⟨X, o3, c3, d3, c4, ones3, t3, _, x1, (w2.w1 (by omega)).trans x2, by rw [x3, wI_n (Or.inr (by decide)), w3], goT_t hgo x4', by omega, x6, x7, x8, x9, x10, by omega, x12⟩
        · have hno : ¬ (if kkS b L M t' = 4 then nI (vvS b L t') else -1) = 12 := by
            by_cases e4 : kkS b L M t' = 4
            · have hv24 := (kw_some ((kk_word (Or.inr e4)).2.2 e4)).1
              rw [if_pos e4]
              intro z
              exact ea ⟨e4, (nI_eq (b := 12) (by omega) (by omega)).mp z⟩
            · rw [if_neg e4]; decide
          rw [if_neg hno]
          exact Or.inr ⟨W, o2, c2, d2, c'', ones', t', j, rfl, w2, w3, y3, y4, ⟨w8, w9⟩, ea, w4, w5, w6, y10, y11⟩
