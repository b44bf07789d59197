/-! FALLS: all lines -/
def rFW (b : Nat → Nat) (L M : Nat) : Nat → FSt → Pa FSt
  | 0, _ => paB 1 0
  | m + 1, s => if kkS b L M s.2.2 = 0 then (if M < L then paB 1 (psS b L M s.2.2) else paO s) else paD (rFL b L M s.1 s.2.1 s.2.2) (rFW b L M m)
theorem rFW_succ {b : Nat → Nat} {L M m t : Nat} {F : Nat → Nat} {N : Nat → List Nat} : rFW b L M (m + 1) (F, N, t) = if kkS b L M t = 0 then (if M < L then paB 1 (psS b L M t) else paO (F, N, t)) else paD (rFL b L M F N t) (rFW b L M m) := rfl
theorem c_fLoop {R : Rf} {b : Nat → Nat} {L M n g : Nat} (hR : RT R) (h79 : 79 ≤ g) : ∀ (m fuel : Nat) (T : Mm) (F : Nat → Nat) (N : Nat → List Nat) (t : Nat), VSt F N → CG R T g F N → CuC T b L M n t → cnF F + m = 34 → m < fuel → ∃ u V, zl2 (pX3_read_13 R g 1 (pX3_read_34 R g 1) (pX3_read_42 R g 1)) fuel T (nI (cnF F)) = some (u, V) ∧ FC g T V ∧ ((∃ k p, rFW b L M m (F, N, t) = paB k p ∧ gB L M k p ∧ V.1 1 2 = nI k ∧ V.1 1 3 = nI p) ∨ ∃ F' N' t', rFW b L M m (F, N, t) = paO (F', N', t') ∧ u = nI (cnF F') ∧ V.1 1 2 = T.1 1 2 ∧ CG R V g F' N' ∧ VSt F' N') := by
  intro m
  induction m with
  | zero => intro fuel T F N t hs _ _ hm _; have := hs.cnt; omega
  | succ m ih =>
    intro fuel T F N t hs hg hc hm hf
    cases fuel with
    | zero => omega
    | succ fuel =>
      have hcn := hs.cnt
      have hps := psS_le (b := b) (L := L) (M := M) (t := t)
      rw [zl2_s, rFW_succ]
      unfold pX3_read_13
      rw [if_neg (show ¬ (33 : Int32) < nI (cnF F) from fun z => by have := (nI_ltI (a := 33) (by omega) (by omega)).mp z; omega), c_atEnd hR hc, bd1_some, ifI]
      by_cases e : kkS b L M t = 0
      · rw [if_pos e, if_pos e]
        unfold pX3_read_42 pX10_finish pX10_finish_14
        rw [c_atEnd hR hc, bd1_some, ifI, if_pos e, c_fail1 hR hc, bd2_some, if_pos rfl, hc.1.2.2.1]
        by_cases e2 : M < L
        · rw [if_pos e2, if10, if_pos e2, bd2_some]
          exact ⟨_, _, rfl, FC.refl.fl, Or.inl ⟨_, _, rfl, ⟨by omega, by omega, hps⟩, flc_2, flc_3⟩⟩
        · rw [if_neg e2, if00, if_neg e2, bd2_some]
          exact ⟨_, _, rfl, FC.refl, Or.inr ⟨_, _, _, rfl, rfl, rfl, hg, hs⟩⟩
      · rw [if_neg e, if_neg e]
        obtain ⟨u, V, h1, h2, h3⟩ := c_readLine hR hc hg hs.1 hs.2.1 h79 hs.2.2
        rw [h1, bd2_some]
        rcases h3 with ⟨k, p, z1, z2, z3, z4⟩ | ⟨F', N', t', z1, z2, z3, z4, z5⟩
        · rw [z1, z2, paD_b, if_pos rfl]
          unfold pX3_read_34
          exact ⟨_, _, rfl, h2, Or.inl ⟨_, _, rfl, rFL_bad z1, z3, z4⟩⟩
        · obtain ⟨hs', hc'⟩ := rFL_ok hs z1
          rw [z1, z2, paD_o, if10]
          simp only [lt]
          rw [nI_1, ← hc']
          obtain ⟨u', W, w1, w2, w3⟩ := ih fuel V F' N' t' hs' z4 z5 (by omega) (by omega)
          rw [z3] at w3
          exact ⟨u', W, w1, h2.trans w2, w3⟩
def F0f : Nat → Nat := fun k => if k = 3 then 10 else if k = 4 then 20 else 0
def FZ (g : Nat) (T V : Mm) : Prop := (∀ a, a ≠ 1 → a ≠ 3 → a ≠ 4 → a ≠ 5 → ¬ (g ≤ a ∧ a ≤ g + 8) → V.1 a = T.1 a) ∧ (∀ a, a ≠ 6 → a ≠ g + 2 → a ≠ g + 3 → V.2 a = T.2 a) ∧ V.1 1 1 = T.1 1 1
def RG (R : Rf) (f : Nat) : Prop := R f 5 = f + 1 ∧ R f 6 = f + 2 ∧ R f 7 = f + 3 ∧ R f 8 = f + 4 ∧ R f 9 = f + 5 ∧ R f 10 = f + 6 ∧ R f 11 = f + 7 ∧ R f 12 = f + 8
theorem F0_v : VSt F0f (fun _ => []) := by
  refine ⟨⟨by decide, by decide, by decide, by decide, by decide, by decide, by decide, fun p hp => absurd hp (by decide +revert), fun p hp => ?_, fun p hp => ?_⟩, ⟨fun p hp => ?_, fun p hp => ?_⟩, by decide⟩
  all_goals
    have h0 : F0f 0 = 0 := rfl
    have h1 : F0f 1 = 0 := rfl
    have h2 : F0f 2 = 0 := rfl
    omega
theorem c_fallsRead {R : Rf} {T : Mm} {b : Nat → Nat} {L g : Nat} (hR : RT R) (hX : XC T b L) (hG : RG R g) (h79 : 79 ≤ g) : ∃ u V, pX3_read R T g 1 = some (u, V) ∧ FZ g T V ∧ ((∃ k p, rFW b L 900 34 (F0f, fun _ => [], 0) = paB k p ∧ gB L 900 k p ∧ V.1 1 2 = nI k ∧ V.1 1 3 = nI p) ∨ ∃ F' N' t', rFW b L 900 34 (F0f, fun _ => [], 0) = paO (F', N', t') ∧ u = nI (cnF F') ∧ V.1 1 2 = 0 ∧ CG R V g F' N' ∧ VSt F' N') := by
  unfold pX3_read pX3_clear
  simp only [lt]
  rw [bd1_some]
  generalize hU : wI (wI (wI (wI (wI (wI (wI (wI T g 0 0) g 1 0) g 2 0) g 3 10) g 4 20) g 13 0) g 14 0) g 15 0 = U
  have u1 : ∀ a, a ≠ g → U.1 a = T.1 a := by
    intro a ha
    rw [← hU]
    simp only [wI_1]
    rw [up2_row ha, up2_row ha, up2_row ha, up2_row ha, up2_row ha, up2_row ha, up2_row ha, up2_row ha]
  have u2 : U.2 = T.2 := by rw [← hU]; rfl
  have hXU : XC U b L := ⟨hX.1, by rw [u1 1 (by omega)]; exact hX.2.1, fun k hk => by rw [u1 2 (by omega)]; exact hX.2.2.1 k hk, fun k hk => by rw [u2]; exact hX.2.2.2 k hk⟩
  obtain ⟨V, n, b1, b2, b3, b4, b5, b6⟩ := c_begin (M := 900) hR hXU (by omega)
  rw [show (900 : Int32) = nI 900 from rfl, b1, bd1_some]
  have hg0 : CG R V g F0f (fun _ => []) := by
    have e : V.1 g = U.1 g := b2.1 g (by omega) (by omega) (by omega) (by omega)
    refine ⟨⟨hG, ?_, ?_, ?_, ?_, ?_, ?_, ?_, fun p hp => absurd hp (Nat.not_lt_zero p), fun p hp => absurd hp (Nat.not_lt_zero p), fun p hp => absurd hp (Nat.not_lt_zero p), fun p hp => absurd hp (Nat.not_lt_zero p), fun p hp => absurd hp (Nat.not_lt_zero p), fun p hp => absurd hp (Nat.not_lt_zero p)⟩, ?_, fun p hp => absurd hp (Nat.not_lt_zero p), fun p hp => absurd hp (Nat.not_lt_zero p)⟩
    all_goals
      rw [e, ← hU]
      simp (disch := omega) only [wI_n, wI_s]
      rfl
  obtain ⟨u, W, w1, w2, w3⟩ := c_fLoop (b := b) (L := L) (M := 900) (n := n) hR h79 34 FU V F0f (fun _ => []) 0 F0_v hg0 ⟨b6, b5, by omega, hX.1, by omega⟩ rfl (by decide)
  rw [show (0 : Int32) = nI (cnF F0f) from rfl, w1]
  rw [b3] at w3
  refine ⟨u, W, rfl, ⟨fun a h1 h3 h4 h5 h6 => ?_, fun a h1 h2 h3 => ?_, ?_⟩, w3⟩
  · rw [w2.1 a h1 h6, b2.1 a h1 h3 h4 h5, u1 a (by omega)]
  · rw [w2.2.1 a h2 h3, b2.2.1 a h1, u2]
  · rw [w2.2.2 1 (by decide) (by decide) (by decide), b2.2.2, u1 1 (by omega)]
