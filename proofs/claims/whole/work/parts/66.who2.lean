/-! WHO, whole -/
def tkS (T : Mm) (L most : Int32) : Mm := wI (wI (wI (wI (wI T 105 0 0) 105 3 L) 105 2 0) 105 4 0) 105 5 most
theorem m_taken {R : Rf} {T : Mm} {L : Int32} (hL : T.1 105 2 = L) (most : Int32) : pX12_taken R (wI T 105 0 0) 105 most = some (tkS T L most) := by
  unfold pX12_taken tkS
  simp only [lt]
  rw [wI_n (Or.inr (by decide)), hL]
theorem tkS_o {T : Mm} {L most : Int32} {a : Nat} (h : a ≠ 105) : (tkS T L most).1 a = T.1 a := by
  unfold tkS
  rw [wI_1, up2_row h, wI_1, up2_row h, wI_1, up2_row h, wI_1, up2_row h, wI_1, up2_row h]
theorem tkS_2 {T : Mm} {L most : Int32} : (tkS T L most).2 = T.2 := rfl
theorem tkS_3 {T : Mm} {L most : Int32} : (tkS T L most).1 105 3 = L := by
  unfold tkS
  rw [wI_n (Or.inr (by decide)), wI_n (Or.inr (by decide)), wI_n (Or.inr (by decide)), wI_s]
theorem tkS_4 {T : Mm} {L most : Int32} : (tkS T L most).1 105 4 = 0 := by
  unfold tkS
  rw [wI_n (Or.inr (by decide)), wI_s]
theorem tkS_5 {T : Mm} {L most : Int32} : (tkS T L most).1 105 5 = most := by
  unfold tkS
  rw [wI_s]
theorem tkS_l {T : Mm} {L most : Int32} : (tkS T L most).1 105 2 = 0 := by
  unfold tkS
  rw [wI_n (Or.inr (by decide)), wI_n (Or.inr (by decide)), wI_s]
theorem tkS_k {T : Mm} {L most : Int32} {k : Nat} (h : 5 < k) : (tkS T L most).1 105 k = T.1 105 k := by
  unfold tkS
  rw [wI_n (Or.inr (by omega)), wI_n (Or.inr (by omega)), wI_n (Or.inr (by omega)), wI_n (Or.inr (by omega)), wI_n (Or.inr (by omega))]
theorem tkS_0 {T : Mm} {L most : Int32} : (tkS T L most).1 105 0 = 0 := by
  unfold tkS
  rw [wI_n (Or.inr (by decide)), wI_n (Or.inr (by decide)), wI_n (Or.inr (by decide)), wI_n (Or.inr (by decide)), wI_s]
theorem KV.fr {R : Rf} {T T' : Mm} {f : Nat} {F : Nat → Nat} {C : Nat → Int32} (h : KV R T f F C) (e8 : T'.1 8 = T.1 8) (e9 : T'.1 9 = T.1 9) (ef : ∀ a, f ≤ a → a ≤ f + 8 → T'.1 a = T.1 a) : KV R T' f F C := by
  obtain ⟨k1, k2, k3, k4, k5, k6, k7, k8, k9, k10⟩ := h
  exact ⟨k1, k2, k3, k4, k5, k6, k7.of ef, k8, k9.of e8 e9, k10⟩
theorem whS_01 {F : Nat → Nat} {J A : Int32} {b : Nat → Nat} {L : Nat} : whS F J A b L = 0 ∨ whS F J A b L = 1 := by
  unfold whS
  cases whF F J A b L (F 1) with
  | none => exact Or.inl rfl
  | some s =>
    dsimp only
    by_cases e : s.2 = ((1 : Int32) <<< (nI L &&& 31)) - 1
    · rw [if_pos e]; exact Or.inr rfl
    · rw [if_neg e]; exact Or.inl rfl
theorem fo_set {c : Nat → Bool} {n : Nat} : fo (fun i a => if c i = true then a ||| ((1 : Int32) <<< (nI i &&& 31)) else a) 0 n 0 = sB c n := rfl
noncomputable def whc (F : Nat → Nat) (C : Nat → Int32) (b : Nat → Nat) (L p : Nat) : Bool := decide (whS F (fjS F C p (nI (F 3))) (brl F C p) b L = 1)
theorem k_who {R : Rf} {T T' : Mm} {f : Nat} {F : Nat → Nat} {C : Nat → Int32} (h : KV R T f F C) (l : LV R T' F C) (r00 : R 0 0 = 1) (r10 : R 1 0 = 2) (r1 : R 105 1 = 106) (r28 : R 105 28 = 114) {b : Nat → Nat} {L : Nat} (hT : T.1 1 1 = nI L) (hT' : T'.1 105 2 = nI L) (hb : TB T T' b L) : ∃ a g U, pX11_who R T 0 = some (a, setN (wI T 1 1 0) g) ∧ pX12_who R T' 105 = some (a, U) ∧ Fr (fun c => c = 114) (tkS T' (nI L) 940) U := by
  obtain ⟨hL, hbb⟩ := hb
  obtain ⟨k1, k2, k3, k4, k5, k6, k7, k8, k9, k10⟩ := id h
  have v0 := k8.1
  unfold pX11_who pX12_who
  simp only [lt]
  rw [r00, hT, m_taken hT', bd1_some, tkS_3, m_isInG, bd1_some]
  by_cases e : 1 ≤ L ∧ L ≤ 6
  · rw [if_neg (show ¬ nI L < 1 from nI_nlt (b := 1) e.1 (by omega)), if_pos (show nI L ≤ 6 from nI_le (b := 6) e.2 (by omega)), if_pos (show (1 : Int32) ≤ nI L ∧ nI L ≤ 6 from ⟨nI_le (a := 1) e.1 (by omega), nI_le (b := 6) e.2 (by omega)⟩), if10]
    have hcl : ∃ g, zl4 (pX11_who_33 R 0 (pX11_who_110 R 0)) FU (wI T 1 1 0) (nI L) 0 0 = some (sB (whc F C b L) (F 0), setN (wI T 1 1 0) g) := by
      refine zl4_wp (f := pX11_who_33 R 0 (pX11_who_110 R 0)) (P := fun m U x1 x2 x3 => ∃ p g, x3 = nI p ∧ p + m = F 0 ∧ U = setN (wI T 1 1 0) g ∧ x1 = nI L ∧ x2 = fo (fun i a => if whc F C b L i = true then a ||| ((1 : Int32) <<< (nI i &&& 31)) else a) 0 p 0) (Q := fun z => ∃ g, z = some (sB (whc F C b L) (F 0), setN (wI T 1 1 0) g)) ?_ FU (F 0) _ _ 0 0 (by rw [FU_eq]; omega) ⟨0, (wI T 1 1 0).1 34, rfl, by omega, setN_self.symm, rfl, rfl⟩
      rintro m r U x1 x2 x3 ⟨p, g, rfl, hp, rfl, rfl, rfl⟩ hr
      have hU : KV R (setN (wI T 1 1 0) g) f F C := (h.fr (by rw [wI_1, up2_row (by decide)]) (by rw [wI_1, up2_row (by decide)]) (fun a h1 h2 => by rw [wI_1, up2_row (by omega)])).sN
      obtain ⟨_, _, _, _, _, _, u7, _, u9, _⟩ := id hU
      unfold pX11_who_33 pX11_who_110
      rw [k3, u7.2.1]
      by_cases hpn : p < F 0
      · rw [if_neg (nI_ge hpn (by omega)), k2, k1, c_holdByFate k4 (by omega) u7 k8 k5 u9.1 u9.2 hpn, bd1_some, c_itemsOfS (u7.sN (by omega)) k8 (by omega), bd1_some, setN_o (by decide), u9.1 1 (by decide), Int32.and_comm, show ofS F p &&& C 1 = brl F C p from rfl, r00, r10]
        rw [c_weighJust (u7.sN (by omega)) k8 k4 (fun k hk => setN_s hk) (fun i hi => ⟨(brl_own k8 hi).1, (brl_own k8 hi).2.1⟩) (fun j hj => cj_fj k8 hj) e.2 (fun k hk => ⟨(hbb k hk).1, by rw [setN_o (by decide), setN_o (by decide), wI_1, up2_row (by decide)]; exact (hbb k hk).2.1⟩), bd1_some, setN_setN]
        simp only [lt, nI_1]
        rcases whS_01 (F := F) (J := fjS F C p (nI (F 3))) (A := brl F C p) (b := b) (L := L) with z | z
        · rw [z, if00]
          refine hr (m - 1) _ _ _ _ (by omega) ⟨p + 1, _, rfl, by omega, rfl, rfl, ?_⟩
          rw [fo_succ, Nat.zero_add, if_neg]
          unfold whc
          rw [z]
          decide
        · rw [z, if10]
          refine hr (m - 1) _ _ _ _ (by omega) ⟨p + 1, _, rfl, by omega, rfl, rfl, ?_⟩
          rw [fo_succ, Nat.zero_add, if_pos]
          unfold whc
          rw [z]
          decide
      · have ep : p = F 0 := by omega
        subst ep
        rw [if_pos (nI_le (Nat.le_refl _) (by omega))]
        exact ⟨g, rfl⟩
    have hml : ∃ U, zl3 (pX12_who_31 R 105 (pX12_who_65 R 105)) FU (tkS T' (nI L) 940) 0 0 = some (sB (whc F C b L) (F 0), U) ∧ Fr (fun c => c = 114) (tkS T' (nI L) 940) U := by
      refine zl3_wp (f := pX12_who_31 R 105 (pX12_who_65 R 105)) (P := fun m U x1 x2 => ∃ p, x2 = nI p ∧ p + m = F 0 ∧ Fr (fun c => c = 114) (tkS T' (nI L) 940) U ∧ x1 = fo (fun i a => if whc F C b L i = true then a ||| ((1 : Int32) <<< (nI i &&& 31)) else a) 0 p 0) (Q := fun z => ∃ U, z = some (sB (whc F C b L) (F 0), U) ∧ Fr (fun c => c = 114) (tkS T' (nI L) 940) U) ?_ FU (F 0) _ 0 0 (by rw [FU_eq]; omega) ⟨0, rfl, by omega, Fr.refl, rfl⟩
      rintro m r U x1 x2 ⟨p, rfl, hp, hfr, rfl⟩ hr
      have lU : LV R U F C := l.fr (by rw [(hfr 107 (by decide)).1, tkS_o (by decide)])
      unfold pX12_who_31 pX12_who_65
      have e0 : U.1 107 0 = nI (F 0) := lU.2.1 0 (by decide)
      rw [ix_lit (by decide) (by decide), lit_clamp (by decide), l.1, e0]
      by_cases hpn : p < F 0
      · obtain ⟨V, hV, hfV⟩ := m_isMeant lU r1 r28 e.2 (b := b) (by rw [(hfr 105 (by decide)).1, tkS_3]) (fun k hk => ⟨(hbb k hk).1, by rw [(hfr 106 (by decide)).1, tkS_o (by decide)]; exact (hbb k hk).2.2⟩) hpn
        rw [if_neg (nI_ge hpn (by omega)), hV, bd2_some]
        simp only [lt, nI_1]
        rcases whS_01 (F := F) (J := fjS F C p (nI (F 3))) (A := brl F C p) (b := b) (L := L) with z | z
        · rw [z, if00]
          refine hr (m - 1) _ _ _ (by omega) ⟨p + 1, rfl, by omega, hfr.trans hfV, ?_⟩
          rw [fo_succ, Nat.zero_add, if_neg, Int32.or_zero]
          unfold whc
          rw [z]
          decide
        · rw [z, if10]
          refine hr (m - 1) _ _ _ (by omega) ⟨p + 1, rfl, by omega, hfr.trans hfV, ?_⟩
          rw [fo_succ, Nat.zero_add, if_pos]
          unfold whc
          rw [z]
          decide
      · have ep : p = F 0 := by omega
        subst ep
        rw [if_pos (nI_le (Nat.le_refl _) (by omega))]
        exact ⟨U, rfl, hfr⟩
    obtain ⟨g, hg⟩ := hcl
    obtain ⟨U, hU, hfU⟩ := hml
    exact ⟨_, g, U, hg, hU, hfU⟩
  · have hno : ¬ ((1 : Int32) ≤ nI L ∧ nI L ≤ 6) := by
      rintro ⟨z1, z2⟩
      exact e ⟨(nI_leI (a := 1) (by decide) (by omega)).mp z1, (nI_leI (b := 6) (by omega) (by decide)).mp z2⟩
    rw [if_neg hno, if00]
    refine ⟨-1, (wI T 1 1 0).1 34, _, ?_, rfl, Fr.refl⟩
    rw [setN_self]
    by_cases z1 : nI L < 1
    · rw [if_pos z1]
    · rw [if_neg z1, if_neg]
      intro z2
      exact hno ⟨Int32.not_lt.mp z1, z2⟩
