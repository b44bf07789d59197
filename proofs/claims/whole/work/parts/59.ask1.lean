/-! questions: straw, crack, drops, heaviest, apart -/
def KV (R : Rf) (T : Mm) (f : Nat) (F : Nat → Nat) (C : Nat → Int32) : Prop := R 0 1 = 8 ∧ R 0 5 = 33 ∧ R 0 11 = f ∧ R 33 0 = 34 ∧ R 8 4 = 9 ∧ 78 < f ∧ CF R T f F ∧ VF F ∧ CC T 8 C ∧ VC F C
def LV (R : Rf) (T : Mm) (F : Nat → Nat) (C : Nat → Int32) : Prop := R 105 6 = 107 ∧ MF T F ∧ VF F ∧ VC F C ∧ MC T (F 2) C
theorem KV.sN {R : Rf} {T : Mm} {f : Nat} {F : Nat → Nat} {C : Nat → Int32} {g : Nat → Int32} (h : KV R T f F C) : KV R (setN T g) f F C := by
  obtain ⟨k1, k2, k3, k4, k5, k6, k7, k8, k9, k10⟩ := h
  exact ⟨k1, k2, k3, k4, k5, k6, k7.sN (by omega), k8, k9.of (setN_o (by decide)) (setN_o (by decide)), k10⟩
theorem LV.sw {R : Rf} {T : Mm} {F : Nat → Nat} {C : Nat → Int32} {a k : Nat} {v : Int32} (h : LV R T F C) (ha : a ≠ 107) : LV R (wI T a k v) F C := by
  obtain ⟨k1, k2, k3, k4, k5⟩ := h
  exact ⟨k1, k2.sw ha, k3, k4, k5.of (fun j _ _ => wI_n (Or.inl (fun e => ha e.symm)))⟩
theorem fst_succ {c : Nat → Bool} {i k : Nat} : fst c i (k + 1) = if c i = true then some i else fst c (i + 1) k := rfl
theorem LV.isPerson {R : Rf} {T : Mm} {F : Nat → Nat} {C : Nat → Int32} (h : LV R T F C) (x : Int32) : pX12_isPerson R T 105 x = some (if ∃ j, j < F 0 ∧ x = nI j then 1 else 0) := m_isPersonS h.1 h.2.1 h.2.2.1 x
theorem LV.isItem {R : Rf} {T : Mm} {F : Nat → Nat} {C : Nat → Int32} (h : LV R T F C) (x : Int32) : pX12_isItem R T 105 x = some (if ∃ j, j < F 1 ∧ x = nI j then 1 else 0) := m_isItemS h.1 h.2.1 h.2.2.1 x
theorem LV.isJoin {R : Rf} {T : Mm} {F : Nat → Nat} {C : Nat → Int32} (h : LV R T F C) (x : Int32) : pX12_isJoin R T 105 x = some (if ∃ j, j < F 2 ∧ x = nI j then 1 else 0) := m_isJoinS h.1 h.2.1 h.2.2.1 x
theorem LV.barrel {R : Rf} {T : Mm} {F : Nat → Nat} {C : Nat → Int32} (h : LV R T F C) {p : Nat} (hp : p < 5) : pX12_barrelOf R T 105 (nI p) = some (brl F C p) := by
  have := m_barrelOfS (n := F 2) (C := C) h.1 h.2.1 h.2.2.1 hp
  rwa [h.2.2.2.2.self] at this
theorem LV.weight {R : Rf} {T : Mm} {F : Nat → Nat} {C : Nat → Int32} (h : LV R T F C) {p : Nat} (hp : p < 5) : pX12_weightOf R T 105 (nI p) = some (nI (wtC F C p)) := by
  have := m_weightOfS (n := F 2) (C := C) h.1 h.2.1 h.2.2.1 hp
  rwa [h.2.2.2.2.self] at this
theorem LV.flow {R : Rf} {T : Mm} {F : Nat → Nat} {C : Nat → Int32} (h : LV R T F C) : pX12_flowNow R T 105 = some (flS F (C 0)) := by
  have := m_flowNowS (n := F 2) (C := C) h.1 h.2.1
  rwa [h.2.2.2.2.self] at this
theorem LV.joinsFrom {R : Rf} {T : Mm} {F : Nat → Nat} {C : Nat → Int32} (h : LV R T F C) (much : Int32) : pX12_joinsFrom R T 105 much = some (jfS F (wh (F 2) (C 2)) much) := m_joinsFromS h.1 h.2.1 h.2.2.2.2.2.2.1 h.2.2.1 much
theorem LV.isDown {R : Rf} {T : Mm} {F : Nat → Nat} {C : Nat → Int32} (h : LV R T F C) {p : Nat} (hp : p < 5) : pX12_isDown R T 105 (nI p) = some (if C (4 + p) < 2 then 0 else 1) := by
  have := m_isDownS (T := T) (n := F 2) (C := C) h.1 hp
  rwa [h.2.2.2.2.self] at this
theorem LV.fateJoins {R : Rf} {T : Mm} {F : Nat → Nat} {C : Nat → Int32} (h : LV R T F C) {p : Nat} (hp : p < F 0) : pX12_fateJoins R T 105 (nI p) = some (fjS F C p (nI (F 3))) := by
  have := m_fateJoins (C := C) h.1 h.2.1 h.2.2.1 hp
  rwa [h.2.2.2.2.self] at this
theorem LV.fateOf {R : Rf} {T : Mm} {F : Nat → Nat} {C : Nat → Int32} (h : LV R T F C) {p : Nat} (hp : p < F 0) : pX12_fateOf R T 105 (nI p) = some (nI (paS F (fjS F C p (nI (F 3))) (brl F C p))) := by
  have := m_fateOf (C := C) h.1 h.2.1 h.2.2.1 hp
  rwa [h.2.2.2.2.self] at this
theorem LV.partsNow {R : Rf} {T : Mm} {F : Nat → Nat} {C : Nat → Int32} (h : LV R T F C) {p : Nat} (hp : p < 5) : pX12_partsNow R T 105 (nI p) = some (nI (paS F (wh (F 2) (C 2)) (brl F C p))) := by
  have := m_partsNow (C := C) h.1 h.2.1 h.2.2.1 hp
  rwa [h.2.2.2.2.self] at this
theorem LV.partsBy {R : Rf} {T : Mm} {F : Nat → Nat} {C : Nat → Int32} (h : LV R T F C) {p : Nat} (hp : p < F 0) (high : Int32) : pX12_partsBy R T 105 (nI p) high = some (nI (paS F (fjS F C p high) (brl F C p))) := by
  have := m_partsBy (C := C) h.1 h.2.1 h.2.2.1 hp high
  rwa [h.2.2.2.2.self] at this
theorem LV.partsOf {R : Rf} {T : Mm} {F : Nat → Nat} {C : Nat → Int32} (h : LV R T F C) (A J : Int32) : pX12_partsOf R T 105 A J = some (nI (paS F J A)) := m_partsOf h.1 h.2.1 h.2.2.1
theorem LV.weighsIn {R : Rf} {T : Mm} {F : Nat → Nat} {C : Nat → Int32} (h : LV R T F C) (x : Int32) : pX12_weighsIn R T 105 x = some (nI (wtS F x)) := m_weighsInS h.1 h.2.1 h.2.2.1 x
theorem LV.heldWith {R : Rf} {T : Mm} {F : Nat → Nat} {C : Nat → Int32} (h : LV R T F C) {i : Nat} {A J : Int32} (hi : i < 10) (hA : bt A i = true) : pX12_heldWith R T 105 (nI i) A J = some (rc F J A i) := m_heldWith h.1 h.2.1 h.2.2.1 hi hA
theorem LV.isP1 {R : Rf} {T : Mm} {F : Nat → Nat} {C : Nat → Int32} (h : LV R T F C) {p : Nat} (hp : p < F 0) : pX12_isPerson R T 105 (nI p) = some 1 := by rw [h.isPerson, if_pos ⟨p, hp, rfl⟩]
theorem LV.isP0 {R : Rf} {T : Mm} {F : Nat → Nat} {C : Nat → Int32} (h : LV R T F C) {x : Int32} (hn : ¬ ∃ j, j < F 0 ∧ x = nI j) : pX12_isPerson R T 105 x = some 0 := by rw [h.isPerson, if_neg hn]
theorem LV.isI1 {R : Rf} {T : Mm} {F : Nat → Nat} {C : Nat → Int32} (h : LV R T F C) {p : Nat} (hp : p < F 1) : pX12_isItem R T 105 (nI p) = some 1 := by rw [h.isItem, if_pos ⟨p, hp, rfl⟩]
theorem LV.isI0 {R : Rf} {T : Mm} {F : Nat → Nat} {C : Nat → Int32} (h : LV R T F C) {x : Int32} (hn : ¬ ∃ j, j < F 1 ∧ x = nI j) : pX12_isItem R T 105 x = some 0 := by rw [h.isItem, if_neg hn]
theorem LV.isJ1 {R : Rf} {T : Mm} {F : Nat → Nat} {C : Nat → Int32} (h : LV R T F C) {p : Nat} (hp : p < F 2) : pX12_isJoin R T 105 (nI p) = some 1 := by rw [h.isJoin, if_pos ⟨p, hp, rfl⟩]
theorem LV.isJ0 {R : Rf} {T : Mm} {F : Nat → Nat} {C : Nat → Int32} (h : LV R T F C) {x : Int32} (hn : ¬ ∃ j, j < F 2 ∧ x = nI j) : pX12_isJoin R T 105 x = some 0 := by rw [h.isJoin, if_neg hn]
theorem KV.hasP1 {R : Rf} {T : Mm} {f : Nat} {F : Nat → Nat} {C : Nat → Int32} (h : KV R T f F C) {p : Nat} (hp : p < F 0) : pX3_hasPerson R T f (nI p) = some 1 := by rw [c_hasP h.2.2.2.2.2.2.1 h.2.2.2.2.2.2.2.1, if_pos ⟨p, hp, rfl⟩]
theorem KV.hasP0 {R : Rf} {T : Mm} {f : Nat} {F : Nat → Nat} {C : Nat → Int32} (h : KV R T f F C) {x : Int32} (hn : ¬ ∃ j, j < F 0 ∧ x = nI j) : pX3_hasPerson R T f x = some 0 := by rw [c_hasP h.2.2.2.2.2.2.1 h.2.2.2.2.2.2.2.1, if_neg hn]
theorem KV.hasI1 {R : Rf} {T : Mm} {f : Nat} {F : Nat → Nat} {C : Nat → Int32} (h : KV R T f F C) {p : Nat} (hp : p < F 1) : pX3_hasItem R T f (nI p) = some 1 := by rw [c_hasIt h.2.2.2.2.2.2.1 h.2.2.2.2.2.2.2.1, if_pos ⟨p, hp, rfl⟩]
theorem KV.hasI0 {R : Rf} {T : Mm} {f : Nat} {F : Nat → Nat} {C : Nat → Int32} (h : KV R T f F C) {x : Int32} (hn : ¬ ∃ j, j < F 1 ∧ x = nI j) : pX3_hasItem R T f x = some 0 := by rw [c_hasIt h.2.2.2.2.2.2.1 h.2.2.2.2.2.2.2.1, if_neg hn]
theorem KV.hasJ1 {R : Rf} {T : Mm} {f : Nat} {F : Nat → Nat} {C : Nat → Int32} (h : KV R T f F C) {p : Nat} (hp : p < F 2) : pX3_hasJoin R T f (nI p) = some 1 := by rw [c_hasJo h.2.2.2.2.2.2.1 h.2.2.2.2.2.2.2.1, if_pos ⟨p, hp, rfl⟩]
theorem KV.hasJ0 {R : Rf} {T : Mm} {f : Nat} {F : Nat → Nat} {C : Nat → Int32} (h : KV R T f F C) {x : Int32} (hn : ¬ ∃ j, j < F 2 ∧ x = nI j) : pX3_hasJoin R T f x = some 0 := by rw [c_hasJo h.2.2.2.2.2.2.1 h.2.2.2.2.2.2.2.1, if_neg hn]
theorem zl2_seekC {α ρ : Type} {f : (α → Int32 → Option ρ) → α → Int32 → Option ρ} (T : α) (c : Nat → Bool) (e1 : Nat → Option ρ) (e2 : Option ρ) {n : Nat} (i0 : Nat) (h0 : i0 ≤ n) (hn : n < 100000) (hs : ∀ (r : α → Int32 → Option ρ) (i : Nat), i0 ≤ i → i < n → f r T (nI i) = if c i = true then e1 i else r T (nI (i + 1))) (he : ∀ (r : α → Int32 → Option ρ), f r T (nI n) = e2) : zl2 f FU T (nI i0) = (fst c i0 (n - i0)).elim e2 e1 := by
  have key : ∀ (k fuel i : Nat), i0 ≤ i → i + k = n → k < fuel → zl2 f fuel T (nI i) = (fst c i k).elim e2 e1 := by
    intro k
    induction k with
    | zero =>
      intro fuel i h1 hi hf
      cases fuel with
      | zero => omega
      | succ m =>
        have e : i = n := by omega
        subst e
        rw [zl2_s, he]
        rfl
    | succ k ih =>
      intro fuel i h1 hi hf
      cases fuel with
      | zero => omega
      | succ m =>
        rw [zl2_s, hs _ i h1 (by omega)]
        show _ = (if c i = true then some i else fst c (i + 1) k).elim e2 e1
        by_cases hc : c i = true
        · rw [if_pos hc, if_pos hc]
          rfl
        · rw [if_neg hc, if_neg hc]
          exact ih m (i + 1) (by omega) (by omega) (by omega)
  exact key (n - i0) FU i0 (Nat.le_refl _) (by omega) (by rw [FU_eq]; omega)
theorem c_canStill {R : Rf} {T : Mm} {f : Nat} {F : Nat → Nat} {C : Nat → Int32} (h : KV R T f F C) (x : Int32) : pX11_canStillDrop R T 0 x = some (if ∃ p, p < F 0 ∧ x = nI p ∧ C (4 + p) < 2 then 1 else 0) := by
  obtain ⟨k1, k2, k3, k4, k5, k6, k7, k8, k9, k10⟩ := h
  have v0 := k8.1
  unfold pX11_canStillDrop
  rw [k3, c_hasP k7 k8, bd1_some]
  by_cases e : ∃ j, j < F 0 ∧ x = nI j
  · rw [if_pos e]
    obtain ⟨p, hp, rfl⟩ := e
    rw [if_neg (by decide), ix_nI (by omega) (by omega), nI_clamp (by omega), k1, k5, k9.2 p (by omega)]
    have hq := k10.2.2.2.1 p (by omega)
    by_cases e2 : C (4 + p) < 2
    · have e3 : ¬ (1 : Int32) < C (4 + p) := by
        rcases hq with q | q | q | q <;> rw [q] at e2 ⊢ <;> revert e2 <;> decide
      rw [if_neg e3, if_pos ⟨p, hp, rfl, e2⟩]
    · have e3 : (1 : Int32) < C (4 + p) := by
        rcases hq with q | q | q | q <;> rw [q] at e2 ⊢ <;> revert e2 <;> decide
      rw [if_pos e3, if_neg]
      rintro ⟨q, hq, e4, e5⟩
      have := (nI_eq (by omega) (by omega)).mp e4
      subst this
      exact e2 e5
  · rw [if_neg e, if_pos rfl, if_neg]
    rintro ⟨p, hp, e2, _⟩
    exact e ⟨p, hp, e2⟩
noncomputable def stc (F : Nat → Nat) (C : Nat → Int32) (p s : Nat) : Bool := decide (paS F (jfS F (wh (F 2) (C 2)) (nI (F 3) - nI s)) (brl F C p) = 1)
theorem c_straw1 {R : Rf} {T : Mm} {f : Nat} {F : Nat → Nat} {C : Nat → Int32} (h : KV R T f F C) {p : Nat} (hp : p < F 0) (hd : C (4 + p) < 2) : ∃ g, pX11_straw R T 0 (nI p) = some (oI (fst (stc F C p) 0 (F 3)), setN T g) := by
  have hcs := c_canStill h (nI p)
  rw [if_pos ⟨p, hp, rfl, hd⟩] at hcs
  obtain ⟨k1, k2, k3, k4, k5, k6, k7, k8, k9, k10⟩ := id h
  obtain ⟨v0, v1, v2, v3, v4, v5, v6, vs, vo, vj⟩ := id k8
  have e0 : T = setN T (T.1 34) := setN_self.symm
  unfold pX11_straw
  rw [hcs, bd1_some, if_neg (by decide), k3, c_itemsOfS k7 k8 (by omega), bd1_some, k1, k9.1 1 (by decide)]
  simp only [lt]
  rw [Int32.and_comm, show ofS F p &&& C 1 = brl F C p from rfl]
  refine zl3_wp (f := pX11_straw_29 R 0 (nI p) (pX11_straw_87 R 0 (nI p)) (pX11_straw_95 R 0 (nI p))) (P := fun m U x2 x3 => ∃ s g, x3 = nI s ∧ s + m = F 3 ∧ x2 = brl F C p ∧ U = setN T g ∧ fst (stc F C p) s m = fst (stc F C p) 0 (F 3)) (Q := fun z => ∃ g, z = some (oI (fst (stc F C p) 0 (F 3)), setN T g)) ?_ FU (F 3) T _ 0 (by rw [FU_eq]; omega) ⟨0, T.1 34, rfl, by omega, rfl, e0, rfl⟩
  rintro m r U x2 x3 ⟨s, g, rfl, hs, rfl, rfl, hf⟩ hr
  have kF := k7.sN (g := g) (by omega)
  have k9' : CC (setN T g) 8 C := k9.of (setN_o (by decide)) (setN_o (by decide))
  unfold pX11_straw_29 pX11_straw_87 pX11_straw_95
  rw [k3, show (setN T g).1 f 3 = nI (F 3) from kF.2.2.2.2.1]
  by_cases hm : s < F 3
  · rw [if_neg (nI_ge hm (by omega)), k1, k9'.1 2 (by decide), c_joinsHolding kF k8 (by omega), bd1_some, k2, c_hold k4 kF k8 (by omega), bd1_some, c_number k8 k4 (fun k hk => setN_s hk), bd1_some]
    have hx : nuS (rc F (cjS F (C 2) p (nI (F 3) - nI s)) (brl F C p)) (brl F C p) 10 = paS F (jfS F (wh (F 2) (C 2)) (nI (F 3) - nI s)) (brl F C p) := by
      refine nu_own k8 (fun i hi => ⟨(brl_own k8 hi).1, (brl_own k8 hi).2.1⟩) (fun j hj => ?_)
      unfold cjS jfS
      rw [bt_sB _ (by omega) (by omega), bt_sB _ (by omega) (by omega), bt_wh (by omega) (by omega)]
      simp [hj]
    rw [hx, setN_setN]
    obtain ⟨m, rfl⟩ : ∃ m', m = m' + 1 := ⟨m - 1, by omega⟩
    have hle := paS_le k8 (J := jfS F (wh (F 2) (C 2)) (nI (F 3) - nI s)) (A := brl F C p)
    rw [fst_succ] at hf
    simp (disch := omega) only [eq_lit]
    by_cases e : paS F (jfS F (wh (F 2) (C 2)) (nI (F 3) - nI s)) (brl F C p) = 1
    · have hc : stc F C p s = true := decide_eq_true e
      rw [if_pos hc] at hf
      rw [if_pos e, ← hf]
      exact ⟨_, rfl⟩
    · have hc : ¬ stc F C p s = true := fun z => e (of_decide_eq_true z)
      rw [if_neg hc] at hf
      rw [if_neg e]
      simp only [lt, nI_1]
      exact hr m _ _ _ (by omega) ⟨s + 1, _, rfl, by omega, rfl, rfl, hf⟩
  · have e : s = F 3 := by omega
    have em : m = 0 := by omega
    subst e
    subst em
    rw [if_pos (nI_le (Nat.le_refl _) (by omega)), ← hf]
    exact ⟨g, rfl⟩
theorem fst_extra {c : Nat → Bool} {n : Nat} (h : c n = true → ∃ i, i < n ∧ c i = true) : fst c 0 (n + 1) = fst c 0 n := by
  cases z : fst c 0 n with
  | some x =>
    obtain ⟨h1, h2, h3, h4⟩ := fst_some n 0 x z
    exact fst_is (n + 1) 0 h1 (by omega) h3 h4
  | none =>
    have hn := fst_none n 0 z
    apply fst_no
    intro j h1 h2
    by_cases e : j = n
    · subst e
      cases y : c j with
      | false => rfl
      | true =>
        obtain ⟨i, hi, hc⟩ := h y
        rw [hn i (by omega) (by omega)] at hc
        cases hc
    · exact hn j h1 (by omega)
theorem nuF_0 (q : Nat → Int32) : ∀ n, nuF q 0 n = (0, 0)
  | 0 => rfl
  | n + 1 => by
    rw [nuF_succ, nuF_0 q n]
    unfold nuT
    rw [if_pos (b_0 _)]
theorem paS_0 {F : Nat → Nat} {J : Int32} : paS F J 0 = 0 := by
  unfold paS nuS
  rw [nuF_0]
theorem oI_elim {o : Option Nat} {T : Mm} : o.elim (some ((-1 : Int32), T)) (fun x => some (nI x, T)) = some (oI o, T) := by cases o <;> rfl
theorem m_straw1 {R : Rf} {T : Mm} {F : Nat → Nat} {C : Nat → Int32} (h : LV R T F C) {p : Nat} (hp : p < F 0) (hd : C (4 + p) < 2) : pX12_straw R T 105 (nI p) = some (oI (fst (stc F C p) 0 (F 3)), wI T 105 0 0) := by
  have l := h.sw (a := 105) (k := 0) (v := 0) (by decide)
  unfold pX12_straw
  simp only [lt]
  generalize wI T 105 0 0 = U at *
  obtain ⟨l1, l2, l3, l4, l5⟩ := id l
  obtain ⟨v0, v1, v2, v3, v4, v5, v6, vs, vo, vj⟩ := id l3
  rw [l.isP1 hp, bd1_some, if_neg (by decide), l.isDown (by omega), bd1_some, if_pos hd, if_pos rfl, l.barrel (by omega), bd1_some]
  by_cases e : brl F C p = 0
  · rw [if_pos e]
    have : fst (stc F C p) 0 (F 3) = none := by
      apply fst_no
      intro j _ _
      unfold stc
      rw [e, paS_0]
      rfl
    rw [this]
    rfl
  · rw [if_neg e]
    have key := zl2_seekC (f := pX12_straw_33 R 105 (nI p) (pX12_straw_68 R 105 (nI p)) (pX12_straw_76 R 105 (nI p))) U (stc F C p) (fun s => some (nI s, U)) (some (-1, U)) (n := F 3 + 1) 0 (by omega) (by omega) ?_ ?_
    · rw [show (0 : Int32) = nI 0 from rfl, key, oI_elim]
      rw [show F 3 + 1 - 0 = F 3 + 1 by omega, fst_extra]
      intro hc
      refine ⟨F 3 - 1, by omega, ?_⟩
      unfold stc at hc ⊢
      have : jfS F (wh (F 2) (C 2)) (nI (F 3) - nI (F 3 - 1)) = jfS F (wh (F 2) (C 2)) (nI (F 3) - nI (F 3)) := by
        unfold jfS
        apply sB_congr
        intro j hj
        have hf := (vj j hj).2.2.2.2
        rw [pk_sub (by omega), pk_sub (by omega)]
        have h1 : nI (F 3 - (F 3 - 1)) ≤ nI (F (64 + j)) := nI_le (by omega) (by omega)
        have h2 : nI (F 3 - F 3) ≤ nI (F (64 + j)) := nI_le (by omega) (by omega)
        rw [decide_eq_true h1, decide_eq_true h2]
      rw [this]
      exact hc
    · intro r s _ hs
      unfold pX12_straw_33 pX12_straw_68
      have hle := paS_le l3 (J := jfS F (wh (F 2) (C 2)) (nI (F 3) - nI s)) (A := brl F C p)
      have e3 : U.1 107 3 = nI (F 3) := l2 3 (by decide)
      simp (disch := omega) only [lt, jn, bd1_some, bd2_some, ix_nI, ix_lit, nI_clamp, lit_clamp, lit_add, add_lit, nI_add, nI_leI, nI_ltI, nI_eq, lit_le, le_lit, lit_lt, lt_lit, lit_eq, eq_lit, if_pos, if_neg, l1, e3, l.barrel, l.joinsFrom, l.partsOf]
      unfold stc
      simp only [decide_eq_true_iff]
    · intro r
      unfold pX12_straw_33 pX12_straw_76
      have e3 : U.1 107 3 = nI (F 3) := l2 3 (by decide)
      simp (disch := omega) only [lt, jn, bd1_some, bd2_some, ix_nI, ix_lit, nI_clamp, lit_clamp, lit_add, add_lit, nI_add, nI_leI, nI_ltI, nI_eq, lit_le, le_lit, lit_lt, lt_lit, lit_eq, eq_lit, if_pos, if_neg, l1, e3]
