/-! what may be said of a PERSON: the leaves -/
def cmS (v g n : Nat) : Bool := if g = 60 then decide (v < n) else if g = 61 then decide (v = n) else decide (n < v)
noncomputable def lfV (F : Nat → Nat) (C : Nat → Int32) (p : Nat) (y : Nat × Nat × Nat) : Bool := if y.1 < 4 then decide (C (4 + p) = nI y.1) else if y.1 = 4 then decide (paS F (wh (F 2) (C 2)) (brl F C p) = 1) else if y.1 = 5 then bt (brl F C p) y.2.2 else cmS (if y.1 = 6 then wtC F C p else if y.1 = 7 then paS F (wh (F 2) (C 2)) (brl F C p) else if y.1 = 8 then F (7 + p) else p) y.2.1 y.2.2
theorem and_one {x : Int32} {i : Nat} (hi : i < 32) : x &&& ((1 : Int32) <<< (nI i &&& 31)) = 0 ↔ bt x i = false := by
  constructor
  · intro h
    have := congrArg (fun z => bt z i) h
    simp only [b_and, bt_one i hi hi, b_0] at this
    simpa using this
  · intro h
    refine b_ext (fun j hj => ?_)
    rw [b_and, bt_one i hi hj, b_0]
    by_cases e : j = i
    · rw [e, h]; rfl
    · rw [decide_eq_false e, Bool.and_false]
theorem c_compares {R : Rf} {T : Mm} {s k v g n : Nat} (r3 : R s 3 = s + 2) (r4 : R s 4 = s + 3) (hk : k < 40) (hg : T.1 (s + 2) k = nI g) (hn : T.1 (s + 3) k = nI n) (h60 : 60 ≤ g ∧ g ≤ 62) (hv : v < 2 ^ 31) (hn' : n < 2 ^ 31) : pX8_compares R T s (nI v) (nI k) = some (if cmS v g n = true then 1 else 0) := by
  unfold pX8_compares cmS
  simp only [ix_nI hk (by decide)]
  rw [r3, r4, nI_clamp (by omega), hg, hn]
  simp (disch := omega) only [eq_lit, nI_leI, nI_eq]
  by_cases e0 : g = 60
  · rw [if_pos e0, if_pos e0]
    by_cases e : v < n
    · rw [if_neg (by omega), if_pos (decide_eq_true e)]
    · rw [if_pos (by omega), if_neg (by simpa using e)]
  · rw [if_neg e0, if_neg e0]
    by_cases e1 : g = 61
    · rw [if_neg (show ¬ g = 62 by omega), if_pos e1]
      by_cases e : v = n
      · rw [if_pos e, if_pos (decide_eq_true e)]
      · rw [if_neg e, if_neg (by simpa using e)]
    · rw [if_pos (show g = 62 by omega), if_neg e1]
      by_cases e : n < v
      · rw [if_neg (by omega), if_pos (decide_eq_true e)]
      · rw [if_pos (by omega), if_neg (by simpa using e)]
theorem m_leaf107 {R : Rf} {T : Mm} {v g n : Nat} {x1 x2 : Int32} (h60 : 60 ≤ g ∧ g ≤ 62) (hv : v < 2 ^ 31) (hn' : n < 2 ^ 31) : pX12_isLeaf_107 R T 105 x1 x2 (nI g) (nI n) (nI v) = some (if cmS v g n = true then 1 else 0) := by
  unfold pX12_isLeaf_107 cmS
  simp (disch := omega) only [eq_lit, nI_leI, nI_eq]
  by_cases e0 : g = 60
  · rw [if_pos e0, if_pos e0]
    by_cases e : v < n
    · rw [if_neg (by omega), if_pos (decide_eq_true e)]
    · rw [if_pos (by omega), if_neg (by simpa using e)]
  · rw [if_neg e0, if_neg e0]
    by_cases e1 : g = 61
    · rw [if_pos e1, if_pos e1]
      by_cases e : v = n
      · rw [if_pos e, if_pos (decide_eq_true e)]
      · rw [if_neg e, if_neg (by simpa using e)]
    · rw [if_neg e1, if_neg e1]
      by_cases e : n < v
      · rw [if_neg (by omega), if_pos (decide_eq_true e)]
      · rw [if_pos (by omega), if_neg (by simpa using e)]
theorem bz_1 {ρ : Type} {k : Option ρ} : bz 1 k = k := by
  have := bz_ite (c := True) (k := k)
  rwa [if_pos trivial] at this
theorem m_isLeafS {R : Rf} {T : Mm} {F : Nat → Nat} {C : Nat → Int32} (l : LV R T F C) {p : Nat} (hp : p < F 0) {y : Nat × Nat × Nat} (hy : lfO y) : pX12_isLeaf R T 105 (nI p) (nI y.1) (nI y.2.1) (nI y.2.2) = some (if lfV F C p y = true then 1 else 0) := by
  obtain ⟨y1, y2, y3, y4⟩ := hy
  obtain ⟨v0, v1, v2, v3, v4, v5, v6, vs, vo, vj⟩ := id l.2.2.1
  have hw := wtC_le l.2.2.1 (C := C) (p := p)
  have hpa := paS_le l.2.2.1 (J := wh (F 2) (C 2)) (A := brl F C p)
  have hs := vs p hp
  unfold pX12_isLeaf lfV
  simp (disch := omega) only [lit_le, eq_lit]
  by_cases e4 : y.1 < 4
  · rw [if_neg (by omega), if_pos e4, lit_add, ix_nI (by omega) (by decide), nI_clamp (by omega), l.1, l.2.2.2.2.2.2.2.2 p (by omega)]
    by_cases e : C (4 + p) = nI y.1
    · rw [if_pos e, if_pos (decide_eq_true e)]
    · rw [if_neg e, if_neg (by simpa using e)]
  rw [if_pos (by omega), if_neg e4]
  by_cases e5 : y.1 = 4
  · rw [if_pos e5, if_pos e5, l.partsNow (by omega), bd1_some]
    simp (disch := omega) only [eq_lit]
    by_cases e : paS F (wh (F 2) (C 2)) (brl F C p) = 1
    · rw [if_pos e, if_pos (decide_eq_true e)]
    · rw [if_neg e, if_neg (by simpa using e)]
  rw [if_neg e5, if_neg e5]
  by_cases e6 : y.1 = 5
  · have := y2 e6
    rw [if_pos e6, if_pos e6, l.barrel (by omega), bd1_some, m_bitOfS (by omega), bd1_some]
    cases hb : bt (brl F C p) y.2.2 with
    | false => rw [if_pos rfl, if_neg Bool.false_ne_true, bz_0]
    | true => rw [if_neg (by decide), if_pos rfl, bz_1]
  rw [if_neg e6, if_neg e6]
  have h60 := y3 (by omega)
  by_cases e7 : y.1 = 6
  · rw [if_pos e7, if_pos e7, l.weight (by omega), bd1_some, m_leaf107 h60 (by omega) (by omega)]
  rw [if_neg e7, if_neg e7]
  by_cases e8 : y.1 = 7
  · rw [if_pos e8, if_pos e8, l.partsNow (by omega), bd1_some, m_leaf107 h60 (by omega) (by omega)]
  rw [if_neg e8, if_neg e8]
  by_cases e9 : y.1 = 8
  · rw [if_pos e9, if_pos e9, lit_add, ix_nI (by omega) (by decide), nI_clamp (by omega), l.1, l.2.1 (7 + p) (by omega), m_leaf107 h60 (by omega) (by omega)]
  · rw [if_neg e9, if_neg e9, m_leaf107 h60 (by omega) (by omega)]
theorem lfV_lt {F : Nat → Nat} {C : Nat → Int32} {p i : Nat} {y : Nat × Nat × Nat} (h : y.1 = i) (hi : i < 4) : lfV F C p y = decide (C (4 + p) = nI i) := by
  unfold lfV
  rw [h, if_pos hi]
theorem lfV_4 {F : Nat → Nat} {C : Nat → Int32} {p : Nat} {y : Nat × Nat × Nat} (h : y.1 = 4) : lfV F C p y = decide (paS F (wh (F 2) (C 2)) (brl F C p) = 1) := by
  unfold lfV
  rw [h, if_neg (by decide), if_pos rfl]
theorem lfV_5 {F : Nat → Nat} {C : Nat → Int32} {p : Nat} {y : Nat × Nat × Nat} (h : y.1 = 5) : lfV F C p y = bt (brl F C p) y.2.2 := by
  unfold lfV
  rw [h, if_neg (by decide), if_neg (by decide), if_pos rfl]
theorem lfV_6 {F : Nat → Nat} {C : Nat → Int32} {p : Nat} {y : Nat × Nat × Nat} (h : y.1 = 6) : lfV F C p y = cmS (wtC F C p) y.2.1 y.2.2 := by
  unfold lfV
  rw [h, if_neg (by decide), if_neg (by decide), if_neg (by decide), if_pos rfl]
theorem lfV_7 {F : Nat → Nat} {C : Nat → Int32} {p : Nat} {y : Nat × Nat × Nat} (h : y.1 = 7) : lfV F C p y = cmS (paS F (wh (F 2) (C 2)) (brl F C p)) y.2.1 y.2.2 := by
  unfold lfV
  rw [h, if_neg (by decide), if_neg (by decide), if_neg (by decide), if_neg (by decide), if_pos rfl]
theorem lfV_8 {F : Nat → Nat} {C : Nat → Int32} {p : Nat} {y : Nat × Nat × Nat} (h : y.1 = 8) : lfV F C p y = cmS (F (7 + p)) y.2.1 y.2.2 := by
  unfold lfV
  rw [h, if_neg (by decide), if_neg (by decide), if_neg (by decide), if_neg (by decide), if_neg (by decide), if_pos rfl]
theorem lfV_9 {F : Nat → Nat} {C : Nat → Int32} {p : Nat} {y : Nat × Nat × Nat} (h : y.1 = 9) : lfV F C p y = cmS p y.2.1 y.2.2 := by
  unfold lfV
  rw [h, if_neg (by decide), if_neg (by decide), if_neg (by decide), if_neg (by decide), if_neg (by decide), if_neg (by decide)]
theorem c_isSoS {R : Rf} {T : Mm} {f s : Nat} {F : Nat → Nat} {C : Nat → Int32} {c : Cod} {ones : Nat} (h : KV R T f F C) (hS : RS R s) (h97 : 97 ≤ s) (hs : SC T s c ones) (hl : c.length < 40) {p : Nat} (hp : p < F 0) {k : Nat} (hk : k < c.length) (hy : lfO (gC c k)) : ∃ g, pX8_isSo R T s f 8 33 (nI p) (nI k) = some (if lfV F C p (gC c k) = true then 1 else 0, setN T g) := by
  obtain ⟨k1, k2, k3, k4, k5, k6, k7, k8, k9, k10⟩ := id h
  obtain ⟨y1, y2, y3, y4⟩ := hy
  obtain ⟨g1, g2, g3⟩ := hs.2.2.g k hk
  obtain ⟨r2, r3, r4⟩ := hS
  obtain ⟨v0, v1, v2, v3, v4, v5, v6, vs, vo, vj⟩ := id k8
  have hw := wtC_le k8 (C := C) (p := p)
  have hpa := paS_le k8 (J := wh (F 2) (C 2)) (A := brl F C p)
  have hstr := vs p hp
  have h9 : T.1 9 p = C (4 + p) := k9.2 p (by omega)
  obtain ⟨g, hth⟩ := c_asTheyAre (c := 8) (C := C) k4 (by omega) k7 k8 (by decide) k9.1 hp
  have gN : ∀ a, a ≠ 34 → (setN T g).1 a = T.1 a := fun a ha => setN_o ha
  unfold pX8_isSo
  rw [ix_nI (by omega) (by decide), nI_clamp (by omega), nI_clamp (by omega), r2, r4, g1, g3, k5, h9]
  generalize gC c k = y at *
  have hc : y.1 = 0 ∨ y.1 = 1 ∨ y.1 = 2 ∨ y.1 = 3 ∨ y.1 = 4 ∨ y.1 = 5 ∨ y.1 = 6 ∨ y.1 = 7 ∨ y.1 = 8 ∨ y.1 = 9 := by omega
  have st : ∀ i : Nat, ∃ g, ix (nI p) 5 (if C (4 + p) = nI i then (some (1, T) : Option (Int32 × Mm)) else some (0, T)) = some (if (decide (C (4 + p) = nI i)) = true then 1 else 0, setN T g) := fun i => by
    refine ⟨T.1 34, ?_⟩
    rw [ix_nI (by omega) (by decide), setN_self]
    by_cases e : C (4 + p) = nI i
    · rw [if_pos e, if_pos (decide_eq_true e)]
    · rw [if_neg e, if_neg (by simpa using e)]
  rcases hc with e | e | e | e | e | e | e | e | e | e
  · rw [lfV_lt e (by decide), e, if_neg (by decide), if_neg (by decide), if_neg (by decide), if_neg (by decide), if_neg (by decide), if_neg (by decide), if_neg (by decide), if_neg (by decide), if_neg (by decide), if_neg (by decide), if_neg (by decide), if_neg (by decide), if_neg (by decide), if_neg (by decide), if_pos (by decide)]
    exact st 0
  · rw [lfV_lt e (by decide), e, if_neg (by decide), if_neg (by decide), if_neg (by decide), if_neg (by decide), if_neg (by decide), if_neg (by decide), if_neg (by decide), if_neg (by decide), if_neg (by decide), if_neg (by decide), if_neg (by decide), if_neg (by decide), if_neg (by decide), if_neg (by decide), if_neg (by decide), if_pos (by decide)]
    exact st 1
  · rw [lfV_lt e (by decide), e, if_neg (by decide), if_neg (by decide), if_neg (by decide), if_neg (by decide), if_neg (by decide), if_neg (by decide), if_neg (by decide), if_neg (by decide), if_neg (by decide), if_neg (by decide), if_neg (by decide), if_neg (by decide), if_neg (by decide), if_neg (by decide), if_neg (by decide), if_neg (by decide), if_pos (by decide)]
    exact st 2
  · rw [lfV_lt e (by decide), e, if_neg (by decide), if_neg (by decide), if_neg (by decide), if_neg (by decide), if_neg (by decide), if_neg (by decide), if_neg (by decide), if_neg (by decide), if_neg (by decide), if_neg (by decide), if_neg (by decide), if_neg (by decide), if_neg (by decide), if_neg (by decide), if_neg (by decide), if_neg (by decide), if_neg (by decide), if_pos (by decide)]
    exact st 3
  · rw [lfV_4 e, e, if_neg (by decide), if_neg (by decide), if_neg (by decide), if_neg (by decide), if_neg (by decide), if_neg (by decide), if_neg (by decide), if_neg (by decide), if_neg (by decide), if_neg (by decide), if_neg (by decide), if_neg (by decide), if_neg (by decide), if_neg (by decide), if_neg (by decide), if_neg (by decide), if_neg (by decide), if_neg (by decide), if_pos (by decide), hth, bd2_some]
    refine ⟨g, ?_⟩
    simp (disch := omega) only [eq_lit]
    by_cases e' : paS F (wh (F 2) (C 2)) (brl F C p) = 1
    · rw [if_pos e', if_pos (decide_eq_true e')]
    · rw [if_neg e', if_neg (by simpa using e')]
  · rw [lfV_5 e, e, if_neg (by decide), if_neg (by decide), if_neg (by decide), if_neg (by decide), if_neg (by decide), if_neg (by decide), if_neg (by decide), if_neg (by decide), if_neg (by decide), if_neg (by decide), if_neg (by decide), if_neg (by decide), if_neg (by decide), if_neg (by decide), if_neg (by decide), if_neg (by decide), if_neg (by decide), if_neg (by decide), if_neg (by decide), if_pos (by decide), c_itemsOfS k7 k8 (by omega), bd1_some, ix_nI (by omega) (by decide), k9.1 1 (by omega)]
    have h10 := y2 e
    refine ⟨T.1 34, ?_⟩
    rw [setN_self, show C 1 &&& ofS F p = brl F C p from Int32.and_comm _ _]
    cases hb : bt (brl F C p) y.2.2 with
    | false => rw [if_pos ((and_one (by omega)).mpr hb), if_neg Bool.false_ne_true]
    | true => rw [if_neg (fun z => by rw [(and_one (by omega)).mp z] at hb; cases hb), if_pos rfl]
  · rw [lfV_6 e, e, if_neg (by decide), if_neg (by decide), if_neg (by decide), if_neg (by decide), if_neg (by decide), if_neg (by decide), if_neg (by decide), if_neg (by decide), if_neg (by decide), if_neg (by decide), if_neg (by decide), if_neg (by decide), if_neg (by decide), if_neg (by decide), if_neg (by decide), if_neg (by decide), if_neg (by decide), if_neg (by decide), if_neg (by decide), if_neg (by decide), if_pos (by decide), c_weight k7 k8 (k9.1 1 (by omega)) (by omega), bd1_some, c_compares r3 r4 (by omega) g2 g3 (y3 (by omega)) (by omega) (by omega), bd1_some, bz_ite]
    exact ⟨T.1 34, by rw [setN_self]⟩
  · rw [lfV_7 e, e, if_neg (by decide), if_neg (by decide), if_neg (by decide), if_neg (by decide), if_neg (by decide), if_neg (by decide), if_neg (by decide), if_neg (by decide), if_neg (by decide), if_neg (by decide), if_neg (by decide), if_neg (by decide), if_neg (by decide), if_neg (by decide), if_neg (by decide), if_neg (by decide), if_neg (by decide), if_neg (by decide), if_neg (by decide), if_neg (by decide), if_neg (by decide), if_pos (by decide), hth, bd2_some, c_compares r3 r4 (by omega) (by rw [gN _ (by omega)]; exact g2) (by rw [gN _ (by omega)]; exact g3) (y3 (by omega)) (by omega) (by omega), bd1_some, bz_ite]
    exact ⟨g, rfl⟩
  · rw [lfV_8 e, e, if_neg (by decide), if_neg (by decide), if_neg (by decide), if_neg (by decide), if_neg (by decide), if_neg (by decide), if_neg (by decide), if_neg (by decide), if_neg (by decide), if_neg (by decide), if_neg (by decide), if_neg (by decide), if_neg (by decide), if_neg (by decide), if_neg (by decide), if_neg (by decide), if_neg (by decide), if_neg (by decide), if_neg (by decide), if_neg (by decide), if_neg (by decide), if_neg (by decide), if_pos (by decide), ix_nI (by omega) (by decide), k7.1.1, k7.2.2.2.2.2.2.2.2.1 p hp, c_compares r3 r4 (by omega) g2 g3 (y3 (by omega)) (by omega) (by omega), bd1_some, bz_ite]
    exact ⟨T.1 34, by rw [setN_self]⟩
  · rw [lfV_9 e, e, if_neg (by decide), if_neg (by decide), if_neg (by decide), if_neg (by decide), if_neg (by decide), if_neg (by decide), if_neg (by decide), if_neg (by decide), if_neg (by decide), if_neg (by decide), if_neg (by decide), if_neg (by decide), if_neg (by decide), if_neg (by decide), if_neg (by decide), if_neg (by decide), if_neg (by decide), if_neg (by decide), if_neg (by decide), if_neg (by decide), if_neg (by decide), if_neg (by decide), if_neg (by decide), if_pos (by decide), c_compares r3 r4 (by omega) g2 g3 (y3 (by omega)) (by omega) (by omega), bd1_some, bz_ite]
    exact ⟨T.1 34, by rw [setN_self]⟩
