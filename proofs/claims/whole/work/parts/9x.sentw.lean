/-! a SENTENCE's codes: nothing is wanting when they are lived -/
def nbS : List Nat → Nat
  | [] => 0
  | x :: o => (if x = 21 ∨ x = 22 then 1 else 0) + nbS o
theorem nbS_y {x : Nat} {o : List Nat} (h : x = 21 ∨ x = 22) : nbS (x :: o) = 1 + nbS o := by
  show (if x = 21 ∨ x = 22 then 1 else 0) + nbS o = _
  rw [if_pos h]
theorem nbS_n {x : Nat} {o : List Nat} (h : ¬ (x = 21 ∨ x = 22)) : nbS (x :: o) = nbS o := by
  show (if x = 21 ∨ x = 22 then 1 else 0) + nbS o = _
  rw [if_neg h, Nat.zero_add]
def lfO (y : Nat × Nat × Nat) : Prop := y.1 < 10 ∧ (y.1 = 5 → y.2.2 < 10) ∧ (6 ≤ y.1 → 60 ≤ y.2.1 ∧ y.2.1 ≤ 62) ∧ y.2.2 ≤ 999
def WD : Cod → Nat → Prop
  | [], v => v = 0
  | y :: l, v => 1 ≤ v ∧ ((y.1 = 20 ∧ WD l v) ∨ ((y.1 = 21 ∨ y.1 = 22) ∧ WD l (v + 1)) ∨ (lfO y ∧ WD l (v - 1)))
theorem ntS_wd : ∀ (o : List Nat) (c : Cod) (d v : Nat), 1 ≤ v → WD c v → WD (ntS o c d).2.1 v ∧ nbS (ntS o c d).1 = nbS o
  | [], c, d, v, h1, h => ⟨h, rfl⟩
  | x :: o, c, d, v, h1, h => by
    by_cases e : x = 20
    · subst e
      rw [ntS_20, nbS_n (by decide)]
      exact ntS_wd o _ _ v h1 ⟨h1, Or.inl ⟨rfl, h⟩⟩
    · rw [ntS_no e]
      exact ⟨h, rfl⟩
theorem joS_wd {m : Nat} : ∀ (o : List Nat) (c : Cod), WD c (nbS o + 1) → WD (joS m o c).2 (nbS (joS m o c).1 + 1)
  | [], c, h => h
  | x :: o, c, h => by
    by_cases e : x = 21 ∨ (x = 22 ∧ m = 22)
    · rw [joS_y e]
      rw [nbS_y (by omega)] at h
      exact joS_wd o _ ⟨by omega, Or.inr (Or.inl ⟨show x = 21 ∨ x = 22 by omega, by rw [Nat.add_comm 1] at h; exact h⟩)⟩
    · rw [joS_n e]
      exact h
theorem naP_lt {b : Nat → Nat} {L M t i n : Nat} {c : Nat → Bool} (h : naP b L M t (fst c 0 n) = paO i) : i < n := by
  unfold naP at h
  by_cases e : kkS b L M t = 3
  · rw [if_pos e] at h
    cases hf : fst c 0 n with
    | none => rw [hf] at h; cases h
    | some j =>
      rw [hf] at h
      cases h
      have := (fst_some n 0 _ hf).2.1; omega
  · rw [if_neg e] at h; cases h
theorem opS_wd {b : Nat → Nat} {L M t ones d : Nat} {F : Nat → Nat} {N : Nat → List Nat} {o : List Nat} {c : Cod} {w' : Bool} {o' : List Nat} {c' : Cod} {ones' d' t' : Nat} (hv : VF F) (h : opS b L M F N o c ones d t = paO (w', o', c', ones', d', t')) (k : WD c (nbS o)) : WD c' (nbS o' + (if w' = true then 1 else 0)) := by
  have v1 := hv.2.1
  have leaf : ∀ y, lfO y → WD (y :: c) (nbS o + (if true = true then 1 else 0)) := fun y hy => by
    rw [if_pos rfl]
    exact ⟨by omega, Or.inr (Or.inr ⟨hy, k⟩)⟩
  unfold opS at h
  by_cases e1 : (kkS b L M t = 4 ∧ 13 ≤ vvS b L t) ∨ (kkS b L M t = 5 ∧ vvS b L t = 40)
  · rw [if_pos e1] at h
    by_cases e2 : ones = 20 ∨ 8 < d
    · rw [if_pos e2] at h; cases h
    rw [if_neg e2] at h
    by_cases e3 : kkS b L M t = 5
    · rw [if_pos e3] at h
      cases h
      rw [nbS_n (by decide)]
      exact k
    rw [if_neg e3] at h
    have h4 : kkS b L M t = 4 := by omega
    have hv24 : vvS b L t < 24 := (kw_some ((kk_word (Or.inr h4)).2.2 h4)).1
    by_cases e4 : vvS b L t = 13
    · rw [if_pos e4] at h
      cases h
      rw [nbS_n (by decide)]
      exact k
    rw [if_neg e4] at h
    by_cases e5 : vvS b L t < 19
    · rw [if_pos e5] at h
      cases h
      exact leaf _ ⟨by show vvS b L t - 14 < 10; omega, fun z => by exact absurd (show vvS b L t - 14 = 5 from z) (by omega), fun z => by exact absurd (show 6 ≤ vvS b L t - 14 from z) (by omega), by show 0 ≤ 999; omega⟩
    rw [if_neg e5] at h
    by_cases e6 : vvS b L t = 19
    · rw [if_pos e6] at h
      obtain ⟨i, hi, h2⟩ := paD_okI h
      cases h2
      have := naP_lt hi
      exact leaf _ ⟨by show 5 < 10; omega, fun _ => by show i < 10; omega, fun z => by exact absurd (show 6 ≤ 5 from z) (by omega), by show i ≤ 999; omega⟩
    rw [if_neg e6] at h
    by_cases e7 : kkS b L M (t + 1) = 5 ∧ 60 ≤ vvS b L (t + 1) ∧ vvS b L (t + 1) ≤ 62
    · rw [if_pos e7] at h
      obtain ⟨i, hi, h2⟩ := paD_okI h
      cases h2
      have hi9 : i ≤ 999 := by
        unfold nuP at hi
        by_cases g1 : kkS b L M (t + 2) = 2
        · rw [if_pos g1] at hi
          by_cases g2 : 0 ≤ vvS b L (t + 2) ∧ vvS b L (t + 2) ≤ 999
          · rw [if_pos g2] at hi; cases hi; exact g2.2
          · rw [if_neg g2] at hi; cases hi
        · rw [if_neg g1] at hi; cases hi
      exact leaf _ ⟨by show vvS b L t - 14 < 10; omega, fun z => by exact absurd (show vvS b L t - 14 = 5 from z) (by omega), fun _ => e7.2, hi9⟩
    · rw [if_neg e7] at h; cases h
  · rw [if_neg e1] at h; cases h
theorem beS_wd {b : Nat → Nat} {L M t ones d : Nat} {o : List Nat} {c : Cod} {r : Sum SSt (Cod × Nat)} (h : beS b L M o c ones d t = paO r) (k : WD c (nbS o + 1)) : (∀ w' o' c' ones' d' t', r = Sum.inl (w', o', c', ones', d', t') → WD c' (nbS o' + (if w' = true then 1 else 0))) ∧ ∀ c' ones', r = Sum.inr (c', ones') → WD c' 1 := by
  obtain ⟨n1, n2⟩ := ntS_wd o c d _ (by omega) k
  unfold beS at h
  generalize ho1 : (ntS o c d).1 = o1 at *
  generalize hc1 : (ntS o c d).2.1 = c1 at *
  generalize hd1 : (ntS o c d).2.2 = d1 at *
  rw [← n2] at n1
  have j1 := joS_wd (m := 21) o1 c1 n1
  have j2 := joS_wd (m := 22) o1 c1 n1
  by_cases e0 : kkS b L M t = 0 ∧ ¬ M < L
  · rw [if_pos e0] at h
    by_cases e : (joS 22 o1 c1).1 = []
    · rw [if_pos e] at h
      cases h
      rw [e] at j2
      exact ⟨fun _ _ _ _ _ _ z => (by cases z), fun c' ones' z => (by cases z; exact j2)⟩
    · rw [if_neg e] at h; cases h
  rw [if_neg e0] at h
  by_cases e12 : kkS b L M t = 4 ∧ vvS b L t = 12
  · rw [if_pos e12] at h
    cases h
    refine ⟨fun w' o' c' ones' d' t' z => ?_, fun c' ones' z => by cases z⟩
    cases z
    rw [nbS_y (Or.inl rfl), Nat.add_comm 1]
    exact j1
  rw [if_neg e12] at h
  by_cases e11 : kkS b L M t = 4 ∧ vvS b L t = 11
  · rw [if_pos e11] at h
    cases h
    refine ⟨fun w' o' c' ones' d' t' z => ?_, fun c' ones' z => by cases z⟩
    cases z
    rw [nbS_y (Or.inr rfl), Nat.add_comm 1]
    exact j2
  rw [if_neg e11] at h
  by_cases e41 : (kkS b L M t = 5 ∧ vvS b L t = 41) ∧ (joS 22 o1 c1).1 ≠ []
  · rw [if_pos e41] at h
    cases h
    refine ⟨fun w' o' c' ones' d' t' z => ?_, fun c' ones' z => by cases z⟩
    cases z
    generalize ho2 : (joS 22 o1 c1).1 = o2 at *
    cases o2 with
    | nil => exact absurd rfl e41.2
    | cons x l =>
      have ht := joS_top ho2
      rw [nbS_n (by omega)] at j2
      exact j2
  · rw [if_neg e41] at h; cases h
theorem ruS_wd {b : Nat → Nat} {L M : Nat} {F : Nat → Nat} {N : Nat → List Nat} (hv : VF F) : ∀ (m : Nat) (w : Bool) (o : List Nat) (c : Cod) (ones d t : Nat) (c' : Cod) (ones' : Nat), WD c (nbS o + (if w = true then 1 else 0)) → ruS b L M F N m (w, o, c, ones, d, t) = paO (c', ones') → WD c' 1 := by
  intro m
  induction m with
  | zero => intro w o c ones d t c' ones' _ h; cases h
  | succ m ih =>
    intro w o c ones d t c' ones' k h
    rw [ruS_succ] at h
    obtain ⟨r, h1, h2⟩ := paD_okI h
    cases w with
    | false =>
      rw [stS_w] at h1
      obtain ⟨s', g1, g2⟩ := paD_okI h1
      cases g2
      obtain ⟨w', o', c2, ones2, d', t'⟩ := s'
      exact ih w' o' c2 ones2 d' t' c' ones' (opS_wd hv g1 k) h2
    | true =>
      rw [stS_b] at h1
      obtain ⟨g1, g2⟩ := beS_wd h1 k
      cases r with
      | inl s' =>
        obtain ⟨w', o', c2, ones2, d', t'⟩ := s'
        exact ih w' o' c2 ones2 d' t' c' ones' (g1 _ _ _ _ _ _ rfl) h2
      | inr s' =>
        obtain ⟨c2, ones2⟩ := s'
        cases h2
        exact g2 _ _ rfl
/-- the k-th code, from the earliest on -/
def gC : Cod → Nat → Nat × Nat × Nat
  | [], _ => (0, 0, 0)
  | y :: l, i => if i = l.length then y else gC l i
theorem gC_s {y : Nat × Nat × Nat} {l : Cod} : gC (y :: l) l.length = y := if_pos rfl
theorem gC_n {y : Nat × Nat × Nat} {l : Cod} {i : Nat} (h : i < l.length) : gC (y :: l) i = gC l i := if_neg (by omega)
theorem ClM.g {T : Mm} {s : Nat} : ∀ {c : Cod}, ClM T s c → ∀ i, i < c.length → T.1 (s + 1) i = nI (wcS (gC c i).1) ∧ T.1 (s + 2) i = nI (gC c i).2.1 ∧ T.1 (s + 3) i = nI (gC c i).2.2
  | [], _, i, hi => absurd hi (Nat.not_lt_zero i)
  | y :: l, h, i, hi => by
    obtain ⟨h1, h2, h3, h4⟩ := h
    by_cases e : i = l.length
    · subst e
      rw [gC_s]
      exact ⟨h1, h2, h3⟩
    · have : i < l.length := by simp only [List.length_cons] at hi; omega
      rw [gC_n this]
      exact ClM.g h4 i this
theorem SW.g {T : Mm} {o a : Nat} : ∀ {c : Cod}, SW T o a c → ∀ i, i < c.length → T.1 a (o + 3 * i) = nI (gC c i).1 ∧ T.1 a (o + 3 * i + 1) = nI (gC c i).2.1 ∧ T.1 a (o + 3 * i + 2) = nI (gC c i).2.2
  | [], _, i, hi => absurd hi (Nat.not_lt_zero i)
  | y :: l, h, i, hi => by
    obtain ⟨h1, h2, h3, h4⟩ := h
    by_cases e : i = l.length
    · subst e
      rw [gC_s]
      exact ⟨h1, h2, h3⟩
    · have : i < l.length := by simp only [List.length_cons] at hi; omega
      rw [gC_n this]
      exact SW.g h4 i this
def vD (G : Nat → Nat × Nat × Nat) : Nat → Nat
  | 0 => 0
  | k + 1 => if (G k).1 = 20 then vD G k else if (G k).1 = 21 ∨ (G k).1 = 22 then vD G k - 1 else vD G k + 1
theorem vD_congr {G G' : Nat → Nat × Nat × Nat} : ∀ (n : Nat), (∀ i, i < n → G i = G' i) → vD G n = vD G' n
  | 0, _ => rfl
  | n + 1, h => by
    show (if (G n).1 = 20 then vD G n else if (G n).1 = 21 ∨ (G n).1 = 22 then vD G n - 1 else vD G n + 1) = (if (G' n).1 = 20 then vD G' n else if (G' n).1 = 21 ∨ (G' n).1 = 22 then vD G' n - 1 else vD G' n + 1)
    rw [vD_congr n (fun i hi => h i (by omega)), h n (Nat.lt_succ_self n)]
/-- every code finds what it needs -/
def LG (G : Nat → Nat × Nat × Nat) (n : Nat) : Prop := ∀ k, k < n → ((G k).1 = 20 ∧ 1 ≤ vD G k) ∨ (((G k).1 = 21 ∨ (G k).1 = 22) ∧ 2 ≤ vD G k) ∨ lfO (G k)
theorem WD.lg : ∀ {c : Cod} {v : Nat}, WD c v → LG (gC c) c.length ∧ vD (gC c) c.length = v
  | [], v, h => ⟨fun k hk => absurd hk (Nat.not_lt_zero k), (show v = 0 from h).symm⟩
  | y :: l, v, h => by
    obtain ⟨h1, h2⟩ := h
    have cg : ∀ k, k ≤ l.length → vD (gC (y :: l)) k = vD (gC l) k := fun k hk => vD_congr k (fun i hi => gC_n (by omega))
    have key : ∀ u, WD l u → ((y.1 = 20 ∧ 1 ≤ u) ∨ ((y.1 = 21 ∨ y.1 = 22) ∧ 2 ≤ u) ∨ lfO y) → LG (gC (y :: l)) (y :: l).length ∧ vD (gC (y :: l)) (y :: l).length = (if y.1 = 20 then u else if y.1 = 21 ∨ y.1 = 22 then u - 1 else u + 1) := by
      intro u hu hy
      obtain ⟨g1, g2⟩ := WD.lg hu
      refine ⟨fun k hk => ?_, ?_⟩
      · by_cases e : k = l.length
        · subst e
          rw [gC_s, cg _ (Nat.le_refl _), g2]
          exact hy
        · have : k < l.length := by simp only [List.length_cons] at hk; omega
          rw [gC_n this, cg k (by omega)]
          exact g1 k this
      · show (if (gC (y :: l) l.length).1 = 20 then vD (gC (y :: l)) l.length else if (gC (y :: l) l.length).1 = 21 ∨ (gC (y :: l) l.length).1 = 22 then vD (gC (y :: l)) l.length - 1 else vD (gC (y :: l)) l.length + 1) = _
        rw [gC_s, cg _ (Nat.le_refl _), g2]
    rcases h2 with ⟨e, hl⟩ | ⟨e, hl⟩ | ⟨e, hl⟩
    · obtain ⟨g1, g2⟩ := key v hl (Or.inl ⟨e, h1⟩)
      exact ⟨g1, by rw [g2, if_pos e]⟩
    · obtain ⟨g1, g2⟩ := key (v + 1) hl (Or.inr (Or.inl ⟨e, by omega⟩))
      exact ⟨g1, by rw [g2, if_neg (by omega), if_pos e]; omega⟩
    · obtain ⟨g1, g2⟩ := key (v - 1) hl (Or.inr (Or.inr e))
      have := e.1
      exact ⟨g1, by rw [g2, if_neg (by omega), if_neg (by omega)]; omega⟩
theorem vD_step {G : Nat → Nat × Nat × Nat} {k : Nat} : vD G (k + 1) = if (G k).1 = 20 then vD G k else if (G k).1 = 21 ∨ (G k).1 = 22 then vD G k - 1 else vD G k + 1 := rfl
theorem vD_le {G : Nat → Nat × Nat × Nat} : ∀ k, vD G k ≤ k
  | 0 => Nat.le_refl _
  | k + 1 => by
    have := vD_le (G := G) k
    rw [vD_step]
    split
    · omega
    · split <;> omega
theorem vD_down {G : Nat → Nat × Nat × Nat} {k : Nat} : ∀ j, vD G k ≤ vD G (k + j) + j
  | 0 => Nat.le_refl _
  | j + 1 => by
    have := vD_down (G := G) (k := k) j
    rw [show k + (j + 1) = (k + j) + 1 from rfl, vD_step]
    split
    · omega
    · split <;> omega
theorem vD_20 {c : Cod} (h : WD c 1) (hl : c.length < 40) {k : Nat} (hk : k ≤ c.length) : vD (gC c) k ≤ 20 := by
  have h1 := h.lg.2
  have h2 := vD_le (G := gC c) k
  have h3 := vD_down (G := gC c) (k := k) (c.length - k)
  rw [show k + (c.length - k) = c.length by omega, h1] at h3
  omega
