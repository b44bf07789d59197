/-! days by draws -/
theorem nI_nat (x : Int32) : nI x.toBitVec.toNat = x := Int32.toBitVec_inj.mp (BitVec.eq_of_toNat_eq (pk_tn x.toBitVec.isLt))
theorem us8_nI (x : Int32) : us x 8 = nI (x.toBitVec.toNat / 256) := by
  have h := x.toBitVec.isLt
  apply Int32.toBitVec_inj.mp
  apply BitVec.eq_of_toNat_eq
  rw [pk_tn (by omega)]
  exact pk_ushr x 8 8 (by decide)
theorem nxE : ∃ f : Int32 → Int32, ∀ x, f x = x * 1103515245 + 12345 := ⟨fun x => x * 1103515245 + 12345, fun _ => rfl⟩
/-- the next of the draws: kept shut, that nothing is multiplied out -/
noncomputable def nxS : Int32 → Int32 := Classical.choose nxE
theorem nxS_e (x : Int32) : x * 1103515245 + 12345 = nxS x := (Classical.choose_spec nxE x).symm
theorem rdE : ∃ f : Int32 → Nat → Nat, ∀ x n, f x n = (x.toBitVec.toNat / 256) % n := ⟨fun x n => (x.toBitVec.toNat / 256) % n, fun _ _ => rfl⟩
noncomputable def rdS : Int32 → Nat → Nat := Classical.choose rdE
theorem rdS_e (x : Int32) (n : Nat) : (x.toBitVec.toNat / 256) % n = rdS x n := (Classical.choose_spec rdE x n).symm
theorem rdS_lt {x : Int32} {n : Nat} (h : 0 < n) : rdS x n < n := by
  rw [← rdS_e]
  exact Nat.mod_lt _ h
theorem us_rem {x y : Int32} {n : Nat} (hy : y = nI n) (h : 0 < n) (h2 : n < 2 ^ 31) : us x 8 - us x 8 / y * y = nI (rdS x n) := by
  have h3 := x.toBitVec.isLt
  rw [us8_nI, hy, pk_rem (by omega) h h2, rdS_e]
theorem setC_wo {T : Mm} {c a k : Nat} {C : Nat → Int32} {v : Int32} (h : a ≠ c) (h' : a ≠ c + 1) : wI (setC T c C) a k v = setC (wI T a k v) c C := by
  unfold wI setC up2
  refine Prod.ext ?_ rfl
  funext b j
  by_cases hb : b = a
  · subst hb
    simp [h, h']
  · by_cases h1 : b = c
    · subst h1
      simp [hb]
    · by_cases h2 : b = c + 1
      · subst h2
        simp [hb]
      · simp [hb, h1, h2]
theorem setM_wo {T : Mm} {n a k : Nat} {C : Nat → Int32} {v : Int32} (h : a ≠ 107) : wI (setM T n C) a k v = setM (wI T a k v) n C := by
  unfold wI setM up2
  refine Prod.ext ?_ rfl
  funext b j
  by_cases hb : b = 107
  · subst hb
    have : ¬ 107 = a := fun e => h e.symm
    simp [this]
  · simp [hb]
theorem wI_wI {T : Mm} {a k : Nat} {v w : Int32} : wI (wI T a k v) a k w = wI T a k w := by
  unfold wI up2
  refine Prod.ext ?_ rfl
  funext b j
  by_cases h : b = a ∧ j = k <;> simp [h]
theorem CF.sw {R : Rf} {T : Mm} {f a k : Nat} {F : Nat → Nat} {v : Int32} (h : CF R T f F) (hc : a < f ∨ f + 8 < a) : CF R (wI T a k v) f F := h.of (fun b h1 h2 => by rw [wI_1]; exact up2_row (by omega))
theorem MF.sw {T : Mm} {F : Nat → Nat} {a k : Nat} {v : Int32} (h : MF T F) (ha : a ≠ 107) : MF (wI T a k v) F := fun j hj => by rw [wI_n (Or.inl (fun e => ha e.symm)), h j hj]
noncomputable def dpS (F : Nat → Nat) (p : Nat) (s : Int32 × (Nat → Int32)) : Int32 × (Nat → Int32) := (nxS s.1, if rdS (nxS s.1) 8 = 0 then (goS F s.2 p).2 else if rdS (nxS s.1) 8 = 1 then (frS s.2 p).2 else s.2)
noncomputable def diS (F : Nat → Nat) (s : Int32 × (Nat → Int32)) : Int32 × (Nat → Int32) :=
  if rdS (nxS s.1) 4 = 0 ∧ 0 < F 1 then (nxS (nxS s.1), if bt (s.2 1) (rdS (nxS (nxS s.1)) (F 1)) = false then (ldS F s.2 (rdS (nxS (nxS s.1)) (F 1))).2 else (unS F s.2 (rdS (nxS (nxS s.1)) (F 1))).2)
  else if rdS (nxS s.1) 4 = 1 ∧ 0 < F 2 then (nxS (nxS s.1), (bdS F s.2 (rdS (nxS (nxS s.1)) (F 2))).2)
  else (nxS s.1, s.2)
noncomputable def ddS (F : Nat → Nat) (s : Int32 × (Nat → Int32)) : Int32 × (Nat → Int32) := ((diS F (fo (fun p s => dpS F p s) 0 (F 0) s)).1, dayS F (diS F (fo (fun p s => dpS F p s) 0 (F 0) s)).2)
noncomputable def drS (F : Nat → Nat) (k : Nat) (s : Int32 × (Nat → Int32)) : Int32 × (Nat → Int32) := fo (fun _ s => ddS F s) 0 k s
def emC (T : Mm) (c : Nat) (s : Int32 × (Nat → Int32)) : Mm := setC (wI T 42 0 s.1) c s.2
def emM (T : Mm) (n : Nat) (s : Int32 × (Nat → Int32)) : Mm := setM (wI T 105 36 s.1) n s.2
theorem c_next {R : Rf} {T : Mm} {c n : Nat} {y : Int32} (h1 : 42 ≠ c) (h2 : 42 ≠ c + 1) (hy : y = nI n) (h : 0 < n) (hn : n < 2 ^ 31) (x : Int32) (C : Nat → Int32) : pX2_next R (emC T c (x, C)) 42 y = some (nI (rdS (nxS x) n), emC T c (nxS x, C)) := by
  unfold pX2_next emC
  simp only [lt]
  rw [setC_wo h1 h2, setC_o h1 h2, wI_s, wI_wI, nxS_e, setC_o h1 h2, wI_s, us_rem hy h hn, hy, if_neg (nI_nle h hn)]
  unfold nz
  rw [if_neg (nI_ne0 h hn)]
theorem m_draw {R : Rf} {T : Mm} {n m : Nat} {y : Int32} (hy : y = nI n) (h : 0 < n) (hn : n < 2 ^ 31) (x : Int32) (C : Nat → Int32) : pX12_draw R (emM T m (x, C)) 105 y = some (nI (rdS (nxS x) n), emM T m (nxS x, C)) := by
  unfold pX12_draw emM
  simp only [lt]
  rw [setM_wo (by decide), setM_o (by decide), wI_s, wI_wI, nxS_e, setM_o (by decide), wI_s, us_rem hy h hn, hy]
  unfold nz
  rw [if_neg (nI_ne0 h hn)]
theorem c_liveDay {R : Rf} {T : Mm} {f c : Nat} {F : Nat → Nat} (hF : CF R T f F) (hv : VF F) (hc : R c 4 = c + 1) (hd : c + 1 < f ∨ f + 8 < c) (h1 : 42 ≠ c) (h2 : 42 ≠ c + 1) (h3 : 42 < f) (s : Int32 × (Nat → Int32)) : pX2_liveDay R (emC T c s) 42 f c = some (emC T c (ddS F s)) := by
  have hF' : ∀ x, CF R (wI T 42 0 x) f F := fun x => hF.sw (Or.inl h3)
  have hF2 : ∀ s, CF R (emC T c s) f F := fun s => (hF' s.1).sC hd
  obtain ⟨v0, v1, v2, v3, v4, v5, v6, vs, vo, vj⟩ := id hv
  have hMW : ∀ x C j, j < F 2 → pX1_makeWhole R (emC T c (x, C)) c f (nI j) = some ((bdS F C j).1, emC T c (x, (bdS F C j).2)) := fun x C j hj => c_makeWhole (hF' x) hv hc hd hj C
  have hPI : ∀ x C i, i < F 1 → pX1_putIn R (emC T c (x, C)) c f (nI i) = some ((ldS F C i).1, emC T c (x, (ldS F C i).2)) := fun x C i hi => c_putIn (hF' x) hv hc hd hi C
  have hTO : ∀ x C i, i < F 1 → pX1_takeOut R (emC T c (x, C)) c f (nI i) = some ((unS F C i).1, emC T c (x, (unS F C i).2)) := fun x C i hi => c_takeOut (hF' x) hv hc hd hi C
  have hLG : ∀ x C p, p < F 0 → pX1_letGo R (emC T c (x, C)) c f (nI p) = some ((goS F C p).1, emC T c (x, (goS F C p).2)) := fun x C p hp => c_letGo (hF' x) hv hc hd hp C
  have hLO : ∀ x C p, p < 5 → pX1_letOut R (emC T c (x, C)) c (nI p) = some ((frS C p).1, emC T c (x, (frS C p).2)) := fun x C p hp => c_letOut hc hp C
  unfold pX2_liveDay ddS
  have hday : ∀ s, pX2_liveDay_135 R 42 f c (emC T c s) = some (emC T c (s.1, dayS F s.2)) := by
    intro s
    unfold pX2_liveDay_135 emC
    rw [c_passDay (hF' s.1) hv hc hd, bd1_some]
  have h109 : ∀ (x : Int32) (C : Nat → Int32) (u : Nat), u < 4 → pX2_liveDay_109 R 42 f c (emC T c (x, C)) (nI u) = some (if u = 1 ∧ 0 < F 2 then emC T c (nxS x, dayS F (bdS F C (rdS (nxS x) (F 2))).2) else emC T c (x, dayS F C)) := by
    intro x C u hu
    have k := hF2 (x, C)
    obtain ⟨⟨q5, q6, q7, q8, q9, q10, q11, q12⟩, f0, f1, f2, f3, f4, f14, f15, cs, co, cw, ca, cb, ch⟩ := k
    unfold pX2_liveDay_109
    rw [f2]
    simp (disch := omega) only [eq_lit]
    by_cases e : u = 1
    · rw [if_pos e]
      by_cases e2 : 0 < F 2
      · rw [if_neg (nI_nle e2 (by omega)), if_pos ⟨e, e2⟩, c_next h1 h2 rfl e2 (by omega), bd2_some]
        rw [hMW _ _ _ (rdS_lt e2), bd2_some, hday]
      · have e3 : F 2 = 0 := by omega
        rw [e3, if_pos (by decide), if_neg (by omega), hday]
    · rw [if_neg e, if_neg (fun q => e q.1), hday]
  refine zl2_forI (f := pX2_liveDay_2 R 42 f c (pX2_liveDay_51 R 42 f c)) (fun s => emC T c s) (fun p s => dpS F p s) (fun s => some (emC T c ((diS F s).1, dayS F (diS F s).2))) (F 0) (fun _ _ => True) (by omega) (fun _ _ _ _ => trivial) ?_ ?_ s trivial
  · rintro r p ⟨x, C⟩ hp _
    have k := hF2 (x, C)
    obtain ⟨⟨q5, q6, q7, q8, q9, q10, q11, q12⟩, f0, f1, f2, f3, f4, f14, f15, cs, co, cw, ca, cb, ch⟩ := k
    unfold pX2_liveDay_2 dpS
    rw [f0, if_neg (nI_ge hp (by omega)), c_next h1 h2 (y := 8) (n := 8) rfl (by decide) (by decide), bd2_some]
    have hlt := rdS_lt (x := nxS x) (n := 8) (by decide)
    simp (disch := omega) only [lt, nI_1, eq_lit]
    by_cases e : rdS (nxS x) 8 = 0
    · rw [if_pos e, if_pos e, hLG _ _ _ hp, bd2_some]
    · rw [if_neg e, if_neg e]
      by_cases e1 : rdS (nxS x) 8 = 1
      · rw [if_pos e1, if_pos e1, hLO _ _ _ (by omega), bd2_some]
      · rw [if_neg e1, if_neg e1]
  · rintro r ⟨x, C⟩ _
    have k := hF2 (x, C)
    have k2 := hF2 (nxS x, C)
    have f1' := k2.2.2.1
    obtain ⟨⟨q5, q6, q7, q8, q9, q10, q11, q12⟩, f0, f1, f2, f3, f4, f14, f15, cs, co, cw, ca, cb, ch⟩ := k
    unfold pX2_liveDay_2 pX2_liveDay_51 pX2_liveDay_106
    rw [f0, if_pos (nI_le (Nat.le_refl _) (by omega)), c_next h1 h2 (y := 4) (n := 4) rfl (by decide) (by decide), bd2_some, h109 _ _ _ (rdS_lt (by decide)), f1']
    have hlt := rdS_lt (x := nxS x) (n := 4) (by decide)
    simp (disch := omega) only [eq_lit]
    by_cases e : rdS (nxS x) 4 = 0
    · rw [if_pos e]
      by_cases e2 : 0 < F 1
      · have hx : diS F (x, C) = (nxS (nxS x), if bt (C 1) (rdS (nxS (nxS x)) (F 1)) = false then (ldS F C (rdS (nxS (nxS x)) (F 1))).2 else (unS F C (rdS (nxS (nxS x)) (F 1))).2) := if_pos ⟨e, e2⟩
        rw [if_neg (nI_nle e2 (by omega)), c_next h1 h2 rfl e2 (by omega), bd2_some, hx]
        have hi := rdS_lt (x := nxS (nxS x)) e2
        generalize rdS (nxS (nxS x)) (F 1) = i at hi ⊢
        have g3 : (emC T c (nxS (nxS x), C)).1 c 1 = C 1 := setC_c (by decide)
        rw [c_hasInside (by omega), bd1_some, g3]
        by_cases e3 : bt (C 1) i = false
        · rw [if_pos e3, if_pos rfl, if_pos e3, hPI _ _ _ hi, bd2_some, hday]
        · rw [if_neg e3, if_neg (by decide), if_neg e3, hTO _ _ _ hi, bd2_some, hday]
      · have hx : diS F (x, C) = (nxS x, C) := by
          unfold diS
          rw [if_neg (fun q => e2 q.2), if_neg (by simp only; omega)]
        have e3 : F 1 = 0 := by omega
        rw [hx, e3, if_pos (by decide), if_neg (by omega)]
    · rw [if_neg e]
      by_cases e2 : rdS (nxS x) 4 = 1 ∧ 0 < F 2
      · have hx : diS F (x, C) = (nxS (nxS x), (bdS F C (rdS (nxS (nxS x)) (F 2))).2) := by
          unfold diS
          rw [if_neg (fun q => e q.1), if_pos e2]
        rw [if_pos e2, hx]
      · have hx : diS F (x, C) = (nxS x, C) := by
          unfold diS
          rw [if_neg (fun q => e q.1), if_neg e2]
        rw [if_neg e2, hx]
