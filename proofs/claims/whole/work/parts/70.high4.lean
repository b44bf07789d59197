/-! HEIGHTS, whole -/
def HR (T U : Mm) (lo w : Int32) : Prop := (∀ a, a ≠ 105 → a ≠ 115 → a ≠ 116 → U.1 a = T.1 a) ∧ U.2 = T.2 ∧ (∀ k, k ≠ 29 → k ≠ 30 → k ≠ 31 → U.1 105 k = T.1 105 k) ∧ U.1 105 31 = 1 ∧ U.1 105 29 = lo ∧ U.1 105 30 = w
theorem m_hfind {R : Rf} {T : Mm} {F : Nat → Nat} {C : Nat → Int32} (l : LV R T F C) (r1 : R 105 1 = 106) (r32 : R 105 32 = 115) {b : Nat → Nat} {n : Nat} (hn : n ≤ 5) (hsz : T.1 105 3 = nI (2 * n)) (hb : ∀ k, k < 2 * n → b k < 256 ∧ T.1 106 k &&& 255 = nI (b k)) (hp : ∀ q, q < n → b (2 * q) < F 0) (ex : Mm → Int32 → Int32 → Option (Int32 × Mm)) (Q : Option (Int32 × Mm) → Prop) (hex : ∀ U, (∀ a, a ≠ 115 → U.1 a = T.1 a) → U.2 = T.2 → (∀ h, 1 ≤ h → h ≤ 30 → U.1 115 h = if HG F C b n h = true then 1 else 0) → Q (ex U (nI (cnt (HG F C b n) 31)) (match fst (HG F C b n) 1 30 with | none => 0 | some q => nI q))) : Q (zl4 (pX12_heights_74 R 105 ex) FU T 0 0 30) := by
  refine zl4_wp (f := pX12_heights_74 R 105 ex) (P := fun m U x1 x2 x3 => ∃ h, x3 = nI h ∧ h = m ∧ h ≤ 30 ∧ (∀ a, a ≠ 115 → U.1 a = T.1 a) ∧ U.2 = T.2 ∧ (∀ q, h < q → q ≤ 30 → U.1 115 q = if HG F C b n q = true then 1 else 0) ∧ (∃ k, x1 = nI k ∧ k + cnt (HG F C b n) (h + 1) = cnt (HG F C b n) 31) ∧ x2 = (match fst (HG F C b n) (h + 1) (30 - h) with | none => 0 | some q => nI q)) (Q := Q) ?_ FU 30 T 0 0 30 (by rw [FU_eq]; omega) ⟨30, rfl, rfl, by omega, fun _ _ => rfl, rfl, fun q h1 h2 => by omega, ⟨0, rfl, by rw [Nat.zero_add]⟩, rfl⟩
  rintro m r U x1 x2 x3 ⟨h, rfl, rfl, h30, hfr, hfr2, hd, ⟨k, rfl, hk⟩, rfl⟩ hr
  unfold pX12_heights_74
  by_cases hh : h = 0
  · subst hh
    rw [if_pos (by decide)]
    have e1 : cnt (HG F C b n) (0 + 1) = 0 := by
      rw [cnt_succ]
      rfl
    have ek : k = cnt (HG F C b n) 31 := by omega
    rw [ek]
    exact hex U hfr hfr2 (fun h h1 h2 => hd h (by omega) h2)
  · have lU := l.fr (hfr 107 (by decide))
    rw [if_neg (nI_nle (by omega) (by omega)), m_isHeight lU r1 hn (by rw [hfr 105 (by decide)]; exact hsz) (fun k hk => ⟨(hb k hk).1, by rw [hfr 106 (by decide)]; exact (hb k hk).2⟩) hp, bd1_some, ix_nI (by omega) (by decide), bz_ite, nI_clamp (by omega), r32]
    simp only [lt]
    rw [ix_nI (by omega) (by decide), wI_s]
    have hHG : HG F C b n h = agS F C b h n := by
      unfold HG
      have : 1 ≤ h := by omega
      simp [this]
    rw [← hHG]
    have hcs := cnt_succ (HG F C b n) h
    have hpm : nI h + (-1) = nI (h - 1) := by
      have := pk_m1 (h - 1)
      rwa [show h - 1 + 1 = h by omega] at this
    have hfs : fst (HG F C b n) (h - 1 + 1) (30 - (h - 1)) = if HG F C b n h = true then some h else fst (HG F C b n) (h + 1) (30 - h) := by
      rw [show h - 1 + 1 = h by omega, show 30 - (h - 1) = (30 - h) + 1 by omega, fst_succ]
    rw [hpm]
    have go : ∀ x1' x2', (∃ k, x1' = nI k ∧ k + cnt (HG F C b n) (h - 1 + 1) = cnt (HG F C b n) 31) → x2' = (match fst (HG F C b n) (h - 1 + 1) (30 - (h - 1)) with | none => 0 | some q => nI q) → Q (r (wI U 115 h (if HG F C b n h = true then 1 else 0)) x1' x2' (nI (h - 1))) := by
      intro x1' x2' g1 g2
      refine hr (h - 1) _ _ _ _ (by omega) ⟨h - 1, rfl, rfl, by omega, fun a ha => by rw [wI_1, up2_row ha]; exact hfr a ha, hfr2, fun q h1 h2 => ?_, g1, g2⟩
      by_cases eq : q = h
      · subst eq; rw [wI_s]
      · rw [wI_n (Or.inr eq)]; exact hd q (by omega) h2
    by_cases e : HG F C b n h = true
    · rw [if_pos e] at hcs
      simp only [if_pos e] at go ⊢
      rw [if_neg (by decide), nI_1]
      refine go _ _ ⟨k + 1, rfl, ?_⟩ ?_
      · rw [show h - 1 + 1 = h by omega]
        omega
      · rw [hfs, if_pos e]
    · rw [if_neg e] at hcs
      simp only [if_neg e] at go ⊢
      rw [if_pos trivial]
      refine go _ _ ⟨k, rfl, ?_⟩ ?_
      · rw [show h - 1 + 1 = h by omega]
        omega
      · rw [hfs, if_neg e]
theorem nm30 {H : Nat → Bool} (h0 : H 0 = false) {q : Nat → Nat} {x : Nat} : nmS H q x 31 ≤ 30 := by
  unfold nmS
  rw [show 31 = 1 + 30 by decide, cnt_add]
  have h1 : cnt (fun h => H h && decide (q h = x)) 1 = 0 := by
    rw [show (1 : Nat) = 0 + 1 from rfl, cnt_succ, h0]
    rfl
  rw [h1]
  have := cnt_le (fun i => H (1 + i) && decide (q (1 + i) = x)) 30
  omega
theorem m_hwatch {R : Rf} {T : Mm} {F : Nat → Nat} {C : Nat → Int32} (l : LV R T F C) (r32 : R 105 32 = 115) (r33 : R 105 33 = 116) {H : Nat → Bool} (h0 : H 0 = false) (hH : ∀ h, 1 ≤ h → h ≤ 30 → T.1 115 h = if H h = true then 1 else 0) (hF0 : 0 < F 0) (x1 : Int32) : ∃ U w, zl4 (pX12_heights_135 R 105 (pX12_heights_178 R 105)) FU T x1 1000000 0 = some (x1, U) ∧ bwS (fun p _ => mlS H (pnS F C p) 31) (F 0) = some w ∧ (∀ a, a ≠ 105 → a ≠ 116 → U.1 a = T.1 a) ∧ U.2 = T.2 ∧ (∀ k, k ≠ 30 → U.1 105 k = T.1 105 k) ∧ U.1 105 30 = nI w := by
  have v0 := l.2.2.1.1
  have hml : ∀ p, mlS H (pnS F C p) 31 ≤ 30 := fun p => mxS_le (fun i _ => nm30 h0)
  let G : Nat → Option Nat → Option Nat := fun p o => match o with | none => some p | some q => if mlS H (pnS F C q) 31 ≤ mlS H (pnS F C p) 31 then some q else some p
  refine zl4_wp (f := pX12_heights_135 R 105 (pX12_heights_178 R 105)) (P := fun m U y1 x3 x4 => y1 = x1 ∧ ∃ p, x4 = nI p ∧ p + m = F 0 ∧ (∀ a, a ≠ 105 → a ≠ 116 → U.1 a = T.1 a) ∧ U.2 = T.2 ∧ (∀ k, k ≠ 30 → U.1 105 k = T.1 105 k) ∧ ((p = 0 ∧ x3 = 1000000) ∨ (∃ w, fo G 0 p none = some w ∧ x3 = nI (mlS H (pnS F C w) 31) ∧ U.1 105 30 = nI w))) (Q := fun z => ∃ U w, z = some (x1, U) ∧ bwS (fun p _ => mlS H (pnS F C p) 31) (F 0) = some w ∧ (∀ a, a ≠ 105 → a ≠ 116 → U.1 a = T.1 a) ∧ U.2 = T.2 ∧ (∀ k, k ≠ 30 → U.1 105 k = T.1 105 k) ∧ U.1 105 30 = nI w) ?_ FU (F 0) T x1 1000000 0 (by rw [FU_eq]; omega) ⟨rfl, 0, rfl, by omega, fun _ _ _ => rfl, rfl, fun _ _ => rfl, Or.inl ⟨rfl, rfl⟩⟩
  rintro m r U y1 x3 x4 ⟨rfl, p, rfl, hp, hfr, hfr2, hk, hst⟩ hr
  have lU := l.fr (hfr 107 (by decide) (by decide))
  have e0 : U.1 107 0 = nI (F 0) := lU.2.1 0 (by decide)
  unfold pX12_heights_135 pX12_heights_178
  rw [ix_lit (by decide) (by decide), lit_clamp (by decide), l.1, e0]
  by_cases hpn : p < F 0
  · obtain ⟨V, hV, hfV⟩ := m_leftBy lU r32 r33 h0 (fun h h1 h2 => by rw [hfr 115 (by decide) (by decide)]; exact hH h h1 h2) hpn
    have hV2 : V.2 = U.2 := (hfV 105 (by decide)).2
    rw [if_neg (nI_ge hpn (by omega)), hV, bd2_some]
    simp only [lt, nI_1]
    have hml1 := hml p
    have fV : ∀ a, a ≠ 105 → a ≠ 116 → V.1 a = T.1 a := fun a h1 h2 => by rw [(hfV a h2).1]; exact hfr a h1 h2
    have f5 : V.1 105 = U.1 105 := (hfV 105 (by decide)).1
    rcases hst with ⟨rfl, rfl⟩ | ⟨w, hw, rfl, hw2⟩
    · rw [if_pos (show nI (mlS H (pnS F C 0) 31) < 1000000 from nI_lt (b := 1000000) (by omega) (by decide))]
      refine hr (m - 1) _ _ _ _ (by omega) ⟨rfl, 0 + 1, rfl, by omega, fun a h1 h2 => by rw [wI_1, up2_row h1]; exact fV a h1 h2, by rw [wI_2, hV2, hfr2], fun k hk' => by rw [wI_n (Or.inr hk'), f5]; exact hk k hk', Or.inr ⟨0, rfl, rfl, wI_s⟩⟩
    · have hml2 := hml w
      simp (disch := omega) only [nI_ltI]
      have hG : fo G 0 (p + 1) none = if mlS H (pnS F C w) 31 ≤ mlS H (pnS F C p) 31 then some w else some p := by
        rw [fo_succ, hw, Nat.zero_add]
      by_cases e : mlS H (pnS F C p) 31 < mlS H (pnS F C w) 31
      · rw [if_pos e]
        rw [if_neg (by omega)] at hG
        exact hr (m - 1) _ _ _ _ (by omega) ⟨rfl, p + 1, rfl, by omega, fun a h1 h2 => by rw [wI_1, up2_row h1]; exact fV a h1 h2, by rw [wI_2, hV2, hfr2], fun k hk' => by rw [wI_n (Or.inr hk'), f5]; exact hk k hk', Or.inr ⟨p, hG, rfl, wI_s⟩⟩
      · rw [if_neg e]
        rw [if_pos (by omega)] at hG
        exact hr (m - 1) _ _ _ _ (by omega) ⟨rfl, p + 1, rfl, by omega, fV, by rw [hV2, hfr2], fun k hk' => by rw [f5]; exact hk k hk', Or.inr ⟨w, hG, rfl, by rw [f5]; exact hw2⟩⟩
  · have ep : p = F 0 := by omega
    subst ep
    rw [if_pos (nI_le (Nat.le_refl _) (by omega))]
    rcases hst with ⟨z, _⟩ | ⟨w, hw, _, hw2⟩
    · omega
    · exact ⟨U, w, rfl, hw, hfr, hfr2, hk, hw2⟩
theorem bitcH {R : Rf} {T : Mm} {H : Nat → Bool} : pJ6_bitCount_0f7a4 R T (sB H 31) = some (nI (cnt H 31)) := by
  rw [c_bits32]
  congr 2
  rw [show 32 = 31 + 1 by decide, cnt_succ, if_neg]
  · exact cnt_congr (fun i hi => by rw [bt_sB _ (by decide) (by omega)]; simp [hi])
  · rw [bt_sB _ (by decide) (by decide)]
    simp
theorem sB_zero {H : Nat → Bool} : sB H 31 = 0 ↔ cnt H 31 = 0 := by
  constructor
  · intro z
    have : cnt H 31 = cnt (fun _ => false) 31 := cnt_congr (fun i hi => by
      have h1 := bt_sB H (n := 31) (by decide) (show i < 32 by omega)
      rw [z, b_0] at h1
      simpa [hi] using h1.symm)
    rw [this]
    decide
  · intro z
    apply b_zero.mpr
    intro i hi
    rw [bt_sB _ (by decide) hi]
    by_cases e : i < 31
    · cases y : H i with
      | false => simp
      | true =>
        have := cnt_pos e y
        omega
    · simp [e]
theorem k_heights {R : Rf} {T T' : Mm} {f : Nat} {F : Nat → Nat} {C : Nat → Int32} (h : KV R T f F C) (l : LV R T' F C) (r00 : R 0 0 = 1) (r06 : R 0 6 = 35) (r10 : R 1 0 = 2) (r35 : R 35 0 = 36) (r36 : ∀ p, p < 5 → R 36 p = 37 + p) (r1 : R 105 1 = 106) (r32 : R 105 32 = 115) (r33 : R 105 33 = 116) {b : Nat → Nat} {L : Nat} (hT : T.1 1 1 = nI L) (hT' : T'.1 105 2 = nI L) (hb : TB T T' b L) :
    (pX11_heights R T 0 = some (-1, wI T 1 1 0) ∧ pX12_heights R T' 105 = some (-1, tkS T' (nI L) 940)) ∨
    (∃ U V, pX11_heights R T 0 = some (0, U) ∧ Fr S34 (wI T 1 1 0) U ∧ pX12_heights R T' 105 = some (0, V) ∧ Fr (fun c => c = 115) (tkS T' (nI L) 940) V) ∨
    (∃ U V a lo w, pX11_heights R T 0 = some (a, wI (wI U 0 18 lo) 0 19 w) ∧ Fr S34 (wI T 1 1 0) U ∧ pX12_heights R T' 105 = some (a, V) ∧ HR (tkS T' (nI L) 940) V lo w) := by
  obtain ⟨hL, hbb⟩ := hb
  obtain ⟨k1, k2, k3, k4, k5, k6, k7, k8, k9, k10⟩ := id h
  have v0 := k8.1
  have lk : LV R (tkS T' (nI L) 940) F C := l.fr (tkS_o (by decide))
  unfold pX11_heights pX12_heights
  simp only [lt]
  rw [r00, hT, m_taken hT', bd1_some, tkS_3, m_isInG, bd1_some]
  by_cases e1 : 2 ≤ L ∧ L ≤ 10
  · have c1 : ¬ nI L < 2 := nI_nlt (b := 2) e1.1 (by omega)
    have c2 : ¬ (10 : Int32) < nI L := nI_nlt (a := 10) e1.2 (by decide)
    have c3 : (2 : Int32) ≤ nI L ∧ nI L ≤ 10 := ⟨nI_le (a := 2) e1.1 (by omega), nI_le (b := 10) e1.2 (by decide)⟩
    have c4 : nI L - nI L / 2 * 2 = nI (L % 2) := pk_rem (d := 2) (by omega) (by decide) (by decide)
    rw [if_neg c1, if_neg c2, if_pos c3, if10, c4]
    by_cases e2 : L % 2 = 0
    · obtain ⟨n, rfl⟩ : ∃ n, L = 2 * n := ⟨L / 2, by omega⟩
      rw [e2, if_pos (show nI 0 = 0 from rfl), if_neg (show ¬ nI 0 = 1 by decide)]
      have hF : CF R (wI T 1 1 0) f F := k7.sw (by omega)
      have hcl : zl3 (pX11_heights_37 R 0 (pX11_heights_61 R 0) (pX11_heights_69 R 0)) FU (wI T 1 1 0) (nI (2 * n)) 0 = if ∀ q, q < n → b (2 * q) < F 0 then pX11_heights_69 R 0 (wI T 1 1 0) (nI (2 * n)) else some (-1, wI T 1 1 0) := by
        refine zl3_wp (f := pX11_heights_37 R 0 (pX11_heights_61 R 0) (pX11_heights_69 R 0)) (P := fun m U x1 x2 => U = wI T 1 1 0 ∧ x1 = nI (2 * n) ∧ ∃ q, x2 = nI (2 * q) ∧ q + m = n ∧ ∀ q', q' < q → b (2 * q') < F 0) (Q := fun z => z = if ∀ q, q < n → b (2 * q) < F 0 then pX11_heights_69 R 0 (wI T 1 1 0) (nI (2 * n)) else some (-1, wI T 1 1 0)) ?_ FU n _ _ 0 (by rw [FU_eq]; omega) ⟨rfl, rfl, 0, rfl, by omega, fun q hq => by omega⟩
        rintro m r U x1 x2 ⟨rfl, rfl, q, rfl, hq, hbef⟩ hr
        unfold pX11_heights_37 pX11_heights_61
        by_cases hqn : q < n
        · obtain ⟨g1, g2, _⟩ := hbb (2 * q) (by omega)
          have g3 : (wI T 1 1 0).1 2 (2 * q) = nI (b (2 * q)) := by rw [wI_n (Or.inl (by decide))]; exact g2
          rw [if_neg (nI_ge (by omega) (by omega)), ix_nI (by omega) (by decide), nI_clamp (by omega), r00, r10, g3, k3, c_hasP hF k8, bd1_some]
          by_cases e : b (2 * q) < F 0
          · rw [if_pos (show ∃ j, j < F 0 ∧ nI (b (2 * q)) = nI j from ⟨_, e, rfl⟩), if10]
            have h2 : nI (2 * q) + 2 = nI (2 * (q + 1)) := nI_add (2 * q) 2
            rw [h2]
            refine hr (m - 1) _ _ _ (by omega) ⟨rfl, rfl, q + 1, rfl, by omega, fun q' hq' => ?_⟩
            by_cases eq : q' = q
            · rw [eq]; exact e
            · exact hbef q' (by omega)
          · rw [if_neg (show ¬ ∃ j, j < F 0 ∧ nI (b (2 * q)) = nI j from by
              rintro ⟨j, hj, ej⟩
              have := (nI_eq (by omega) (by omega)).mp ej
              omega), if00, if_neg (fun z => e (z q hqn))]
        · have e : q = n := by omega
          subst e
          rw [if_pos (nI_le (Nat.le_refl _) (by omega)), if_pos hbef]
      have hml : zl2 (pX12_heights_39 R 105 (pX12_heights_59 R 105) (pX12_heights_67 R 105)) FU (tkS T' (nI (2 * n)) 940) 0 = if ∀ q, q < n → b (2 * q) < F 0 then pX12_heights_67 R 105 (tkS T' (nI (2 * n)) 940) else some (-1, tkS T' (nI (2 * n)) 940) := by
        refine zl2_wp (f := pX12_heights_39 R 105 (pX12_heights_59 R 105) (pX12_heights_67 R 105)) (P := fun m U x2 => U = tkS T' (nI (2 * n)) 940 ∧ ∃ q, x2 = nI (2 * q) ∧ q + m = n ∧ ∀ q', q' < q → b (2 * q') < F 0) (Q := fun z => z = if ∀ q, q < n → b (2 * q) < F 0 then pX12_heights_67 R 105 (tkS T' (nI (2 * n)) 940) else some (-1, tkS T' (nI (2 * n)) 940)) ?_ FU n _ 0 (by rw [FU_eq]; omega) ⟨rfl, 0, rfl, by omega, fun q hq => by omega⟩
        rintro m r U x2 ⟨rfl, q, rfl, hq, hbef⟩ hr
        unfold pX12_heights_39 pX12_heights_59
        rw [tkS_3]
        by_cases hqn : q < n
        · obtain ⟨g1, _, g2⟩ := hbb (2 * q) (by omega)
          rw [if_neg (nI_ge (by omega) (by omega)), m_octet r1 (by omega) (by rw [tkS_o (by decide)]; exact g2), bd1_some]
          by_cases e : b (2 * q) < F 0
          · rw [lk.isP1 e, bd1_some, if10]
            have h2 : nI (2 * q) + 2 = nI (2 * (q + 1)) := nI_add (2 * q) 2
            rw [h2]
            refine hr (m - 1) _ _ (by omega) ⟨rfl, q + 1, rfl, by omega, fun q' hq' => ?_⟩
            by_cases eq : q' = q
            · rw [eq]; exact e
            · exact hbef q' (by omega)
          · rw [lk.isP0 (by
              rintro ⟨j, hj, ej⟩
              have := (nI_eq (by omega) (by omega)).mp ej
              omega), bd1_some, if00, if_neg (fun z => e (z q hqn))]
        · have e : q = n := by omega
          subst e
          rw [if_pos (nI_le (Nat.le_refl _) (by omega)), if_pos hbef]
      rw [hcl, hml]
      by_cases e3 : ∀ q, q < n → b (2 * q) < F 0
      · rw [if_pos e3, if_pos e3]
        have hF0 : 0 < F 0 := by have := e3 0 (by omega); omega
        have hK : KV R (wI T 1 1 0) f F C := h.fr (by rw [wI_1, up2_row (by decide)]) (by rw [wI_1, up2_row (by decide)]) (fun a h1 h2 => by rw [wI_1, up2_row (by omega)])
        obtain ⟨U, hU, hfU, hdU⟩ := c_fill hK r35 r36
        have h20 : HG F C b n 0 = false := by unfold HG; simp
        have hU2 : U.1 2 = T.1 2 := by rw [(hfU 2 (by unfold S34; omega)).1, wI_1, up2_row (by decide)]
        have hag := c_agreeing k8 r35 r36 (b := b) (n := n) (by omega) (fun k hk => ⟨(hbb k hk).1, by rw [hU2]; exact (hbb k hk).2.1⟩) e3 hdU
        unfold pX11_heights_69 pX11_heights_135
        rw [r06, k3, k1, k2, hU, bd1_some, r00, r10, hag, bd1_some]
        -- the reference
        have hm1 : ∃ V, (∀ a, a ≠ 115 → V.1 a = (tkS T' (nI (2 * n)) 940).1 a) ∧ V.2 = (tkS T' (nI (2 * n)) 940).2 ∧ (∀ h, 1 ≤ h → h ≤ 30 → V.1 115 h = if HG F C b n h = true then 1 else 0) ∧ pX12_heights_67 R 105 (tkS T' (nI (2 * n)) 940) = pX12_heights_112 R 105 V (nI (cnt (HG F C b n) 31)) (match fst (HG F C b n) 1 30 with | none => 0 | some q => nI q) := by
          unfold pX12_heights_67
          exact m_hfind lk r1 r32 (b := b) (n := n) (by omega) tkS_3 (fun k hk => ⟨(hbb k hk).1, by rw [tkS_o (by decide)]; exact (hbb k hk).2.2⟩) e3 (pX12_heights_112 R 105) (fun z => ∃ V, (∀ a, a ≠ 115 → V.1 a = (tkS T' (nI (2 * n)) 940).1 a) ∧ V.2 = (tkS T' (nI (2 * n)) 940).2 ∧ (∀ h, 1 ≤ h → h ≤ 30 → V.1 115 h = if HG F C b n h = true then 1 else 0) ∧ z = pX12_heights_112 R 105 V (nI (cnt (HG F C b n) 31)) (match fst (HG F C b n) 1 30 with | none => 0 | some q => nI q)) (fun V h1 h2 h3 => ⟨V, h1, h2, h3, rfl⟩)
        obtain ⟨V, hV1, hV2, hV3, hV4⟩ := hm1
        rw [hV4]
        unfold pX12_heights_112
        simp only [lt]
        have hcl31 := cnt_le (HG F C b n) 31
        by_cases e4 : cnt (HG F C b n) 31 = 0
        · have e5 : sB (HG F C b n) 31 = 0 := sB_zero.mpr e4
          rw [if_pos e5, bitcH, bd1_some, e4, if_pos (show nI 0 = 0 from rfl)]
          exact Or.inr (Or.inl ⟨U, V, rfl, hfU, rfl, fun a ha => ⟨hV1 a ha, hV2⟩⟩)
        · have e5 : ¬ sB (HG F C b n) 31 = 0 := fun z => e4 (sB_zero.mp z)
          have hfst : ∃ q, fst (HG F C b n) 1 30 = some q ∧ q ≤ 30 := by
            cases z : fst (HG F C b n) 1 30 with
            | some q => exact ⟨q, rfl, by have := (fst_some 30 1 q z).2.1; omega⟩
            | none =>
              exfalso
              apply e4
              have hz := fst_none 30 1 z
              have : cnt (HG F C b n) 31 = cnt (fun _ => false) 31 := cnt_congr (fun i hi => by
                by_cases ei : i = 0
                · rw [ei]; exact h20
                · exact hz i (by omega) (by omega))
              rw [this]
              decide
          obtain ⟨lo, hlo, hlo30⟩ := hfst
          have hbits : ∀ h, h < 31 → bt (sB (HG F C b n) 31) h = HG F C b n h := fun h hh => by
            rw [bt_sB _ (by decide) (by omega)]
            simp [hh]
          have hlo2 : fst (bt (sB (HG F C b n) 31)) 1 30 = some lo := by
            rw [← hlo]
            exact fst_congr 30 1 (fun j h1 h2 => hbits j (by omega))
          rw [if_neg e5, c_hleast, bd1_some, hlo2, hlo, if_neg (nI_ne0 (by omega) (by omega))]
          dsimp only
          have hfu0 : (wI U 0 18 (nI lo)).1 f 0 = nI (F 0) := by
            rw [wI_n (Or.inl (by omega)), (hfU f (by unfold S34; omega)).1]
            exact hF.2.1
          have hbw : pX4_bestWatched R (wI U 0 18 (nI lo)) 35 (sB (HG F C b n) 31) (nI (F 0)) = some (oI (bwS (fun p _ => mlS (HG F C b n) (pnS F C p) 31) (F 0))) := by
            refine c_bestWatched (W := fun p _ => mlS (HG F C b n) (pnS F C p) 31) (by omega) (fun p hp => ?_) (fun p _ => mxS_le (fun i _ => nm30 h20))
            exact c_mostLeft r35 (r36 p (by omega)) (by omega) hbits h20 (fun h h1 h2 => by rw [wI_n (Or.inl (by omega))]; exact hdU p hp h h1 h2) (fun h => paS_le k8)
          have lV : LV R (wI (wI V 105 31 1) 105 29 (nI lo)) F C := ((lk.fr (hV1 107 (by decide))).sw (by decide)).sw (by decide)
          obtain ⟨W, w, hW1, hW2, hW3, hW4, hW5, hW6⟩ := m_hwatch lV r32 r33 (H := HG F C b n) h20 (fun h h1 h2 => by rw [wI_n (Or.inl (by decide)), wI_n (Or.inl (by decide))]; exact hV3 h h1 h2) hF0 (nI (cnt (HG F C b n) 31))
          rw [oI_some, hfu0, hbw, bd1_some, hW2, bitcH, bd1_some, hW1, oI_some]
          refine Or.inr (Or.inr ⟨U, W, nI (cnt (HG F C b n) 31), nI lo, nI w, rfl, hfU, rfl, ?_, ?_, ?_, ?_, ?_, hW6⟩)
          · intro a h1 h2 h3
            rw [hW3 a h1 h3, wI_1, up2_row h1, wI_1, up2_row h1]
            exact hV1 a h2
          · rw [hW4, wI_2, wI_2, hV2]
          · intro k h1 h2 h3
            rw [hW5 k h2, wI_n (Or.inr h1), wI_n (Or.inr h3), hV1 105 (by decide)]
          · rw [hW5 31 (by decide), wI_n (Or.inr (by decide)), wI_s]
          · rw [hW5 29 (by decide), wI_s]
      · rw [if_neg e3, if_neg e3]
        exact Or.inl ⟨rfl, rfl⟩
    · have e3 : L % 2 = 1 := by omega
      rw [e3, if_neg (show ¬ nI 1 = 0 by decide), if_pos (show nI 1 = 1 from rfl)]
      exact Or.inl ⟨rfl, rfl⟩
  · have hno : ¬ ((2 : Int32) ≤ nI L ∧ nI L ≤ 10) := by
      rintro ⟨z1, z2⟩
      exact e1 ⟨(nI_leI (a := 2) (by decide) (by omega)).mp z1, (nI_leI (b := 10) (by omega) (by decide)).mp z2⟩
    rw [if_neg hno, if00]
    refine Or.inl ⟨?_, rfl⟩
    by_cases z1 : nI L < 2
    · rw [if_pos z1]
    · rw [if_neg z1, if_pos]
      exact Int32.not_le.mp (fun z2 => hno ⟨Int32.not_lt.mp z1, z2⟩)
