/-! the law from its entry -/
set_option maxRecDepth 100000 in
set_option maxHeartbeats 4000000 in
theorem whole_start {p : Program} {e : Env} {s : State} {m : MethodId} {below : List Frame} {meth : Method} {c : Code} (l : Launch) (hl : l.stackTraces = false) {b L : Nat} {xs : Nat → Int32} (hL : L ≤ 3072) (C0 : lw_At p s m meth c b L xs) : W p l e room_1 s m #[Value.ref b] below meth c s.heap [] 0 0 (lw_Z below #[Value.ref b] s) (entryFrame m ([Value.ref b] : List Value).toArray 7) := by
  obtain ⟨hx, hb, hr, hml, hown, hts, hX, hbl, hlocks, hgv⟩ := id C0
  have hgt : ∀ w ∈ gtb, w.before #[Value.ref b] s = true := fun w hw => hts w (List.mem_filter.mp hw).1
  obtain ⟨adK, adV, ad, hEX, hXT⟩ := st_E hts hgv
  obtain ⟨D, cy, hK⟩ := st_K hgt hEX.1
  have KW : OkW (adK, adV, s.heap.size) (LX p l e s m b below meth c 0 0) l D cy (fun q : Nat => s.heap.size ≤ q) cL_law RL 7 room_1 := ⟨⟨hx, hb, hml, hown, hgt⟩, trivial, hlocks, hK, rfl, rfl, fun _ h => h, trivial, hEX, rfl, fun _ h => h⟩
  have J : Yj (LX p l e s m b below meth c 0 0) D (fun q : Nat => s.heap.size ≤ q) 7 (lw_Z below #[Value.ref b] s) [] 0 0 [some (.ref b), none, none, none, none, none, none] [] 0 := by
    refine w_mkP KW (ctX11 tT_ok) clX11 tyX11_ok hfX11 qlCX11 qlTX11 qlIX11 rfl rfl qlNX11 qlDX11 ql_18 (by decide +kernel) (by decide) (by decide) (by decide) rfl dL_law_0 dL_law_3 dL_law_4 (fun q r hr1 => ?_)
    obtain ⟨u, v, Tt⟩ := r
    obtain rfl : Tt = tT := hr1
    refine w_astore_n KW dL_law_7 rfl rfl ?_
    refine w_mkP KW (ctX12 tM_ok) clX12 tyX12_ok hfX12 qlCX12 qlTX12 qlIX12 rfl rfl qlNX12 qlDX12 ql_21 (by decide +kernel) (by decide) (by decide) (by decide) rfl dL_law_8 dL_law_11 dL_law_12 (fun q2 r2 hr2 => ?_)
    obtain ⟨w, Tm⟩ := r2
    obtain rfl : Tm = tM := hr2
    refine w_astore_n KW dL_law_15 rfl rfl ?_
    refine w_iconst KW 1 dL_law_16 rfl ?_
    refine w_newa KW 2 (1, .inr (.inl (fun _ => 0))) p237 rfl rfl (fun _ => rfl) (by decide) rfl (by decide) (by decide) (by decide) dL_law_17 (fun qo => ?_)
    refine w_astore_n KW dL_law_19 rfl rfl ?_
    refine w_iconst KW 0 dL_law_20 rfl ?_
    refine w_istore KW dL_law_21 rfl rfl ?_
    intro H locs ls hP hD hS h
    obtain ⟨E, hE⟩ : ∃ E : State → Prop, E = fun U => SX adK adV (fun q => s.heap.size ≤ q) U U.heap ∧ XT ad s.heap.size U := ⟨_, rfl⟩
    have hP' := w0_P (E := E) (show va_P D vwCl (wsM cy tT tM q u v q2 w qo) H from hP)
    have hD' := w0_D (D := D) (E := E) (show va_D (fun q : Nat => s.heap.size ≤ q) (wsM cy tT tM q u v q2 w qo) from hD)
    obtain ⟨g, hg⟩ : ∃ g : Gl, g = g0 D cy E tT tM q u v q2 w qo := ⟨_, rfl⟩
    have hh : lh ls 7 (lvL g b (nI 0)) := by rw [hg]; exact h
    rw [← hg] at hP' hD'
    have g1 : g.1 = D := by rw [hg]; rfl
    have g2 : g.2.1 = cy := by rw [hg]; rfl
    have g4 : g.2.2.2.1 = kdL := by rw [hg]; rfl
    have g5 : g.2.2.2.2 = E := by rw [hg]; rfl
    have hin : ∀ q : Nat, Aw g q → s.heap.size ≤ q := by
      rintro q ⟨i, hi, rfl⟩
      exact hD'.2 i _ (ws_at hi)
    have hKp : Kp g := by
      unfold Kp
      rw [g5, hE]
      exact ⟨fun s1 U hW hq h1 => ⟨h1.1.keep hW (fun a ha hna => hq a ha (fun z => hna (hin a z))), h1.2.keep hW (fun a ha hna => hq a ha (fun z => hna (hin a z)))⟩, fun s1 U hv hh1 h1 => ⟨h1.1.same hv hh1, h1.2.same hv hh1⟩⟩
    have hEs : g.2.2.2.2 s := by
      rw [g5, hE]
      exact ⟨hEX.2.1, hXT⟩
    have hTH : TH g ad s.heap.size := ⟨fun U h1 => by rw [g5, hE] at h1; exact h1.2, hin⟩
    have hSH : SH g adK adV s.heap.size := ⟨fun U h1 => by rw [g5, hE] at h1; exact h1.1, hin⟩
    have hKg : va_K g.1 vwCl (tyL g.2.1) s := by rw [g1, g2]; exact hK
    have hOk : ∀ cn sn : Nat, cn ≤ 601024 → sn ≤ 7293034 → Ok (LX p l e s m b below meth c cn sn) g l cL_law RL 7 (some .boolean) room_1 := fun cn sn h1 h2 => ⟨⟨hx, hb, hml, hown, hgt⟩, hr, hlocks, hKg, rfl, rfl, h1, h2, hin, hKp, hEs, fun q hq ha => absurd ha (Nat.not_le.mpr hq)⟩
    have hPg : va_P g.1 vwCl (wsOf g R0 T0) H := by rw [g1]; exact hP'
    exact law_loop hx hb hr hlocks hOk g4 hTH hSH hl (fun _ _ => ⟨hX, hbl, Nat.not_le.mpr hbl⟩) hL 512 0 125 8445 R0 T0 (Nat.zero_le _) (by omega) (by decide) (by decide) iv0 H locs ls ⟨hPg, hD', hS, ty0 g4⟩ hh
  rw [lg_entry_eq]
  exact J s.heap [] _ (fun k q h => by simp at h) ⟨fun i j p q h => by simp at h, fun k q h => by simp at h⟩ va_S.rf (lh_entry (av := [.ref b]) (Nat.le_of_ble_eq_true rfl) rfl)
