/-! the law's end (from the skeleton) and its loop (gen_loop.py) -/
def R_law : String := "GoingOverLaw"
def lw_P (b : Addr) (xs : List Int32) (args : Array Value) (s : State) : Prop := args = #[.ref b] ∧ s.IntsAt b xs ∧ xs.length ≤ 3072 ∧ (Jvm.Cond.and given_1 narrow_1).before args s = true
def lw_Q (_ : Array Value) (s : State) (o : Outcome) (t : State) : Prop := o = .returned (some (.int 1)) ∧ Framed s o t [] 601024 7293034
def lw_Z (below : List Frame) (a : Array Value) (s : State) : State → Prop := fun t => ∃ o, t.status = .running ∧ Ended t below o ∧ lw_Q a s o t
/-- the law's own end, with 1 on the stack, nothing written that was there before, its room as the claim has it -/
theorem lw_ret {p : Program} {l : Launch} {e : Env} {s : State} {m : MethodId} {below : List Frame} {meth : Method} {c : Code} {b : Nat} (hx : p.tables.exec = Jvm.exec) (hb : c.code = code) (hr : meth.sig.returnType = ret) (hlocks : meth.locks = false) {pc : Nat} {H : Heap} {ls : Array Slot} (hdg : decode code pc = .ok (.ireturn, 1)) : W p l e room_1 s m #[Value.ref b] below meth c H [] 601024 7293034 (lw_Z below #[Value.ref b] s) (F0 m pc ls [.int 1]) := by
  intro T hT X
  obtain ⟨fs, hret, hrun, hended, hW, hframe⟩ := X.leave (v := some (.int 1)) (hlocks := hlocks) (fun h => by rw [hr] at h; cases h)
  have hmeth' : T.vm.method? m = some meth := X.method'
  refine ⟨T.setFrames fs, ?_, .returned (some (.int 1)), hrun, hended, rfl, ⟨_, rfl⟩, hW, hframe⟩
  jvm_step X.here [X.here.top, hx, hb, hdg, hmeth', hr, ret, narrow_b1]
  (try refine ⟨rfl, ?_⟩); (try refine ⟨rfl, ?_⟩)
  first | (intro acts; rw [hret _ acts rfl rfl rfl]) | rw [hret _ _ rfl rfl rfl]
  exact Steps.refl _
/-- what holds at the law's entry: the machine, the code, the tables' words (any of lw_tbl by 'hts w (by decide +kernel)'), the script of L ints xs at the cell b, what the Statement gives of the start (any of its parts by flat_of_before) -/
def lw_At (p : Program) (s : State) (m : MethodId) (meth : Method) (c : Code) (b L : Nat) (xs : Nat → Int32) : Prop :=
  p.tables.exec = Jvm.exec ∧ c.code = code ∧ meth.sig.returnType = ret ∧ c.maxLocals = 7 ∧ s.vm.findClass R_law = some m.cls ∧ (∀ w ∈ lw_tbl, w.before #[Value.ref b] s = true) ∧ va_X b L xs s s.heap ∧ b < s.heap.size ∧ meth.locks = false ∧ (Jvm.Cond.and given_1 narrow_1).before #[Value.ref b] s = true
abbrev LX (p : Program) (l : Launch) (e : Env) (s : State) (m : MethodId) (b : Nat) (below : List Frame) (meth : Method) (c : Code) (cn sn : Nat) : Cx := (p, l, e, room_1, s, m, #[Value.ref b], below, meth, c, cn, sn, fun q : Nat => s.heap.size ≤ q)
theorem nI_sub6 {i L : Nat} (hL : L ≤ 3072) (hi : i ≤ 4000) (h : ¬ Int32.ofNat L - 6 < nI i) : i + 6 ≤ L := by
  rcases Nat.lt_or_ge L 6 with q | q
  · exfalso
    apply h
    have h0 : Int32.ofNat L - 6 < 0 := by
      have : L = 0 ∨ L = 1 ∨ L = 2 ∨ L = 3 ∨ L = 4 ∨ L = 5 := by omega
      rcases this with rfl | rfl | rfl | rfl | rfl | rfl <;> decide
    have h1 : (0 : Int32) ≤ nI i := (nI_leI (a := 0) (by decide) (by omega)).mpr (Nat.zero_le i)
    exact Int32.lt_of_lt_of_le h0 h1
  · have e : Int32.ofNat L - 6 = nI (L - 6) := by
      have : nI (L - 6) + 6 = Int32.ofNat L := by
        show nI (L - 6) + nI 6 = Int32.ofNat L
        rw [nI_add, Nat.sub_add_cancel q]
        rfl
      rw [← this, Int32.add_sub_cancel]
    rw [e] at h
    rcases Nat.lt_or_ge (L - 6) i with z | z
    · exact absurd (nI_lt z (by omega)) h
    · omega
set_option maxRecDepth 100000 in
theorem law_loop {p : Program} {l : Launch} {e : Env} {s : State} {m : MethodId} {b : Nat} {below : List Frame} {meth : Method} {c : Code} {g : Gl} {L : Nat} {xs : Nat → Int32} {ad adK adV : Nat → Nat} {sz : Nat} (hx : p.tables.exec = Jvm.exec) (hb : c.code = code) (hr : meth.sig.returnType = ret) (hlocks : meth.locks = false) (hK : ∀ cn sn : Nat, cn ≤ 601024 → sn ≤ 7293034 → Ok (LX p l e s m b below meth c cn sn) g l cL_law RL 7 (some .boolean) room_1) (hG : g.2.2.2.1 = kdL) (hTH : TH g ad sz) (hSH : SH g adK adV sz) (hl : l.stackTraces = false) (hs : ∀ cn sn : Nat, SAr (LX p l e s m b below meth c cn sn) b L xs) (hL : L ≤ 3072) : ∀ (n i cn sn : Nat) (R : Rf) (T : Mm), i ≤ L → L ≤ i + 6 * n + 5 → cn + n ≤ 601024 → sn + 6 * n ≤ 7293034 → IV R T → Zj (LX p l e s m b below meth c cn sn) g 7 (lw_Z below #[Value.ref b] s) R T (lvL g b (nI i)) [] 23 := by
  intro n
  induction n with
  | zero =>
    intro i cn sn R T hi hn hc hsn hiv
    have K := hK cn sn (by omega) (by omega)
    have hend : Zj (LX p l e s m b below meth c cn sn) g 7 (lw_Z below #[Value.ref b] s) R T (lvL g b (nI i)) [] 1325 := by
      refine z_iconst K 1 dL_law_1325 rfl ?_
      intro H locs ls hw h
      refine va_forget (fun q hq => hw.2.2.1.2.2 q hq) ?_
      refine W.widen (k := 601024) (n := 7293034) (show cn ≤ 601024 by omega) (show sn ≤ 7293034 by omega) ?_
      exact lw_ret hx hb hr hlocks dL_law_1326
    refine z_iload K dL_law_23 rfl ?_
    refine z_aload_n K dL_law_25 rfl ?_
    refine z_slen K (hs cn sn) dL_law_26 ?_
    refine z_bipush K 6 dL_law_27 rfl ?_
    refine z_isub K dL_law_29 ?_
    refine z_icmp_gt K 1325 dL_law_30 (by decide) (fun _ => hend) (fun cq => ?_)
    have := nI_sub6 hL (by omega) cq
    omega
  | succ n ih =>
    intro i cn sn R T hi hn hc hsn hiv
    have K := hK cn sn (by omega) (by omega)
    have hend : Zj (LX p l e s m b below meth c cn sn) g 7 (lw_Z below #[Value.ref b] s) R T (lvL g b (nI i)) [] 1325 := by
      refine z_iconst K 1 dL_law_1325 rfl ?_
      intro H locs ls hw h
      refine va_forget (fun q hq => hw.2.2.1.2.2 q hq) ?_
      refine W.widen (k := 601024) (n := 7293034) (show cn ≤ 601024 by omega) (show sn ≤ 7293034 by omega) ?_
      exact lw_ret hx hb hr hlocks dL_law_1326
    refine z_iload K dL_law_23 rfl ?_
    refine z_aload_n K dL_law_25 rfl ?_
    refine z_slen K (hs cn sn) dL_law_26 ?_
    refine z_bipush K 6 dL_law_27 rfl ?_
    refine z_isub K dL_law_29 ?_
    refine z_icmp_gt K 1325 dL_law_30 (by decide) (fun _ => hend) (fun cq => ?_)
    have hi6 := nI_sub6 hL (by omega) cq
    have e6 : nI i + 6 = nI (i + 6) := nI_add i 6
    have kk : ∀ (R' : Rf) (V' : Mm), IV R' V' → Zj (LX p l e s m b below meth c cn sn) g 7 (lw_Z below #[Value.ref b] s) R' V' (lvL g b (nI i)) [] 1319 := by
      intro R' V' h
      refine z_iinc K 6 dL_law_1319 rfl rfl rfl rfl ?_
      show Zj (LX p l e s m b below meth c cn sn) g 7 (lw_Z below #[Value.ref b] s) R' V' (lvL g b (nI i + 6)) [] 1322
      rw [e6]
      exact z_goto K 23 dL_law_1322 (by decide) (ih (i + 6) cn sn R' V' (by omega) (by omega) (by omega) (by omega) h)
    have K2 := hK (cn + 1) (sn + 6) (by omega) (by omega)
    have kk2 : ∀ (R' : Rf) (V' : Mm), IV R' V' → Zj (Xg (LX p l e s m b below meth c cn sn) 1 6) g 7 (lw_Z below #[Value.ref b] s) R' V' (lvL g b (nI i)) [] 1319 := by
      intro R' V' h
      show Zj (LX p l e s m b below meth c (cn + 1) (sn + 6)) g 7 (lw_Z below #[Value.ref b] s) R' V' (lvL g b (nI i)) [] 1319
      refine z_iinc K2 6 dL_law_1319 rfl rfl rfl rfl ?_
      show Zj (LX p l e s m b below meth c (cn + 1) (sn + 6)) g 7 (lw_Z below #[Value.ref b] s) R' V' (lvL g b (nI i + 6)) [] 1322
      rw [e6]
      exact z_goto K2 23 dL_law_1322 (by decide) (ih (i + 6) (cn + 1) (sn + 6) R' V' (by omega) (by omega) (by omega) (by omega) h)
    have hroom : cn + 1 ≤ room_1.cells ∧ sn + 6 ≤ room_1.slots := ⟨by show cn + 1 ≤ 601024; omega, by show sn + 6 ≤ 7293034; omega⟩
    refine z_aload_n K dL_law_33 rfl ?_
    refine z_iload K dL_law_34 rfl ?_
    refine z_sld K (hs cn sn) (vp_in_nI (show i < L by omega) (by omega)) dL_law_36 ?_
    refine z_bipush K 63 dL_law_37 rfl ?_
    refine z_iand K dL_law_39 ?_
    generalize xs (nI i).toNatClampNeg &&& 63 = y
    by_cases c0 : y = 0
    · exact z_tin K 220 0 c0 dL_law_40 (by decide) (by decide) rfl (by decide) (lc_0 K hG hSH (hs cn sn) hL hi6 hiv kk)
    by_cases c1 : y = 1
    · exact z_tin K 293 1 c1 dL_law_40 (by decide) (by decide) rfl (by decide) (lc_1 K hG hSH (hs cn sn) hL hi6 hiv kk)
    by_cases c2 : y = 2
    · exact z_tin K 318 2 c2 dL_law_40 (by decide) (by decide) rfl (by decide) (lc_2 K hG hSH (hs cn sn) hL hi6 hiv kk)
    by_cases c3 : y = 3
    · exact z_tin K 331 3 c3 dL_law_40 (by decide) (by decide) rfl (by decide) (lc_3 K hG hSH (hs cn sn) hL hi6 hiv kk)
    by_cases c4 : y = 4
    · exact z_tin K 344 4 c4 dL_law_40 (by decide) (by decide) rfl (by decide) (lc_4 K hG hTH hl (hs cn sn) hL hi6 hroom hiv kk2)
    by_cases c5 : y = 5
    · exact z_tin K 412 5 c5 dL_law_40 (by decide) (by decide) rfl (by decide) (lc_5 K hG hSH (hs cn sn) hL hi6 hiv kk)
    by_cases c6 : y = 6
    · exact z_tin K 449 6 c6 dL_law_40 (by decide) (by decide) rfl (by decide) (lc_6 K hG hSH (hs cn sn) hL hi6 hiv kk)
    by_cases c7 : y = 7
    · exact z_tin K 486 7 c7 dL_law_40 (by decide) (by decide) rfl (by decide) (lc_7 K hG hSH (hs cn sn) hL hi6 hiv kk)
    by_cases c8 : y = 8
    · exact z_tin K 511 8 c8 dL_law_40 (by decide) (by decide) rfl (by decide) (lc_8 K hG hSH (hs cn sn) hL hi6 hiv kk)
    by_cases c9 : y = 9
    · exact z_tin K 536 9 c9 dL_law_40 (by decide) (by decide) rfl (by decide) (lc_9 K hG hSH (hs cn sn) hL hi6 hiv kk)
    by_cases c10 : y = 10
    · exact z_tin K 561 10 c10 dL_law_40 (by decide) (by decide) rfl (by decide) (lc_10 K hG hSH (hs cn sn) hL hi6 hiv kk)
    by_cases c11 : y = 11
    · exact z_tin K 586 11 c11 dL_law_40 (by decide) (by decide) rfl (by decide) (lc_11 K hG hSH (hs cn sn) hL hi6 hiv kk)
    by_cases c12 : y = 12
    · exact z_tin K 611 12 c12 dL_law_40 (by decide) (by decide) rfl (by decide) (lc_12 K hG hSH (hs cn sn) hL hi6 hiv kk)
    by_cases c13 : y = 13
    · exact z_tin K 636 13 c13 dL_law_40 (by decide) (by decide) rfl (by decide) (lc_13 K hG hSH (hs cn sn) hL hi6 hiv kk)
    by_cases c14 : y = 14
    · exact z_tin K 661 14 c14 dL_law_40 (by decide) (by decide) rfl (by decide) (lc_14 K hG hSH (hs cn sn) hL hi6 hiv kk)
    by_cases c15 : y = 15
    · exact z_tin K 674 15 c15 dL_law_40 (by decide) (by decide) rfl (by decide) (lc_15 K hG hSH (hs cn sn) hL hi6 hiv kk)
    by_cases c16 : y = 16
    · exact z_tin K 699 16 c16 dL_law_40 (by decide) (by decide) rfl (by decide) (lc_16 K hG hSH (hs cn sn) hL hi6 hiv kk)
    by_cases c17 : y = 17
    · exact z_tin K 724 17 c17 dL_law_40 (by decide) (by decide) rfl (by decide) (lc_17 K hG hSH (hs cn sn) hL hi6 hiv kk)
    by_cases c18 : y = 18
    · exact z_tin K 749 18 c18 dL_law_40 (by decide) (by decide) rfl (by decide) (lc_18 K hG hSH (hs cn sn) hL hi6 hiv kk)
    by_cases c19 : y = 19
    · exact z_tin K 762 19 c19 dL_law_40 (by decide) (by decide) rfl (by decide) (lc_19 K hG hSH (hs cn sn) hL hi6 hiv kk)
    by_cases c20 : y = 20
    · exact z_tin K 787 20 c20 dL_law_40 (by decide) (by decide) rfl (by decide) (lc_20 K hG hSH (hs cn sn) hL hi6 hiv kk)
    by_cases c21 : y = 21
    · exact z_tin K 800 21 c21 dL_law_40 (by decide) (by decide) rfl (by decide) (lc_21 K hG hSH (hs cn sn) hL hi6 hiv kk)
    by_cases c22 : y = 22
    · exact z_tin K 837 22 c22 dL_law_40 (by decide) (by decide) rfl (by decide) (lc_22 K hG hSH (hs cn sn) hL hi6 hiv kk)
    by_cases c23 : y = 23
    · exact z_tin K 862 23 c23 dL_law_40 (by decide) (by decide) rfl (by decide) (lc_23 K hG hSH (hs cn sn) hL hi6 hiv kk)
    by_cases c24 : y = 24
    · exact z_tin K 887 24 c24 dL_law_40 (by decide) (by decide) rfl (by decide) (lc_24 K hG hSH (hs cn sn) hL hi6 hiv kk)
    by_cases c25 : y = 25
    · exact z_tin K 900 25 c25 dL_law_40 (by decide) (by decide) rfl (by decide) (lc_25 K hG hSH (hs cn sn) hL hi6 hiv kk)
    by_cases c26 : y = 26
    · exact z_tin K 913 26 c26 dL_law_40 (by decide) (by decide) rfl (by decide) (lc_26 K hG hSH (hs cn sn) hL hi6 hiv kk)
    by_cases c27 : y = 27
    · exact z_tin K 926 27 c27 dL_law_40 (by decide) (by decide) rfl (by decide) (lc_27 K hG hSH (hs cn sn) hL hi6 hiv kk)
    by_cases c28 : y = 28
    · exact z_tin K 939 28 c28 dL_law_40 (by decide) (by decide) rfl (by decide) (lc_28 K hG hSH (hs cn sn) hL hi6 hiv kk)
    by_cases c29 : y = 29
    · exact z_tin K 952 29 c29 dL_law_40 (by decide) (by decide) rfl (by decide) (lc_29 K hG hTH hl (hs cn sn) hL hi6 hroom hiv kk2)
    by_cases c30 : y = 30
    · exact z_tin K 1020 30 c30 dL_law_40 (by decide) (by decide) rfl (by decide) (lc_30 K hG hSH (hs cn sn) hL hi6 hiv kk)
    by_cases c31 : y = 31
    · exact z_tin K 1045 31 c31 dL_law_40 (by decide) (by decide) rfl (by decide) (lc_31 K hG hSH (hs cn sn) hL hi6 hiv kk)
    by_cases c32 : y = 32
    · exact z_tin K 1070 32 c32 dL_law_40 (by decide) (by decide) rfl (by decide) (lc_32 K hG hSH (hs cn sn) hL hi6 hiv kk)
    by_cases c33 : y = 33
    · exact z_tin K 1107 33 c33 dL_law_40 (by decide) (by decide) rfl (by decide) (lc_33 K hG hSH (hs cn sn) hL hi6 hiv kk)
    by_cases c34 : y = 34
    · exact z_tin K 1156 34 c34 dL_law_40 (by decide) (by decide) rfl (by decide) (lc_34 K hG hSH (hs cn sn) hL hi6 hiv kk)
    by_cases c35 : y = 35
    · exact z_tin K 1181 35 c35 dL_law_40 (by decide) (by decide) rfl (by decide) (lc_35 K hG hSH (hs cn sn) hL hi6 hiv kk)
    by_cases c36 : y = 36
    · exact z_tin K 1206 36 c36 dL_law_40 (by decide) (by decide) rfl (by decide) (lc_36 K hG hSH (hs cn sn) hL hi6 hiv kk)
    by_cases c37 : y = 37
    · exact z_tin K 1219 37 c37 dL_law_40 (by decide) (by decide) rfl (by decide) (lc_37 K hG hSH (hs cn sn) hL hi6 hiv kk)
    by_cases c38 : y = 38
    · exact z_tin K 1244 38 c38 dL_law_40 (by decide) (by decide) rfl (by decide) (lc_38 K hG hSH (hs cn sn) hL hi6 hiv kk)
    by_cases c39 : y = 39
    · exact z_tin K 1269 39 c39 dL_law_40 (by decide) (by decide) rfl (by decide) (lc_39 K hG hSH (hs cn sn) hL hi6 hiv kk)
    by_cases c40 : y = 40
    · exact z_tin K 1294 40 c40 dL_law_40 (by decide) (by decide) rfl (by decide) (lc_40 K hG hSH (hs cn sn) hL hi6 hiv kk)
    exact z_tout K 1319 41 (lt_p (lt_s (lt_s (lt_s (lt_s (lt_s (lt_s (lt_s (lt_s (lt_s (lt_s (lt_s (lt_s (lt_s (lt_s (lt_s (lt_s (lt_s (lt_s (lt_s (lt_s (lt_s (lt_s (lt_s (lt_s (lt_s (lt_s (lt_s (lt_s (lt_s (lt_s (lt_s (lt_s (lt_s (lt_s (lt_s (lt_s (lt_s (lt_s (lt_s (lt_s (lt_s lt_0 c0) c1) c2) c3) c4) c5) c6) c7) c8) c9) c10) c11) c12) c13) c14) c15) c16) c17) c18) c19) c20) c21) c22) c23) c24) c25) c26) c27) c28) c29) c30) c31) c32) c33) c34) c35) c36) c37) c38) c39) c40)) dL_law_40 (by decide) (by decide) (by decide) (kk R T hiv)
