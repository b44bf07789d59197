/-! what the tables and the premises give at the law's entry (gen_start.py) -/
theorem qlTX0 : Cond.instantiable RX0 4 ∈ gtb := tb 381 (by decide +kernel) rfl
theorem qlTX1 : Cond.instantiable RX1 5 ∈ gtb := tb 327 (by decide +kernel) rfl
theorem qlTX2 : Cond.instantiable RX2 1 ∈ gtb := tb 423 (by decide +kernel) rfl
theorem qlTX3 : Cond.instantiable RX3 16 ∈ gtb := tb 240 (by decide +kernel) rfl
theorem qlTX4 : Cond.instantiable RX4 1 ∈ gtb := tb 411 (by decide +kernel) rfl
theorem qlTX5 : Cond.instantiable RX5 4 ∈ gtb := tb 473 (by decide +kernel) rfl
theorem qlTX6 : Cond.instantiable RX6 1 ∈ gtb := tb 401 (by decide +kernel) rfl
theorem qlTX7 : Cond.instantiable RX7 3 ∈ gtb := tb 361 (by decide +kernel) rfl
theorem qlTX8 : Cond.instantiable RX8 5 ∈ gtb := tb 448 (by decide +kernel) rfl
theorem qlTX9 : Cond.instantiable RX9 2 ∈ gtb := tb 433 (by decide +kernel) rfl
theorem qlTX10 : Cond.instantiable RX10 12 ∈ gtb := tb 138 (by decide +kernel) rfl
theorem st_arrP {args : Array Value} {s : State} {ty : FieldType} (h : (Cond.arrayClass ty).before args s = true) : ∃ cA : ClassId, ArrOfT s cA ty ∧ s.vm.findClass ("[" ++ ty.toString) = some cA := by
  obtain ⟨c, k, comp, h1, h2, h3⟩ := Cond.arrayClass_spec h
  exact ⟨c, fun N z => ⟨(fun k h => by cases h), k, h2, comp, h3⟩, h1⟩
theorem st_arrO {s : State} {C : String} (h : va_AO C s) : ∃ cA : ClassId, ArrOfT s cA (.object C) ∧ va_RA s cA (.object C) := by
  obtain ⟨comp, c, k, h1, h2, h3, h4, h5⟩ := Cond.arrayOver_spec h
  exact ⟨c, fun N z => ⟨(fun k h => by cases h), k, h3, comp, h4⟩, k, comp, h3, h4, h1, h5⟩
theorem st_arrA {s : State} {t : FieldType} (h : va_AOA t s) : ∃ cA : ClassId, ArrOfT s cA (.array t) ∧ s.vm.findClass ("[" ++ (FieldType.array t).toString) = some cA := by
  obtain ⟨comp, c, k, h1, h2, h3, h4, h5⟩ := arrayOverA_spec h
  exact ⟨c, fun N z => ⟨(fun k h => by cases h), k, h3, comp, h4⟩, h5⟩
theorem ws_byte : Cond.arrayClass .byte ∈ gtb := tb 238 (by decide +kernel) rfl
theorem ws_int : Cond.arrayClass .int ∈ gtb := tb 236 (by decide +kernel) rfl
theorem ws_long : Cond.arrayClass .long ∈ gtb := tb 237 (by decide +kernel) rfl
theorem ws_bool : Cond.arrayClass .boolean ∈ gtb := tb 1489 (by decide +kernel) rfl
theorem st_K {args : Array Value} {s : State} (hts : ∀ w ∈ gtb, w.before args s = true) (h0 : EX0 s) : ∃ (D : va_G) (cy : Nat → ClassId), va_K D vwCl (tyL cy) s := by
  obtain ⟨c0, i0, h0k⟩ := u_known (C := RX0) (T := TX0) (N := 4) (n := 4) hts clX0.2.1 (hts _ qlTX0)
  obtain ⟨c1, i1, h1k⟩ := u_known (C := RX1) (T := TX1) (N := 5) (n := 5) hts clX1.2.1 (hts _ qlTX1)
  obtain ⟨c2, i2, h2k⟩ := u_known (C := RX2) (T := TX2) (N := 1) (n := 1) hts clX2.2.1 (hts _ qlTX2)
  obtain ⟨c3, i3, h3k⟩ := u_known (C := RX3) (T := TX3) (N := 16) (n := 16) hts clX3.2.1 (hts _ qlTX3)
  obtain ⟨c4, i4, h4k⟩ := u_known (C := RX4) (T := TX4) (N := 1) (n := 1) hts clX4.2.1 (hts _ qlTX4)
  obtain ⟨c5, i5, h5k⟩ := u_known (C := RX5) (T := TX5) (N := 4) (n := 4) hts clX5.2.1 (hts _ qlTX5)
  obtain ⟨c6, i6, h6k⟩ := u_known (C := RX6) (T := TX6) (N := 1) (n := 1) hts clX6.2.1 (hts _ qlTX6)
  obtain ⟨c7, i7, h7k⟩ := u_known (C := RX7) (T := TX7) (N := 3) (n := 3) hts clX7.2.1 (hts _ qlTX7)
  obtain ⟨c8, i8, h8k⟩ := u_known (C := RX8) (T := TX8) (N := 5) (n := 5) hts clX8.2.1 (hts _ qlTX8)
  obtain ⟨c9, i9, h9k⟩ := u_known (C := RX9) (T := TX9) (N := 2) (n := 2) hts clX9.2.1 (hts _ qlTX9)
  obtain ⟨c10, i10, h10k⟩ := u_known (C := RX10) (T := TX10) (N := 12) (n := 12) hts clX10.2.1 (hts _ qlTX10)
  obtain ⟨c11, i11, h11k⟩ := u_known (C := RX11) (T := TX11) (N := 20) (n := 20) hts clX11.2.1 (hts _ qlTX11)
  obtain ⟨c12, i12, h12k⟩ := u_known (C := RX12) (T := TX12) (N := 50) (n := 50) hts clX12.2.1 (hts _ qlTX12)
  obtain ⟨y0, a0, b0⟩ := st_arrP (hts _ ws_byte)
  obtain ⟨y1, a1, b1⟩ := st_arrP (hts _ ws_int)
  obtain ⟨y2, a2, b2⟩ := st_arrP (hts _ ws_long)
  obtain ⟨y3, a3, b3⟩ := st_arrP (hts _ ws_bool)
  obtain ⟨y4, a4, b4⟩ := st_arrO h0.1
  obtain ⟨y5, a5, b5⟩ := st_arrO h0.2.1
  obtain ⟨y6, a6, b6⟩ := st_arrA h0.2.2.1
  refine ⟨(fun k => [c0, c1, c2, c3, c4, c5, c6, c7, c8, c9, c10, c11, c12].getD k c0, fun k => [i0, i1, i2, i3, i4, i5, i6, i7, i8, i9, i10, i11, i12].getD k i0), fun t => [y0, y1, y2, y3, y4, y5, y6].getD t y0, ?_, ?_⟩
  · intro k q hq
    match k, hq with
    | 0, hq => cases hq; exact h0k
    | 1, hq => cases hq; exact h1k
    | 2, hq => cases hq; exact h2k
    | 3, hq => cases hq; exact h3k
    | 4, hq => cases hq; exact h4k
    | 5, hq => cases hq; exact h5k
    | 6, hq => cases hq; exact h6k
    | 7, hq => cases hq; exact h7k
    | 8, hq => cases hq; exact h8k
    | 9, hq => cases hq; exact h9k
    | 10, hq => cases hq; exact h10k
    | 11, hq => cases hq; exact h11k
    | 12, hq => cases hq; exact h12k
    | k + 13, hq => simp [vwCl] at hq
  · intro k q hq
    match k, hq with
    | 0, hq => cases hq; exact ⟨a0, b0⟩
    | 1, hq => cases hq; exact ⟨a1, b1⟩
    | 2, hq => cases hq; exact ⟨a2, b2⟩
    | 3, hq => cases hq; exact ⟨a3, b3⟩
    | 4, hq => cases hq; exact ⟨a4, b4⟩
    | 5, hq => cases hq; exact ⟨a5, b5⟩
    | 6, hq => cases hq; exact ⟨a6, b6⟩
    | k + 7, hq => simp [tyL] at hq
/-! constants -/
def prL : List Cond := flatC (Jvm.Cond.and given_1 narrow_1)
def tmS (i : Nat) : Term := match i with
  | 0 => .string RX10 31
  | 1 => .string RX9 25
  | 2 => .string RX9 27
  | 3 => .string RX9 29
  | _ => .string RX9 31
theorem pr_ex : ∀ i, i < 5 → Cond.exactly (tmS i) "java/lang/String" ∈ prL := by decide +kernel
theorem pr_co : ∀ i, i < 5 → Cond.eq (.field (tmS i) "java/lang/String" "coder" "B") (.int 0) ∈ prL := by decide +kernel
theorem pr_ar : ∀ i, i < 5 → Cond.arrayOf (.field (tmS i) "java/lang/String" "value" "[B") .byte ∈ prL := by decide +kernel
theorem pr_le : ∀ i, i < 5 → Cond.eq (.length (.field (tmS i) "java/lang/String" "value" "[B")) (.int (Int32.ofNat (lenS.getD i 0))) ∈ prL := by decide +kernel
theorem pr_el0a : ∀ j, j < 33 → prL[58 + j]? = some (Cond.eq (.elem (.field (tmS 0) "java/lang/String" "value" "[B") (.int (Int32.ofNat j))) (.int ((bytS.getD 0 []).getD j 0))) := by decide +kernel
theorem pr_el0b : ∀ j, j < 33 → prL[58 + (j + 33)]? = some (Cond.eq (.elem (.field (tmS 0) "java/lang/String" "value" "[B") (.int (Int32.ofNat (j + 33)))) (.int ((bytS.getD 0 []).getD (j + 33) 0))) := by decide +kernel
theorem pr_el0c : ∀ j, j < 33 → prL[58 + (j + 66)]? = some (Cond.eq (.elem (.field (tmS 0) "java/lang/String" "value" "[B") (.int (Int32.ofNat (j + 66)))) (.int ((bytS.getD 0 []).getD (j + 66) 0))) := by decide +kernel
theorem pr_el0d : ∀ j, j < 32 → prL[58 + (j + 99)]? = some (Cond.eq (.elem (.field (tmS 0) "java/lang/String" "value" "[B") (.int (Int32.ofNat (j + 99)))) (.int ((bytS.getD 0 []).getD (j + 99) 0))) := by decide +kernel
theorem pr_el1 : ∀ j, j < 6 → prL[193 + j]? = some (Cond.eq (.elem (.field (tmS 1) "java/lang/String" "value" "[B") (.int (Int32.ofNat j))) (.int ((bytS.getD 1 []).getD j 0))) := by decide +kernel
theorem pr_el2 : ∀ j, j < 6 → prL[204 + j]? = some (Cond.eq (.elem (.field (tmS 2) "java/lang/String" "value" "[B") (.int (Int32.ofNat j))) (.int ((bytS.getD 2 []).getD j 0))) := by decide +kernel
theorem pr_el3 : ∀ j, j < 4 → prL[216 + j]? = some (Cond.eq (.elem (.field (tmS 3) "java/lang/String" "value" "[B") (.int (Int32.ofNat j))) (.int ((bytS.getD 3 []).getD j 0))) := by decide +kernel
theorem pr_el4 : ∀ j, j < 5 → prL[227 + j]? = some (Cond.eq (.elem (.field (tmS 4) "java/lang/String" "value" "[B") (.int (Int32.ofNat j))) (.int ((bytS.getD 4 []).getD j 0))) := by decide +kernel
theorem pr_el : ∀ i, i < 5 → ∀ j, j < lenS.getD i 0 → Cond.eq (.elem (.field (tmS i) "java/lang/String" "value" "[B") (.int (Int32.ofNat j))) (.int ((bytS.getD i []).getD j 0)) ∈ prL := by
  intro i hi j hj
  match i, hi, hj with
  | 0, _, hj =>
    have hj : j < 131 := hj
    rcases Nat.lt_or_ge j 33 with h | h
    · exact List.mem_of_getElem? (pr_el0a j h)
    rcases Nat.lt_or_ge j 66 with h' | h'
    · have e := pr_el0b (j - 33) (by omega)
      rw [show j - 33 + 33 = j by omega] at e
      exact List.mem_of_getElem? e
    rcases Nat.lt_or_ge j 99 with h'' | h''
    · have e := pr_el0c (j - 66) (by omega)
      rw [show j - 66 + 66 = j by omega] at e
      exact List.mem_of_getElem? e
    · have e := pr_el0d (j - 99) (by omega)
      rw [show j - 99 + 99 = j by omega] at e
      exact List.mem_of_getElem? e
  | 1, _, hj => exact List.mem_of_getElem? (pr_el1 j hj)
  | 2, _, hj => exact List.mem_of_getElem? (pr_el2 j hj)
  | 3, _, hj => exact List.mem_of_getElem? (pr_el3 j hj)
  | 4, _, hj => exact List.mem_of_getElem? (pr_el4 j hj)
theorem pr_ne : ∀ i, i < 5 → ∀ j, j < 5 → i ≠ j → Cond.not (Cond.eq (tmS i) (tmS j)) ∈ prL ∨ Cond.not (Cond.eq (tmS j) (tmS i)) ∈ prL := by decide +kernel
theorem pr_le31 : ∀ i, i < 5 → lenS.getD i 0 < 2 ^ 31 := by decide +kernel
theorem tb_nest : ∀ z ∈ nestL, Cond.methodLinkNest z.1 z.2.1 z.2.2 "GoingOver" ∈ lw_tbl := by decide +kernel
theorem tb_over : Cond.arrayOver (.object "GoingOver$Course") ∈ lw_tbl ∧ Cond.arrayOver (.object "GoingOver$Image") ∈ lw_tbl ∧ Cond.arrayOver (.array .int) ∈ lw_tbl := by decide +kernel
theorem tb_nsB : ∀ w ∈ nsB, w ∈ lw_tbl := by decide +kernel
theorem tb_strS : Cond.stringRef RX10 31 "falls rain person item join goes frees unload load bind day or and not ready hanging pooled out whole has weight parts straw number" ∈ lw_tbl ∧ Cond.stringRef RX9 25 " ready" ∈ lw_tbl ∧ Cond.stringRef RX9 27 " hangs" ∈ lw_tbl ∧ Cond.stringRef RX9 29 " in " ∈ lw_tbl ∧ Cond.stringRef RX9 31 " out " ∈ lw_tbl := by decide +kernel
theorem tb_strX : Cond.stringRef RX11 144 "no such person" ∈ lw_tbl ∧ Cond.stringRef RX11 170 "no such thing of a person" ∈ lw_tbl ∧ Cond.stringRef RX11 310 "nothing is in the barrel" ∈ lw_tbl ∧ Cond.stringRef RX11 315 "no such number of a fraction" ∈ lw_tbl := by decide +kernel
theorem pr_strX : Cond.exactly (.string RX11 144) "java/lang/String" ∈ prL ∧ Cond.exactly (.string RX11 170) "java/lang/String" ∈ prL ∧ Cond.exactly (.string RX11 310) "java/lang/String" ∈ prL ∧ Cond.exactly (.string RX11 315) "java/lang/String" ∈ prL := by decide +kernel
theorem tb_stat : Cond.laysStatic "java/lang/String" "COMPACT_STRINGS" "Z" ∈ lw_tbl ∧ Cond.initialized "java/lang/String" ∈ lw_tbl ∧ Cond.laysStatic "jdk/internal/util/Preconditions" "SIOOBE_FORMATTER" "Ljava/util/function/BiFunction;" ∈ lw_tbl ∧ Cond.initialized "jdk/internal/util/Preconditions" ∈ lw_tbl ∧ Cond.laysStatic Bundle.tN "UNASSIGNED_STACK" Bundle.steD ∈ lw_tbl ∧ Cond.laysStatic Bundle.tN "SUPPRESSED_SENTINEL" Bundle.listD ∈ lw_tbl ∧ Cond.initialized Bundle.tN ∈ lw_tbl := by decide +kernel
theorem pr_stat : Cond.eq (.static "java/lang/String" "COMPACT_STRINGS" "Z") (.int 1) ∈ prL ∧ Cond.isRef (.static "jdk/internal/util/Preconditions" "SIOOBE_FORMATTER" "Ljava/util/function/BiFunction;") ∈ prL ∧ Cond.isRef (.static Bundle.tN "UNASSIGNED_STACK" Bundle.steD) ∈ prL ∧ Cond.isRef (.static Bundle.tN "SUPPRESSED_SENTINEL" Bundle.listD) ∈ prL := by decide +kernel
theorem st_str {args : Array Value} {s : State} {own : String} {k : Nat} {tx : String} (h1 : (Cond.stringRef own k tx).before args s = true) (h2 : (Cond.exactly (.string own k) "java/lang/String").before args s = true) : ∃ a : Nat, vk_R own k tx a s := by
  obtain ⟨a, c, cA, kA, q1, -⟩ := Cond.exactly_spec (args := args) (first := s) (o := none) (s := s) (idx := []) (t := .string own k) (cls := "java/lang/String") h2
  exact ⟨a, vk_R.of h1 q1⟩
theorem isC.of {w : Cond} (h : isC w = true) {A : Array Value} {U : State} (hZ : w.before A U = true) : va_Nw w U := by
  cases w <;> first | (exact va_Nw.of rfl hZ) | (cases h)
theorem st_E {args : Array Value} {s : State} (hts : ∀ w ∈ lw_tbl, w.before args s = true) (hgv : (Jvm.Cond.and given_1 narrow_1).before args s = true) : ∃ adK adV ad : Nat → Nat, EX (adK, adV, s.heap.size) s ∧ XT ad s.heap.size s := by
  have hs : ∀ w ∈ prL, w.before args s = true := flat_of_before _ hgv
  have hA : ∀ a : Nat, a < s.heap.size → ¬ (fun q : Nat => s.heap.size ≤ q) a := fun a h => Nat.not_le.mpr h
  obtain ⟨adK, adV, hS, hev⟩ := vk_Sof (args := args) (s := s) (N := 5) (tm := tmS) (len := lenS) (byt := bytS) (A := fun q : Nat => s.heap.size ≤ q) pr_le31 (fun i hi => hs _ (pr_ex i hi)) (fun i hi => hs _ (pr_co i hi)) (fun i hi => hs _ (pr_ar i hi)) (fun i hi => hs _ (pr_le i hi)) (fun i hi j hj => hs _ (pr_el i hi j hj)) (fun i j hi hj hn => (pr_ne i hi j hj hn).imp (hs _) (hs _)) hA
  obtain ⟨x0, e0⟩ := st_str (hts _ tb_strX.1) (hs _ pr_strX.1)
  obtain ⟨x1, e1⟩ := st_str (hts _ tb_strX.2.1) (hs _ pr_strX.2.1)
  obtain ⟨x2, e2⟩ := st_str (hts _ tb_strX.2.2.1) (hs _ pr_strX.2.2.1)
  obtain ⟨x3, e3⟩ := st_str (hts _ tb_strX.2.2.2) (hs _ pr_strX.2.2.2)
  refine ⟨adK, adV, fun k => [x0, x1, x2, x3].getD k 0, ⟨⟨va_AO.of (hts _ tb_over.1), va_AO.of (hts _ tb_over.2.1), va_AOA.of (hts _ tb_over.2.2), fun z hz => va_Nw.of rfl (hts _ (tb_nest z hz))⟩, ⟨hS, va_Zof (hts _ tb_stat.1) (hts _ tb_stat.2.1) (va_eqt (hs _ pr_stat.1)) hA, va_Zqof (hts _ tb_stat.2.2.1) (hts _ tb_stat.2.2.2.1) (hs _ pr_stat.2.1) hA, vk_R.of (hts _ tb_strS.1) (hev 0 (by decide)), vk_R.of (hts _ tb_strS.2.1) (hev 1 (by decide)), vk_R.of (hts _ tb_strS.2.2.1) (hev 2 (by decide)), vk_R.of (hts _ tb_strS.2.2.2.1) (hev 3 (by decide)), vk_R.of (hts _ tb_strS.2.2.2.2) (hev 4 (by decide))⟩, Nat.le_refl _⟩, fun w hw => isC.of (nsB_c w hw) (hts w (tb_nsB w hw)), ⟨e0, e1, e2, e3⟩, vx_Zqof (hts _ tb_stat.2.2.2.2.1) (hts _ tb_stat.2.2.2.2.2.2) (hs _ pr_stat.2.2.1) hA, vx_Zqof (hts _ tb_stat.2.2.2.2.2.1) (hts _ tb_stat.2.2.2.2.2.2) (hs _ pr_stat.2.2.2) hA⟩
