/-! rows for the law: its script, its out array, its start (makers written by gen_b6.py) -/
theorem IVp.s124 {R : Rf} {T : Mm} {f g s z : Nat} {F : Nat → Nat} {N : Nat → List Nat} {C : Nat → Int32} {n fs : Nat} {H : Nat → Nat → Int32} {b : Nat → Nat} {L : Nat} {c : Cod} {ones : Nat} {t : List Nat} {k : Nat} {v : Int64} (h : IVp R T f g s z F N C n fs H b L c ones t) : IVp R (wJ T 124 k v) f g s z F N C n fs H b L c ones t := by
  obtain ⟨hR, hA, hB, hC, hD, hE, hG, hT, hI⟩ := h
  have hf := hR.2.2.2.2.2.1
  have e2 : ∀ a, a ≠ 124 → (wJ T 124 k v).2 a = T.2 a := fun a ha => up2_row ha
  exact ⟨hR, hA, hB.of (fun a _ => rfl) (e2 _ (by omega)) (e2 _ (by omega)), hC.of (fun k _ => rfl) rfl rfl (e2 _ (by omega)), hD.of rfl rfl (e2 _ (by omega)) rfl rfl (e2 _ (by omega)), hE.of (fun a _ _ => rfl) (fun k _ => rfl), hG.of (fun k _ _ => rfl) (fun k _ => rfl) rfl rfl, hT.of rfl rfl rfl rfl, hI.of hR.rgI (fun a _ _ => rfl) (fun a _ _ => e2 a (by omega)) rfl (e2 _ (by omega)) rfl⟩
theorem RR.ty {g : Gl} {R : Rf} {f g' s z : Nat} (h : RR R f g' s z) (hk : g.2.2.2.1 = kdL) : Ty g R := by
  intro i k hn
  by_cases c : i = 0 ∧ 11 ≤ k ∧ k ≤ 14
  · obtain ⟨rfl, c1, c2⟩ := c
    obtain ⟨-, h1, h2, h3, h4, h5, h6⟩ := h
    have e : kd g 0 = 11 := by unfold kd; rw [hk]; rfl
    rw [e]
    unfold kd
    rw [hk]
    have hc : k = 11 ∨ k = 12 ∨ k = 13 ∨ k = 14 := by omega
    rcases hc with rfl | rfl | rfl | rfl
    · rw [h1]; rcases h5 with ⟨rfl, -⟩ | ⟨rfl, -⟩ <;> rfl
    · rw [h2]; rcases h5 with ⟨-, rfl⟩ | ⟨-, rfl⟩ <;> rfl
    · rw [h3]; rcases h6 with ⟨rfl, -⟩ | ⟨rfl, -⟩ <;> rfl
    · rw [h4]; rcases h6 with ⟨-, rfl⟩ | ⟨-, rfl⟩ <;> rfl
  · rw [h.1 i k c]
    exact ty0 hk i k hn
theorem IV.ty {g : Gl} {R : Rf} {T : Mm} (h : IV R T) (hk : g.2.2.2.1 = kdL) : Ty g R := by
  obtain ⟨f, g', s, z, F, N, C, n, fs, H, b, L, c, ones, t, h⟩ := h
  exact h.1.ty hk
/-- person and mean, with the class's answer put into the law's out array in between -/
def QPy (R : Rf) (cl : Option (Option Int32 × Mm)) (rf : Mm → Option (Int32 × Mm)) : Prop := ∃ o V a V', cl = some (o, V) ∧ rf (outL o V) = some (a, V') ∧ V'.1 105 0 = (if o = none then 1 else 0) ∧ (o = none ∨ o = some a) ∧ IV R V' ∧ ∀ v, o = some v → V'.2 124 0 = v.toInt64
theorem out0 {T : Mm} {v : Int64} {x : Int32} : (wI (wJ T 124 (0 : Int32).toNatClampNeg v) 105 0 x).2 124 0 = v := by
  show up2 T.2 124 (0 : Int32).toNatClampNeg v 124 0 = v
  rw [show (0 : Int32).toNatClampNeg = 0 from rfl]
  exact up2_s
theorem r_person {R : Rf} {T : Mm} (h : IV R T) (x y : Int32) : QPy R (pX11_person R T 0 x y) (fun V => pX12_person R V 105 x y) := by
  obtain ⟨f, g, s, z, F, N, C, n, fs, H, b, L, c, ones, t, h⟩ := h
  rcases k_person h.kv h.lv x y with ⟨h1, h2⟩ | ⟨a, q, h1, _⟩
  · exact ⟨none, T, _, _, h1, h2, by rw [wI_s, if_pos rfl], Or.inl rfl, ⟨f, g, s, z, F, N, C, n, fs, H, b, L, c, ones, t, h.s0 (by unfold Ker; omega)⟩, fun v e => by cases e⟩
  · have h9 := (h.sN (q := q)).s124 (k := (0 : Int32).toNatClampNeg) (v := a.toInt64)
    rcases k_person h.kv h9.lv x y with ⟨h1', _⟩ | ⟨a', q', h1', h2'⟩
    · rw [h1] at h1'
      cases h1'
    · obtain ⟨e, _⟩ := some2 h1 h1'
      cases e
      exact ⟨some a, _, a, _, h1, h2', by rw [wI_s, if_neg (by simp)], Or.inr rfl, ⟨f, g, s, z, F, N, C, n, fs, H, b, L, c, ones, t, h9.s0 (by unfold Ker; omega)⟩, fun v e => by cases e; exact out0⟩
theorem r_mean {R : Rf} {T : Mm} (h : IV R T) (x y : Int32) : QPy R (pX11_mean R T 0 x y) (fun V => pX12_mean R V 105 x y) := by
  obtain ⟨f, g, s, z, F, N, C, n, fs, H, b, L, c, ones, t, h⟩ := h
  rcases k_mean h.kv h.lv x y with ⟨h1, h2⟩ | ⟨a, h1, _⟩
  · exact ⟨none, T, _, _, h1, h2, by rw [wI_s, if_pos rfl], Or.inl rfl, ⟨f, g, s, z, F, N, C, n, fs, H, b, L, c, ones, t, h.s0 (by unfold Ker; omega)⟩, fun v e => by cases e⟩
  · have h9 := h.s124 (k := (0 : Int32).toNatClampNeg) (v := a.toInt64)
    rcases k_mean h.kv h9.lv x y with ⟨h1', _⟩ | ⟨a', h1', h2'⟩
    · rw [h1] at h1'
      cases h1'
    · obtain ⟨e, _⟩ := some2 h1 h1'
      cases e
      exact ⟨some a, _, a, _, h1, h2', by rw [wI_s, if_neg (by simp)], Or.inr rfl, ⟨f, g, s, z, F, N, C, n, fs, H, b, L, c, ones, t, h9.s0 (by unfold Ker; omega)⟩, fun v e => by cases e; exact out0⟩
theorem i_thrown {R : Rf} {V : Mm} : pX12_thrown R V 105 = some (V.1 105 0) := rfl
/-! the script -/
def SAr (X : Cx) (b L : Nat) (xs : Nat → Int32) : Prop := va_X b L xs X.2.2.2.2.1 X.2.2.2.2.1.heap ∧ b < X.2.2.2.2.1.heap.size ∧ ¬ X.2.2.2.2.2.2.2.2.2.2.2.2 b
abbrev lvL (g : Gl) (b : Nat) (i : Int32) : List (Option Value) := [some (.ref b), some (.ref (g.2.2.1 0)), some (.ref (g.2.2.1 105)), some (.ref (g.2.2.1 124)), some (.int i), none, none]
section LR
variable {X : Cx} {g : Gl} {l : Launch} {cc : ByteArray} {own : String} {nL : Nat} {ret : Option FieldType} {rm : Room} {Q : State → Prop} {R : Rf} {T : Mm} {lv lw : List (Option Value)} {st : List Value} {pc : Nat} {b L : Nat} {xs : Nat → Int32}
theorem z_sld (K : Ok X g l cc own nL ret rm) (hs : SAr X b L xs) {i : Int32} (hin : vp_in i L) (hd : decode cc pc = .ok (.iaload, 1)) (kk : Zj X g nL Q R T lv (.int (xs i.toNatClampNeg) :: st) (pc + 1)) : Zj X g nL Q R T lv (.int i :: .ref b :: st) pc := fun H locs ls hw h => va_sld K.1.1 K.1.2.1 hs.1 hs.2.1 hs.2.2 hw.2.2.1 hin hd (kk H locs ls hw h)
theorem z_slen (K : Ok X g l cc own nL ret rm) (hs : SAr X b L xs) (hd : decode cc pc = .ok (.arraylength, 1)) (kk : Zj X g nL Q R T lv (.int (Int32.ofNat L) :: st) (pc + 1)) : Zj X g nL Q R T lv (.ref b :: st) pc := fun H locs ls hw h => va_slen K.1.1 K.1.2.1 hs.1 hs.2.1 hs.2.2 hw.2.2.1 hd (kk H locs ls hw h)
theorem z_lvsub (hs : ∀ (i : Nat) (v : Value), lw[i]? = some (some v) → lv[i]? = some (some v)) (kk : Zj X g nL Q R T lw st pc) : Zj X g nL Q R T lv st pc := fun H locs ls hw h => kk H locs ls hw (lh_sub h hs)
theorem z_arg {i j : Nat} {n : Int} (K : Ok X g l cc own nL ret rm) (hs : SAr X b L xs) (hL : L ≤ 3072) (hij : i + j < L) (h0 : lv[0]? = some (some (.ref b))) (h4 : lv[4]? = some (some (.int (nI i)))) (hv : Int32.ofInt n = nI j) (d0 : decode cc pc = .ok (.aload_n 0, 1)) (d1 : decode cc (pc + 1) = .ok (.iload 4, 2)) (d3 : decode cc (pc + 1 + 2) = .ok (.iconst n, 1)) (d4 : decode cc (pc + 1 + 2 + 1) = .ok (.iadd, 1)) (d5 : decode cc (pc + 1 + 2 + 1 + 1) = .ok (.iaload, 1)) (kk : Zj X g nL Q R T lv (.int (xs (i + j)) :: st) (pc + 1 + 2 + 1 + 1 + 1)) : Zj X g nL Q R T lv st pc := by
  refine z_aload_n K d0 h0 ?_
  refine z_iload K d1 h4 ?_
  refine z_iconst K (nI j) d3 hv ?_
  refine z_iadd K d4 ?_
  rw [nI_add]
  refine z_sld K hs (vp_in_nI hij (by omega)) d5 ?_
  rw [nI_clamp (by omega)]
  exact kk
end LR
/-! makers in a body that is no constructor's -/
def OkW (z : (Nat → Nat) × (Nat → Nat) × Nat) (X : Cx) (l : Launch) (D : va_G) (cy : Nat → ClassId) (A : Nat → Prop) (cc : ByteArray) (own : String) (nL : Nat) (rm : Room) : Prop :=
  CallFix X.1 X.2.2.2.2.2.1 X.2.2.2.2.2.2.2.2.2.1 cc nL X.2.2.2.2.1 X.2.2.2.2.2.2.1 gtb own ∧ True ∧ X.2.2.2.2.2.2.2.2.1.locks = false ∧ va_K D vwCl (tyL cy) X.2.2.2.2.1 ∧ X.2.2.2.1 = rm ∧ X.2.1 = l ∧ (∀ q : Nat, X.2.2.2.2.1.heap.size ≤ q → A q) ∧ True ∧ EX z X.2.2.2.2.1 ∧ X.2.2.2.2.2.2.2.2.2.2.2.2 = A ∧ ∀ q : Nat, A q → z.2.2 ≤ q
section WR
variable {zz : (Nat → Nat) × (Nat → Nat) × Nat} {X : Cx} {l : Launch} {D : va_G} {cy : Nat → ClassId} {A : Nat → Prop} {cc : ByteArray} {own : String} {nL : Nat} {rm : Room} {Q : State → Prop} {ws : va_W} {cn sn : Nat} {lv : List (Option Value)} {st : List Value} {pc : Nat}
theorem OkW.ts (K : OkW zz X l D cy A cc own nL rm) {w : Cond} (h : w ∈ gtb) : w.before X.2.2.2.2.2.2.1 X.2.2.2.2.1 = true := K.1.2.2.2.2 w h
theorem OkW.az (K : OkW zz X l D cy A cc own nL rm) : ∀ q : Nat, A q → zz.2.2 ≤ q := K.2.2.2.2.2.2.2.2.2.2
theorem w_iconst (K : OkW zz X l D cy A cc own nL rm) {n : Int} (v : Int32) (hd : decode cc pc = .ok (.iconst n, 1)) (hv : Int32.ofInt n = v) (kk : Yj X D A nL Q ws cn sn lv (.int v :: st) (pc + 1)) : Yj X D A nL Q ws cn sn lv st pc := fun H locs ls hP hD hS h => lv_iconst K.1.1 K.1.2.1 hd hv (kk H locs ls hP hD hS h)
theorem w_astore_n (K : OkW zz X l D cy A cc own nL rm) {k : Fin 4} {x : Nat} (hd : decode cc pc = .ok (.astore_n k, 1)) (hn : Nat.blt k nL = true) (ho : ok1 lv k = true) (kk : Yj X D A nL Q ws cn sn (lv.set k (some (.ref x))) st (pc + 1)) : Yj X D A nL Q ws cn sn lv (.ref x :: st) pc := fun H locs ls hP hD hS h => lv_astore_n K.1.1 K.1.2.1 hd rfl h (Nat.blt_eq.mp hn) rfl (fun ls' h' => kk H locs ls' hP hD hS (lh_set1 ho h'))
theorem w_istore (K : OkW zz X l D cy A cc own nL rm) {k : Nat} {x : Int32} (hd : decode cc pc = .ok (.istore k, 2)) (hn : Nat.blt k nL = true) (ho : ok1 lv k = true) (kk : Yj X D A nL Q ws cn sn (lv.set k (some (.int x))) st (pc + 2)) : Yj X D A nL Q ws cn sn lv (.int x :: st) pc := fun H locs ls hP hD hS h => lv_istore K.1.1 K.1.2.1 hd h (Nat.blt_eq.mp hn) rfl (fun ls' h' => kk H locs ls' hP hD hS (lh_set1 ho h'))
theorem w_newa (K : OkW zz X l D cy A cc own nL rm) (t : Nat) {atype : ArrayType} {ty : FieldType} {n : Int32} {N' : Nat} (a0 : vp_A) (hw : Cond.arrayClass ty ∈ gtb) (hty : newarray.typeOf atype = ty) (ht : (tyL cy)[t]? = some (cy t, ty)) (ha : ∀ cA : ClassId, vp_cell cA a0 = arrV cA N' (fun _ => defaultValue ty)) (hn : ¬ n < 0) (hN : n.toNatClampNeg = N') (hb : N' * componentBytes ty ≤ 536870912) (hc : cn + 1 ≤ rm.cells) (hs : sn + N' ≤ rm.slots) (hd : decode cc pc = .ok (.newarray atype, 2)) (kk : ∀ q : Nat, Yj X D A nL Q (ws ++ [(q, .inl (cy t, a0))]) (cn + 1) (sn + N') lv (.ref q :: st) (pc + 2)) : Yj X D A nL Q ws cn sn lv (.int n :: st) pc := by
  intro H locs ls hP hD hS h
  refine va_newa K.1.1 K.1.2.1 (by rw [hty]; exact K.ts hw) hty K.2.2.2.1 hP hD hS K.2.2.2.2.2.2.1 ha hn hN hb (by rw [K.2.2.2.2.1]; exact hc) (by rw [K.2.2.2.2.1]; exact hs) hd (fun q cA H1 hK2 hP1 hD1 hS1 => ?_)
  have e := tyS K.2.2.2.1 hK2 ht
  subst e
  exact kk q H1 locs ls hP1 hD1 hS1 h
theorem w_mkP {S : Type} {post : S → Prop} {y : MethodName} {C : String} {Tt : u_T} {N ci : Nat} {ib : ByteArray} {iL ix ii : Nat} {rmc : Room} {fs : List Value} {seg : Nat → S → va_W} {ty0 : Nat → FieldType} (K : OkW zz X l D cy A cc own nL rm) (hC : CT zz l D cy y ib iL rmc ci fs post seg) (c : CL ci C Tt N) (hty : ∀ k, k < N → parseFieldDescriptor (Tt k).2.2.1 = some (ty0 k)) (hfs : ∀ j, j < N → defaultValue (ty0 j) = vp_V fs j) (hcl : Cond.classLink own ix C ∈ gtb) (hinst : Cond.instantiable C N ∈ gtb) (hini : Cond.initialized C ∈ gtb) (hyc : y.cls = C) (hyn : y.name = "<init>") (him : Cond.instanceMethod y ∈ gtb) (hcode : Cond.code y ib iL none ∈ gtb) (hln : Cond.methodLink own ii y ∈ gtb) (hdd : y.cls ≠ "java/lang/invoke/MethodHandle" ∧ y.cls ≠ "java/lang/invoke/VarHandle" ∧ (parseMethodDescriptor y.desc).map (fun d => d.parameters.length) = some 0) (hr : rmc.frames + 1 ≤ rm.frames ∧ 8 + (iL + 11) + rmc.locals ≤ rm.locals) (hcc : cn + 1 + rmc.cells ≤ rm.cells) (hss : sn + N + rmc.slots ≤ rm.slots) (hW : Nat.ble (2 * 0 + (((Value.ref 0) :: st).map fun v => v.category).sum) 8 = true) (hd1 : decode cc pc = .ok (.new ix, 3)) (hd2 : decode cc (pc + 3) = .ok (.dup, 1)) (hd3 : decode cc (pc + 4) = .ok (.invokespecial ii, 3)) (kk : ∀ (q : Nat) (r : S), post r → Yj X D A nL Q (ws ++ seg q r) (cn + 1 + rmc.cells) (sn + N + rmc.slots) lv (.ref q :: st) (pc + 7)) : Yj X D A nL Q ws cn sn lv st pc := by
  intro H locs ls hP hD hS h
  have hl := K.2.2.2.2.2.1
  subst hl
  refine va_new K.1.1 K.1.2.1 K.1.2.2.2.2 c.2.1 ty0 hty K.1.2.2.2.1 (K.ts hcl) (K.ts hinst) (K.ts hini) K.2.2.2.1 hP hD hS K.2.2.2.2.2.2.1 c.1 hfs (by rw [K.2.2.2.2.1]; omega) (by rw [K.2.2.2.2.1]; omega) hd1 (fun q H1 hP1 hD1 hS1 => ?_)
  refine lv_dup K.1.1 K.1.2.1 hd2 rfl ?_
  have hx : (ws ++ [(q, (.inr (ci, fs) : va_E))])[ws.length]? = some (q, .inr (ci, fs)) := by simp
  have hPc : va_P D vwCl [(q, .inr (ci, fs))] H1 := fun k z hz => by
    cases k with
    | zero =>
      have e1 : (q, (.inr (ci, fs) : va_E)) = z := by simpa using hz
      subst e1
      exact hP1 ws.length _ hx
    | succ k => simp at hz
  have hDc : va_D (fun _ => True) [(q, (.inr (ci, fs) : va_E))] := ⟨fun i j p z hi hj _ => by
    have h1 := (List.getElem?_eq_some_iff.mp hi).1
    have h2 := (List.getElem?_eq_some_iff.mp hj).1
    simp at h1 h2
    omega, fun _ _ _ => trivial⟩
  have hFc : ∀ z, va_A [(q, (.inr (ci, fs) : va_E))] H1.size z → A z := by
    intro z hz
    rcases hz with ⟨k, e, hz⟩ | hz
    · cases k with
      | zero =>
        have e1 : (q, (.inr (ci, fs) : va_E)) = (z, e) := by simpa using hz
        have e2 := congrArg Prod.fst e1
        dsimp only at e2
        rw [← e2]
        exact hD1.2 ws.length _ hx
      | succ k => simp at hz
    · exact K.2.2.2.2.2.2.1 z (Nat.le_trans hS1.1 hz)
  refine va_callv (va_runI (As := []) (rest := .ref q :: st) K.1 (hC q H1.size) (cwI 0 K.1.2.2.2.2 (good_U hcode) rfl rfl rfl (by rw [hyc]; exact K.ts hini) (K.ts hln) (K.ts him) hyn hdd (by rw [K.2.2.2.2.1]; exact hr)) ⟨fun a U g mk w => by obtain ⟨w0, w1, wP, wK, wD, wE, wz⟩ := w; exact ⟨w0, w1, wP, va_K.moved (u := U) (U := U.calling g mk a) (Vm.Alike.refl U.vm) wK, wD, EX.same (s := U) (U := U.calling g mk a) rfl rfl wE, wz⟩, fun U hU hW => ⟨rfl, by rw [hU], by rw [hU]; exact hPc, va_K.moved hW.alike K.2.2.2.1, hDc, EX.keep hW (fun a ha hna => by rw [hU]; exact hS1.2.1 a ha (fun h => hna (K.az a h))) (by rw [hU]; exact hS1.1) K.2.2.2.2.2.2.2.2.1, K.az q (hD1.2 ws.length _ hx)⟩⟩ rfl rfl h.1 rfl (Nat.le_of_ble_eq_true hW) hd3 ⟨by rw [K.2.2.2.2.1]; exact hcc, by rw [K.2.2.2.2.1]; exact hss⟩) hS1 (fun z _ h => hFc z h) hFc (fun r t H2 locs2 ht hvm hw hB hz1 hk1 hS2 => ?_)
  obtain ⟨hP2, hD2⟩ := hB
  rw [ht] at hP2
  obtain ⟨hP3, hD3⟩ := y_join hP1 hD1 hk1 hFc hP2 hD2
  exact kk q r hw H2 locs2 ls hP3 hD3 hS2 h
end WR
theorem hfX11 : ∀ j, j < 20 → defaultValue (tyX11 j) = vp_V fsX11 j := fun j hj => match j, hj with
  | 0, _ => rfl
  | 1, _ => rfl
  | 2, _ => rfl
  | 3, _ => rfl
  | 4, _ => rfl
  | 5, _ => rfl
  | 6, _ => rfl
  | 7, _ => rfl
  | 8, _ => rfl
  | 9, _ => rfl
  | 10, _ => rfl
  | 11, _ => rfl
  | 12, _ => rfl
  | 13, _ => rfl
  | 14, _ => rfl
  | 15, _ => rfl
  | 16, _ => rfl
  | 17, _ => rfl
  | 18, _ => rfl
  | 19, _ => rfl
  | j + 20, h => absurd h (by omega)
