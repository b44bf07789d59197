/-! from the explicit list of cells to the world by ids, inside a constructor -/
def setCS (X : Cx) (cn sn : Nat) : Cx := (X.1, X.2.1, X.2.2.1, X.2.2.2.1, X.2.2.2.2.1, X.2.2.2.2.2.1, X.2.2.2.2.2.2.1, X.2.2.2.2.2.2.2.1, X.2.2.2.2.2.2.2.2.1, X.2.2.2.2.2.2.2.2.2.1, cn, sn, X.2.2.2.2.2.2.2.2.2.2.2.2)
section YZ
variable {zz : (Nat → Nat) × (Nat → Nat) × Nat} {X : Cx} {l : Launch} {D : va_G} {cy : Nat → ClassId} {A : Nat → Prop} {cc : ByteArray} {own : String} {nL : Nat} {rm : Room} {Q : State → Prop} {ws : va_W} {cn sn : Nat} {lv : List (Option Value)} {st : List Value} {pc : Nat} {g : Gl} {R : Rf} {T : Mm}
theorem y_is {ws' : va_W} (h : ws = ws') (kk : Yj X D A nL Q ws' cn sn lv st pc) : Yj X D A nL Q ws cn sn lv st pc := h ▸ kk
theorem y_to_z (K : OkY zz X l D cy A cc own nL rm) (hg : g.1 = D) (hcy : g.2.1 = cy) (hws : ws = wsOf g R T) (hT : Ty g R) (hc : cn ≤ rm.cells) (hs : sn ≤ rm.slots) (hKp : (∀ q : Nat, Aw g q → A q) → Kp g) (hE : g.2.2.2.2 X.2.2.2.2.1) (hA : ∀ q : Nat, q < X.2.2.2.2.1.heap.size → A q → Aw g q) (kk : Ok (setCS X cn sn) g l cc own nL none rm → Zj (setCS X cn sn) g nL Q R T lv st pc) : Yj X D A nL Q ws cn sn lv st pc := by
  intro H locs ls hP hD hS h
  subst hws
  subst hg
  subst hcy
  have hXA := K.xa
  subst hXA
  have hin : ∀ q : Nat, Aw g q → X.2.2.2.2.2.2.2.2.2.2.2.2 q := by
    rintro q ⟨i, hi, rfl⟩
    exact hD.2 i _ (ws_at hi)
  exact kk ⟨K.1, K.2.1, K.2.2.1, K.2.2.2.1, K.2.2.2.2.1, K.2.2.2.2.2.1, hc, hs, hin, hKp hin, hE, hA⟩ H locs ls ⟨hP, hD, hS, hT⟩ h
theorem z_yret {S : Type} {post : S → Prop} {seg : S → va_W} (K : Ok X g l cc own nL none rm) (hg : g.1 = D) (hXA : X.2.2.2.2.2.2.2.2.2.2.2.2 = A) (u : S) (hp : post u) (hseg : wsOf g R T = seg u) (hd : decode cc pc = .ok (.return_, 1)) : Zj X g nL (MQ X.2.2.2.2.2.2.2.1 (va_Qv post (fun r t => va_P D vwCl (seg r) t.heap ∧ va_D A (seg r)) A) X.2.2.2.2.2.2.1 X.2.2.2.2.1 X.2.2.2.2.2.2.2.2.2.2.1 X.2.2.2.2.2.2.2.2.2.2.2.1 A) R T lv [] pc := by
  intro H locs ls hw h
  subst hg
  subst hXA
  exact W.vret K.1.1 K.1.2.1 K.2.1 (fun t ht hW => ⟨⟨u, rfl, hp, by rw [ht, ← hseg]; exact hw.1, by rw [← hseg]; exact hw.2.1⟩, hw.2.2.1.F ht⟩) hw.2.2.1.2.2 hd K.2.2.1
end YZ
theorem y_ct2 {zz : (Nat → Nat) × (Nat → Nat) × Nat} {l : Launch} {D : va_G} {cy : Nat → ClassId} {cc : ByteArray} {own : String} {nL : Nat} {rm : Room} {S : Type} {y : MethodName} {ci : Nat} {fs : List Value} {post : S → Prop} {seg : Nat → S → va_W} (hy : plainName y.cls = true) (ho : y.cls = own) (hn : y.name = "<init>") (hlen : Nat.ble 1 nL = true) (body : ∀ (X : Cx) (A : Nat → Prop) (q : Nat), OkY zz X l D cy A cc own nL rm → (∀ z : Nat, z < X.2.2.2.2.1.heap.size → A z → z = q) → Yj X D A nL (YQ X D A rm.cells rm.slots post (seg q)) [(q, .inr (ci, fs))] 0 0 (some (.ref q) :: List.replicate (nL - 1) none) [] 0) : CT zz l D cy y cc nL rm ci fs post seg := by
  intro q sz
  refine Met.ofW (cc := cc) (maxL := nL) (ret := none) hy rfl ?_
  intro p e s m args below meth c s₁ B hml hv
  obtain ⟨rfl, hsz, hP, hK, hD0, hE, hzq⟩ := hv
  subst ho
  subst hsz
  rw [lg_entry_eq]
  refine body (p, l, e, rm, s, m, [Value.ref q].toArray, below, meth, c, 0, 0, va_A [(q, .inr (ci, fs))] s.heap.size) (va_A [(q, .inr (ci, fs))] s.heap.size) q ⟨⟨B.exec, B.bytes, hml, findClass_of_methodNamed B.named, fun w hw => atoms_spec (ws := wsU y cc nL none) B.pre w (List.mem_cons_of_mem _ hw)⟩, B.returns, B.notSynchronized, hK, rfl, rfl, fun q h => Or.inr h, (name_of_methodNamed B.named B.method).1.trans hn, hE, rfl, fun z hz => by
    rcases hz with ⟨k, e, h⟩ | h
    · cases k with
      | zero =>
        have e1 : (q, (.inr (ci, fs) : va_E)) = (z, e) := by simpa using h
        rw [show z = q from (congrArg Prod.fst e1).symm]
        exact hzq
      | succ k => simp at h
    · exact Nat.le_trans hE.2.2 h⟩ ?_ s.heap [] _ hP hD0.self va_S.rf (lh_entry (av := [.ref q]) (Nat.le_of_ble_eq_true hlen) rfl)
  intro z hz ha
  rcases ha with ⟨k, e, h⟩ | h
  · cases k with
    | zero =>
      have e1 : (q, (.inr (ci, fs) : va_E)) = (z, e) := by simpa using h
      exact (congrArg Prod.fst e1).symm
    | succ k => simp at h
  · have hz' : z < s.heap.size := hz
    omega
theorem Ty_of {g : Gl} {R : Rf} (h1 : ∀ i, i < g.2.2.2.1.length → ∀ k, k < 64 → rk (g.2.2.2.1.getD i 999) k = 999 ∨ g.2.2.2.1.getD (R i k) 999 = rk (g.2.2.2.1.getD i 999) k) (h2 : ∀ i, i < g.2.2.2.1.length → ∀ k, 64 ≤ k → rk (g.2.2.2.1.getD i 999) k = 999) : Ty g R := by
  intro i k hk
  rcases Nat.lt_or_ge i g.2.2.2.1.length with hi | hi
  · rcases Nat.lt_or_ge k 64 with q | q
    · rcases h1 i hi k q with z | z
      · exact absurd z hk
      · exact z
    · exact absurd (h2 i hi k q) hk
  · exfalso
    apply hk
    have : kd g i = 999 := by
      unfold kd
      rw [List.getD_eq_getElem?_getD, List.getElem?_eq_none hi]
      rfl
    rw [this]
    unfold rk
    rw [if_neg (by decide), if_neg (by decide), if_neg (by decide), if_neg (by decide)]
theorem rk_far {c : Nat} (hc : c ≠ 50008 ∧ c ≠ 60002 ∧ c ≠ 70005) {k : Nat} (hk : 64 ≤ k) : rk c k = 999 := by
  unfold rk
  by_cases h : c < 13
  · rw [if_pos h]
    have hl : ∀ c, c < 13 → (rkL c).length ≤ 64 := by decide
    rw [List.getD_eq_getElem?_getD, List.getElem?_eq_none (Nat.le_trans (hl c h) hk)]
    rfl
  · rw [if_neg h, if_neg hc.1, if_neg hc.2.1, if_neg hc.2.2]
theorem Kp_triv {g : Gl} (h : g.2.2.2.2 = fun _ => True) : Kp g := ⟨fun _ _ _ _ _ => by rw [h]; trivial, fun _ _ _ _ _ => by rw [h]; trivial⟩
