/-! a SENTENCE: the class reads it -/
theorem c_cond {R : Rf} {b : Nat → Nat} {L M n s f : Nat} {F : Nat → Nat} {N : Nat → List Nat} {FO FC : RecF} {d : Nat} (hR : RT R) (hS : RS R s) (h97 : 97 ≤ s) (h79 : 79 ≤ f) (hfs : f + 8 < s) (hO : OneC R b L M n s f F N FO d) : CondC R b L M n s f F N (pX8_readCondition_F FO FC) d := by
  intro T o c ones t h hs hg hlen h20 ho
  have := c_ors (FC := FC) hR hS h97 h79 hfs hO o ho 21 FU 0 T c ones t h hs hg hlen h20 (by omega) (by omega) (by decide)
  exact this
theorem c_pO {R : Rf} {b : Nat → Nat} {L M n s f : Nat} {F : Nat → Nat} {N : Nat → List Nat} (hR : RT R) (hS : RS R s) (h97 : 97 ≤ s) (hv : VF F) (hN : NW F N) (h79 : 79 ≤ f) (hfs : f + 8 < s) : ∀ (e d : Nat), d ≤ 9 → 10 ≤ e + d → OneC R b L M n s f F N (pO e) d := by
  intro e
  induction e with
  | zero => intro d h1 h2; omega
  | succ e ih =>
    intro d h1 h2
    exact c_one hR hS h97 hv hN h79 hfs h1 (fun hd => ih (d + 1) (by omega) (by omega)) (fun hd => c_cond hR hS h97 h79 hfs (ih (d + 1) (by omega) (by omega)))
