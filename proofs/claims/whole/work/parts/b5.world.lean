/-! the cells that the law has made at its start, as the world by ids (written by gen_world.py) -/
def ad0l (aT bM : Mm) (q : Nat) (u : Nat → Nat) (v : Nat → Nat → Nat) (q2 : Nat) (w : Nat → Nat) (qo : Nat) : List Nat := [q, u 0, v 0 0, v 0 1, v 0 2, v 0 3, v 0 4, v 0 5, u 3, v 3 0, u 4, v 4 0, u 5, v 5 0, v 5 1, v 5 2, v 5 3, v 5 4, v 5 5, v 5 6, v 5 7, v 5 8, v 5 9, v 5 10, v 5 11, v 5 12, v 5 13, v 5 14, v 5 15, v 5 16, u 6, v 6 0, v 6 1, u 7, v 7 0, u 8, v 8 0, v 8 1, v 8 2, v 8 3, v 8 4, v 8 5, u 9, u 10, v 10 0, u 13, u 14, v 14 0, v 14 1, v 14 2, v 14 3, v 14 4, v 14 5, v 14 6, v 14 7, v 14 8, v 14 9, v 14 10, v 14 11, v 14 12, v 14 13, v 14 14, u 15, v 15 0, v 15 1, v 15 2, v 15 3, v 15 4, v 15 5, v 15 6, v 15 7, v 15 8, v 15 9, v 15 10, v 15 11, v 15 12, v 15 13, v 15 14, u 16, u 1, v 1 0, v 1 1, v 1 2, v 1 3, v 1 4, v 1 5, v 1 6, v 1 7, u 2, v 2 0, v 2 1, v 2 2, v 2 3, v 2 4, v 2 5, v 2 6, v 2 7, u 11, v 11 0, v 11 1, v 11 2, u 12, v 12 0, v 12 1, v 12 2, q2, w 0, w 1, w 2, w 3, w 4, w 5, w 6, w 7, w 8, w 9, w 10, w 11, w 12, w 13, w 14, w 15, w 16, w 17, qo]
def ad0 (aT bM : Mm) (q : Nat) (u : Nat → Nat) (v : Nat → Nat → Nat) (q2 : Nat) (w : Nat → Nat) (qo : Nat) : Nat → Nat := fun i => (ad0l aT bM q u v q2 w qo).getD i 0
def g0 (D : va_G) (cy : Nat → ClassId) (E : State → Prop) (aT bM : Mm) (q : Nat) (u : Nat → Nat) (v : Nat → Nat → Nat) (q2 : Nat) (w : Nat → Nat) (qo : Nat) : Gl := (D, cy, ad0 aT bM q u v q2 w qo, kdL, E)
def wsM (cy : Nat → ClassId) (aT bM : Mm) (q : Nat) (u : Nat → Nat) (v : Nat → Nat → Nat) (q2 : Nat) (w : Nat → Nat) (qo : Nat) : va_W := (([] ++ sgX11 cy q (u, v, aT)) ++ sgX12 cy q2 (w, bM)) ++ [(qo, .inl (cy 2, 1, .inr (.inl (fun _ => 0))))]
def wsF (cy : Nat → ClassId) (aT bM : Mm) (q : Nat) (u : Nat → Nat) (v : Nat → Nat → Nat) (q2 : Nat) (w : Nat → Nat) (qo : Nat) : va_W := [(q, .inr (11, [.ref (u 0), .ref (u 3), .ref (u 4), .ref (u 5), .ref (u 6), .ref (u 7), .ref (u 8), .ref (u 9), .ref (u 10), .ref (u 13), .ref (u 16), .ref (u 1), .ref (u 2), .ref (u 11), .ref (u 12), .int 0, .int (-1), .int (-1), .int (-1), .int (-1)])), (u 0, .inr (10, [.ref (v 0 0), .int (aT.1 0 1), .int (aT.1 0 2), .int (aT.1 0 3), .int (aT.1 0 4), .int (aT.1 0 5), .int (aT.1 0 6), .ref (v 0 1), .ref (v 0 2), .ref (v 0 3), .ref (v 0 4), .ref (v 0 5)])), (v 0 0, .inl (cy 1, 940, .inl (aT.1 1))), (v 0 1, .inl (cy 1, 941, .inl (aT.1 2))), (v 0 2, .inl (cy 1, 941, .inl (aT.1 3))), (v 0 3, .inl (cy 1, 941, .inl (aT.1 4))), (v 0 4, .inl (cy 2, 941, .inr (.inl (aT.2 5)))), (v 0 5, .inl (cy 2, 24, .inr (.inl (aT.2 6)))), (u 1, .inr (3, [.int 0, .int 0, .int 0, .int 10, .int 20, .ref (v 1 0), .ref (v 1 1), .ref (v 1 2), .ref (v 1 3), .ref (v 1 4), .ref (v 1 5), .ref (v 1 6), .ref (v 1 7), .int 0, .int 0, .int 0])), (v 1 0, .inl (cy 1, 5, .inl (fun _ => 0))), (v 1 1, .inl (cy 2, 5, .inr (.inl (fun _ => 0)))), (v 1 2, .inl (cy 2, 10, .inr (.inl (fun _ => 0)))), (v 1 3, .inl (cy 1, 10, .inl (fun _ => 0))), (v 1 4, .inl (cy 1, 10, .inl (fun _ => 0))), (v 1 5, .inl (cy 1, 16, .inl (fun _ => 0))), (v 1 6, .inl (cy 1, 16, .inl (fun _ => 0))), (v 1 7, .inl (cy 1, 16, .inl (fun _ => 0))), (u 2, .inr (3, [.int 0, .int 0, .int 0, .int 10, .int 20, .ref (v 2 0), .ref (v 2 1), .ref (v 2 2), .ref (v 2 3), .ref (v 2 4), .ref (v 2 5), .ref (v 2 6), .ref (v 2 7), .int 0, .int 0, .int 0])), (v 2 0, .inl (cy 1, 5, .inl (fun _ => 0))), (v 2 1, .inl (cy 2, 5, .inr (.inl (fun _ => 0)))), (v 2 2, .inl (cy 2, 10, .inr (.inl (fun _ => 0)))), (v 2 3, .inl (cy 1, 10, .inl (fun _ => 0))), (v 2 4, .inl (cy 1, 10, .inl (fun _ => 0))), (v 2 5, .inl (cy 1, 16, .inl (fun _ => 0))), (v 2 6, .inl (cy 1, 16, .inl (fun _ => 0))), (v 2 7, .inl (cy 1, 16, .inl (fun _ => 0))), (u 3, .inr (1, [.int 0, .int 0, .int 0, .int 0, .ref (v 3 0)])), (v 3 0, .inl (cy 1, 5, .inl (fun _ => 0))), (u 4, .inr (1, [.int 0, .int 0, .int 0, .int 0, .ref (v 4 0)])), (v 4 0, .inl (cy 1, 5, .inl (fun _ => 0))), (u 5, .inr (7, [.int 0, .int 0, .ref (v 5 0)])), (v 5 0, .inl (cy 4, 8, .inr (.inr (.inr (.inr (va_up (va_up (va_up (va_up (va_up (va_up (va_up (va_up (fun _ => none) (nI 0).toNatClampNeg (some (v 5 1))) (nI 1).toNatClampNeg (some (v 5 3))) (nI 2).toNatClampNeg (some (v 5 5))) (nI 3).toNatClampNeg (some (v 5 7))) (nI 4).toNatClampNeg (some (v 5 9))) (nI 5).toNatClampNeg (some (v 5 11))) (nI 6).toNatClampNeg (some (v 5 13))) (nI 7).toNatClampNeg (some (v 5 15)))))))), (v 5 1, .inr (1, [.int 0, .int 0, .int 0, .int 0, .ref (v 5 2)])), (v 5 2, .inl (cy 1, 5, .inl (fun _ => 0))), (v 5 3, .inr (1, [.int 0, .int 0, .int 0, .int 0, .ref (v 5 4)])), (v 5 4, .inl (cy 1, 5, .inl (fun _ => 0))), (v 5 5, .inr (1, [.int 0, .int 0, .int 0, .int 0, .ref (v 5 6)])), (v 5 6, .inl (cy 1, 5, .inl (fun _ => 0))), (v 5 7, .inr (1, [.int 0, .int 0, .int 0, .int 0, .ref (v 5 8)])), (v 5 8, .inl (cy 1, 5, .inl (fun _ => 0))), (v 5 9, .inr (1, [.int 0, .int 0, .int 0, .int 0, .ref (v 5 10)])), (v 5 10, .inl (cy 1, 5, .inl (fun _ => 0))), (v 5 11, .inr (1, [.int 0, .int 0, .int 0, .int 0, .ref (v 5 12)])), (v 5 12, .inl (cy 1, 5, .inl (fun _ => 0))), (v 5 13, .inr (1, [.int 0, .int 0, .int 0, .int 0, .ref (v 5 14)])), (v 5 14, .inl (cy 1, 5, .inl (fun _ => 0))), (v 5 15, .inr (1, [.int 0, .int 0, .int 0, .int 0, .ref (v 5 16)])), (v 5 16, .inl (cy 1, 5, .inl (fun _ => 0))), (u 6, .inr (0, [.int 0, .int 0, .ref (v 6 0), .ref (v 6 1)])), (v 6 0, .inl (cy 1, 40, .inl (fun _ => 0))), (v 6 1, .inl (cy 1, 40, .inl (fun _ => 0))), (u 7, .inr (6, [.ref (v 7 0)])), (v 7 0, .inl (cy 1, 10, .inl (fun _ => 0))), (u 8, .inr (4, [.ref (v 8 0)])), (v 8 0, .inl (cy 6, 5, .inr (.inr (.inr (.inr (fun i => if i < 5 then some (v 8 (i + 1)) else none)))))), (v 8 1, .inl (cy 1, 31, .inl (fun _ => 0))), (v 8 2, .inl (cy 1, 31, .inl (fun _ => 0))), (v 8 3, .inl (cy 1, 31, .inl (fun _ => 0))), (v 8 4, .inl (cy 1, 31, .inl (fun _ => 0))), (v 8 5, .inl (cy 1, 31, .inl (fun _ => 0))), (u 9, .inr (2, [.int 0])), (u 10, .inr (9, [.ref (v 10 0), .int 0])), (v 10 0, .inl (cy 1, 16, .inl (fun _ => 0))), (u 11, .inr (8, [.int 0, .int 0, .ref (v 11 0), .ref (v 11 1), .ref (v 11 2)])), (v 11 0, .inl (cy 1, 40, .inl (fun _ => 0))), (v 11 1, .inl (cy 1, 40, .inl (fun _ => 0))), (v 11 2, .inl (cy 1, 40, .inl (fun _ => 0))), (u 12, .inr (8, [.int 0, .int 0, .ref (v 12 0), .ref (v 12 1), .ref (v 12 2)])), (v 12 0, .inl (cy 1, 40, .inl (fun _ => 0))), (v 12 1, .inl (cy 1, 40, .inl (fun _ => 0))), (v 12 2, .inl (cy 1, 40, .inl (fun _ => 0))), (u 13, .inl (cy 5, 2, .inr (.inr (.inr (.inr (va_up (va_up (fun _ => none) (nI 0).toNatClampNeg (some (u 14))) (nI 1).toNatClampNeg (some (u 15)))))))), (u 14, .inr (5, [.int 0, .ref (v 14 0), .ref (v 14 9), .ref (v 14 11)])), (v 14 0, .inr (3, [.int 0, .int 0, .int 0, .int 10, .int 20, .ref (v 14 1), .ref (v 14 2), .ref (v 14 3), .ref (v 14 4), .ref (v 14 5), .ref (v 14 6), .ref (v 14 7), .ref (v 14 8), .int 0, .int 0, .int 0])), (v 14 1, .inl (cy 1, 5, .inl (fun _ => 0))), (v 14 2, .inl (cy 2, 5, .inr (.inl (fun _ => 0)))), (v 14 3, .inl (cy 2, 10, .inr (.inl (fun _ => 0)))), (v 14 4, .inl (cy 1, 10, .inl (fun _ => 0))), (v 14 5, .inl (cy 1, 10, .inl (fun _ => 0))), (v 14 6, .inl (cy 1, 16, .inl (fun _ => 0))), (v 14 7, .inl (cy 1, 16, .inl (fun _ => 0))), (v 14 8, .inl (cy 1, 16, .inl (fun _ => 0))), (v 14 9, .inr (1, [.int 0, .int 0, .int 0, .int 0, .ref (v 14 10)])), (v 14 10, .inl (cy 1, 5, .inl (fun _ => 0))), (v 14 11, .inr (8, [.int 0, .int 0, .ref (v 14 12), .ref (v 14 13), .ref (v 14 14)])), (v 14 12, .inl (cy 1, 40, .inl (fun _ => 0))), (v 14 13, .inl (cy 1, 40, .inl (fun _ => 0))), (v 14 14, .inl (cy 1, 40, .inl (fun _ => 0))), (u 15, .inr (5, [.int 0, .ref (v 15 0), .ref (v 15 9), .ref (v 15 11)])), (v 15 0, .inr (3, [.int 0, .int 0, .int 0, .int 10, .int 20, .ref (v 15 1), .ref (v 15 2), .ref (v 15 3), .ref (v 15 4), .ref (v 15 5), .ref (v 15 6), .ref (v 15 7), .ref (v 15 8), .int 0, .int 0, .int 0])), (v 15 1, .inl (cy 1, 5, .inl (fun _ => 0))), (v 15 2, .inl (cy 2, 5, .inr (.inl (fun _ => 0)))), (v 15 3, .inl (cy 2, 10, .inr (.inl (fun _ => 0)))), (v 15 4, .inl (cy 1, 10, .inl (fun _ => 0))), (v 15 5, .inl (cy 1, 10, .inl (fun _ => 0))), (v 15 6, .inl (cy 1, 16, .inl (fun _ => 0))), (v 15 7, .inl (cy 1, 16, .inl (fun _ => 0))), (v 15 8, .inl (cy 1, 16, .inl (fun _ => 0))), (v 15 9, .inr (1, [.int 0, .int 0, .int 0, .int 0, .ref (v 15 10)])), (v 15 10, .inl (cy 1, 5, .inl (fun _ => 0))), (v 15 11, .inr (8, [.int 0, .int 0, .ref (v 15 12), .ref (v 15 13), .ref (v 15 14)])), (v 15 12, .inl (cy 1, 40, .inl (fun _ => 0))), (v 15 13, .inl (cy 1, 40, .inl (fun _ => 0))), (v 15 14, .inl (cy 1, 40, .inl (fun _ => 0))), (u 16, .inl (cy 1, 4, .inl (tld0))), (q2, .inr (12, [.int (bM.1 0 0), .ref (w 0), .int (bM.1 0 2), .int (bM.1 0 3), .int (bM.1 0 4), .int (bM.1 0 5), .ref (w 1), .ref (w 2), .ref (w 3), .ref (w 4), .ref (w 5), .int (bM.1 0 11), .int (bM.1 0 12), .int (bM.1 0 13), .int (bM.1 0 14), .int (bM.1 0 15), .int (bM.1 0 16), .long (bM.2 0 17), .int (bM.1 0 18), .int (bM.1 0 19), .int (bM.1 0 20), .ref (w 6), .ref (w 7), .int (bM.1 0 23), .int (bM.1 0 24), .int (bM.1 0 25), .int (bM.1 0 26), .int (bM.1 0 27), .ref (w 8), .int (bM.1 0 29), .int (bM.1 0 30), .int (bM.1 0 31), .ref (w 9), .ref (w 10), .ref (w 11), .int (bM.1 0 35), .int (bM.1 0 36), .int (bM.1 0 37), .ref (w 12), .int (bM.1 0 39), .ref (w 13), .int (bM.1 0 41), .int (bM.1 0 42), .int (bM.1 0 43), .int (bM.1 0 44), .int (bM.1 0 45), .ref (w 14), .ref (w 15), .ref (w 16), .ref (w 17)])), (w 0, .inl (cy 0, 940, .inl (bM.1 1))), (w 1, .inl (cy 1, 270, .inl (bM.1 2))), (w 2, .inl (cy 1, 80, .inl (bM.1 3))), (w 3, .inl (cy 1, 135, .inl (bM.1 4))), (w 4, .inl (cy 2, 30, .inr (.inl (bM.2 5)))), (w 5, .inl (cy 2, 24, .inr (.inl (bM.2 6)))), (w 6, .inl (cy 1, 72, .inl (bM.1 7))), (w 7, .inl (cy 1, 9, .inl (bM.1 8))), (w 8, .inl (cy 1, 6, .inl (bM.1 9))), (w 9, .inl (cy 3, 31, .inl (bM.1 10))), (w 10, .inl (cy 1, 11, .inl (bM.1 11))), (w 11, .inl (cy 0, 24, .inl (bM.1 12))), (w 12, .inl (cy 1, 4, .inl (bM.1 13))), (w 13, .inl (cy 1, 45, .inl (bM.1 14))), (w 14, .inl (cy 3, 45, .inl (bM.1 15))), (w 15, .inl (cy 1, 540, .inl (bM.1 16))), (w 16, .inl (cy 2, 30, .inr (.inl (bM.2 17)))), (w 17, .inl (cy 3, 2, .inl (bM.1 18))), (qo, .inl (cy 2, 1, .inr (.inl (fun _ => 0))))]
set_option maxRecDepth 100000 in
set_option maxHeartbeats 4000000 in
theorem wsM_flat {cy : Nat → ClassId} {aT bM : Mm} {q : Nat} {u : Nat → Nat} {v : Nat → Nat → Nat} {q2 : Nat} {w : Nat → Nat} {qo : Nat} : wsM cy aT bM q u v q2 w qo = wsF cy aT bM q u v q2 w qo := by
  simp only [wsM, wsF, tld0, sgX11, sgX10, sgX12, sgX0, sgX1, sgX2, sgX3, sgX4, sgX5, sgX6, sgX7, sgX8, sgX9, List.append_assoc, List.cons_append, List.nil_append, Nat.reduceAdd]
def pm0 : List Nat := [0, 1, 2, 3, 4, 5, 6, 7, 26, 27, 28, 29, 30, 31, 32, 33, 34, 35, 36, 37, 38, 39, 40, 41, 42, 43, 44, 45, 46, 47, 48, 49, 50, 51, 52, 53, 54, 55, 56, 57, 58, 59, 60, 61, 62, 71, 72, 73, 74, 75, 76, 77, 78, 79, 80, 81, 82, 83, 84, 85, 86, 87, 88, 89, 90, 91, 92, 93, 94, 95, 96, 97, 98, 99, 100, 101, 102, 103, 104, 8, 9, 10, 11, 12, 13, 14, 15, 16, 17, 18, 19, 20, 21, 22, 23, 24, 25, 63, 64, 65, 66, 67, 68, 69, 70, 105, 106, 107, 108, 109, 110, 111, 112, 113, 114, 115, 116, 117, 118, 119, 120, 121, 122, 123, 124]
def ip0 : List Nat := [0, 1, 2, 3, 4, 5, 6, 7, 79, 80, 81, 82, 83, 84, 85, 86, 87, 88, 89, 90, 91, 92, 93, 94, 95, 96, 8, 9, 10, 11, 12, 13, 14, 15, 16, 17, 18, 19, 20, 21, 22, 23, 24, 25, 26, 27, 28, 29, 30, 31, 32, 33, 34, 35, 36, 37, 38, 39, 40, 41, 42, 43, 44, 97, 98, 99, 100, 101, 102, 103, 104, 45, 46, 47, 48, 49, 50, 51, 52, 53, 54, 55, 56, 57, 58, 59, 60, 61, 62, 63, 64, 65, 66, 67, 68, 69, 70, 71, 72, 73, 74, 75, 76, 77, 78, 105, 106, 107, 108, 109, 110, 111, 112, 113, 114, 115, 116, 117, 118, 119, 120, 121, 122, 123, 124]
theorem ip_pm : ∀ i, i < 125 → ip0.getD (pm0.getD i 0) 0 = i := by decide +kernel
theorem at_ext {D : va_G} {cl : List vw_C} {a n : Nat} {cA : ClassId} {f f' : Nat → Option Nat} {H : Heap} (hf : ∀ j, j < n → f j = f' j) (h : va_at D cl (a, .inl (cA, n, .inr (.inr (.inr (.inr f))))) H) : va_at D cl (a, .inl (cA, n, .inr (.inr (.inr (.inr f'))))) H := by
  have e : vp_cell cA (n, .inr (.inr (.inr (.inr f)))) = vp_cell cA (n, .inr (.inr (.inr (.inr f')))) := by
    rw [vp_cell_q, vp_cell_q]
    unfold arrV
    congr 1
    congr 1
    funext j
    show va_rf (f j.val) = va_rf (f' j.val)
    rw [hf j.val j.isLt]
  show H[a]? = some (vp_cell cA (n, .inr (.inr (.inr (.inr f')))))
  rw [← e]
  exact h
def PW (D : va_G) (cy : Nat → ClassId) (E : State → Prop) (aT bM : Mm) (q : Nat) (u : Nat → Nat) (v : Nat → Nat → Nat) (q2 : Nat) (w : Nat → Nat) (qo : Nat) (i : Nat) : Prop := ∃ e : va_E, (wsF cy aT bM q u v q2 w qo)[pm0.getD i 0]? = some (ad0 aT bM q u v q2 w qo i, e) ∧ ∀ H : Heap, va_at D vwCl (ad0 aT bM q u v q2 w qo i, e) H → va_at D vwCl (ad0 aT bM q u v q2 w qo i, ce (g0 D cy E aT bM q u v q2 w qo) R0 (Tz aT bM) i) H
section PW0
variable {D : va_G} {cy : Nat → ClassId} {E : State → Prop} {aT bM : Mm} {q : Nat} {u : Nat → Nat} {v : Nat → Nat → Nat} {q2 : Nat} {w : Nat → Nat} {qo : Nat}
theorem pw_0 : PW D cy E aT bM q u v q2 w qo 0 := ⟨_, rfl, fun H h => by rw [ce_obj (c := 11) rfl rfl]; exact h⟩
theorem pw_1 : PW D cy E aT bM q u v q2 w qo 1 := ⟨_, rfl, fun H h => by rw [ce_obj (c := 10) rfl rfl]; exact h⟩
theorem pw_2 : PW D cy E aT bM q u v q2 w qo 2 := ⟨_, rfl, fun H h => by rw [ce_I (c := 20940) (n := 940) (e := 1) rfl rfl rfl rfl rfl]; exact h⟩
theorem pw_3 : PW D cy E aT bM q u v q2 w qo 3 := ⟨_, rfl, fun H h => by rw [ce_I (c := 20941) (n := 941) (e := 1) rfl rfl rfl rfl rfl]; exact h⟩
theorem pw_4 : PW D cy E aT bM q u v q2 w qo 4 := ⟨_, rfl, fun H h => by rw [ce_I (c := 20941) (n := 941) (e := 1) rfl rfl rfl rfl rfl]; exact h⟩
theorem pw_5 : PW D cy E aT bM q u v q2 w qo 5 := ⟨_, rfl, fun H h => by rw [ce_I (c := 20941) (n := 941) (e := 1) rfl rfl rfl rfl rfl]; exact h⟩
theorem pw_6 : PW D cy E aT bM q u v q2 w qo 6 := ⟨_, rfl, fun H h => by rw [ce_J (c := 30941) (n := 941) rfl rfl rfl]; exact h⟩
theorem pw_7 : PW D cy E aT bM q u v q2 w qo 7 := ⟨_, rfl, fun H h => by rw [ce_J (c := 30024) (n := 24) rfl rfl rfl]; exact h⟩
theorem pw_8 : PW D cy E aT bM q u v q2 w qo 8 := ⟨_, rfl, fun H h => by rw [ce_obj (c := 1) rfl rfl]; exact h⟩
theorem pw_9 : PW D cy E aT bM q u v q2 w qo 9 := ⟨_, rfl, fun H h => by rw [ce_I (c := 20005) (n := 5) (e := 1) rfl rfl rfl rfl rfl]; exact h⟩
theorem pw_10 : PW D cy E aT bM q u v q2 w qo 10 := ⟨_, rfl, fun H h => by rw [ce_obj (c := 1) rfl rfl]; exact h⟩
theorem pw_11 : PW D cy E aT bM q u v q2 w qo 11 := ⟨_, rfl, fun H h => by rw [ce_I (c := 20005) (n := 5) (e := 1) rfl rfl rfl rfl rfl]; exact h⟩
theorem pw_12 : PW D cy E aT bM q u v q2 w qo 12 := ⟨_, rfl, fun H h => by rw [ce_obj (c := 7) rfl rfl]; exact h⟩
theorem pw_13 : PW D cy E aT bM q u v q2 w qo 13 := ⟨_, rfl, fun H h => by rw [ce_R (c := 50008) (n := 8) (e := 4) rfl rfl rfl rfl]; exact at_ext (fun j hj => match j, hj with | 0, _ => rfl | 1, _ => rfl | 2, _ => rfl | 3, _ => rfl | 4, _ => rfl | 5, _ => rfl | 6, _ => rfl | 7, _ => rfl | j + 8, h => absurd h (by omega)) h⟩
theorem pw_14 : PW D cy E aT bM q u v q2 w qo 14 := ⟨_, rfl, fun H h => by rw [ce_obj (c := 1) rfl rfl]; exact h⟩
theorem pw_15 : PW D cy E aT bM q u v q2 w qo 15 := ⟨_, rfl, fun H h => by rw [ce_I (c := 20005) (n := 5) (e := 1) rfl rfl rfl rfl rfl]; exact h⟩
theorem pw_16 : PW D cy E aT bM q u v q2 w qo 16 := ⟨_, rfl, fun H h => by rw [ce_obj (c := 1) rfl rfl]; exact h⟩
theorem pw_17 : PW D cy E aT bM q u v q2 w qo 17 := ⟨_, rfl, fun H h => by rw [ce_I (c := 20005) (n := 5) (e := 1) rfl rfl rfl rfl rfl]; exact h⟩
theorem pw_18 : PW D cy E aT bM q u v q2 w qo 18 := ⟨_, rfl, fun H h => by rw [ce_obj (c := 1) rfl rfl]; exact h⟩
theorem pw_19 : PW D cy E aT bM q u v q2 w qo 19 := ⟨_, rfl, fun H h => by rw [ce_I (c := 20005) (n := 5) (e := 1) rfl rfl rfl rfl rfl]; exact h⟩
theorem pw_20 : PW D cy E aT bM q u v q2 w qo 20 := ⟨_, rfl, fun H h => by rw [ce_obj (c := 1) rfl rfl]; exact h⟩
theorem pw_21 : PW D cy E aT bM q u v q2 w qo 21 := ⟨_, rfl, fun H h => by rw [ce_I (c := 20005) (n := 5) (e := 1) rfl rfl rfl rfl rfl]; exact h⟩
theorem pw_22 : PW D cy E aT bM q u v q2 w qo 22 := ⟨_, rfl, fun H h => by rw [ce_obj (c := 1) rfl rfl]; exact h⟩
theorem pw_23 : PW D cy E aT bM q u v q2 w qo 23 := ⟨_, rfl, fun H h => by rw [ce_I (c := 20005) (n := 5) (e := 1) rfl rfl rfl rfl rfl]; exact h⟩
theorem pw_24 : PW D cy E aT bM q u v q2 w qo 24 := ⟨_, rfl, fun H h => by rw [ce_obj (c := 1) rfl rfl]; exact h⟩
theorem pw_25 : PW D cy E aT bM q u v q2 w qo 25 := ⟨_, rfl, fun H h => by rw [ce_I (c := 20005) (n := 5) (e := 1) rfl rfl rfl rfl rfl]; exact h⟩
theorem pw_26 : PW D cy E aT bM q u v q2 w qo 26 := ⟨_, rfl, fun H h => by rw [ce_obj (c := 1) rfl rfl]; exact h⟩
theorem pw_27 : PW D cy E aT bM q u v q2 w qo 27 := ⟨_, rfl, fun H h => by rw [ce_I (c := 20005) (n := 5) (e := 1) rfl rfl rfl rfl rfl]; exact h⟩
theorem pw_28 : PW D cy E aT bM q u v q2 w qo 28 := ⟨_, rfl, fun H h => by rw [ce_obj (c := 1) rfl rfl]; exact h⟩
theorem pw_29 : PW D cy E aT bM q u v q2 w qo 29 := ⟨_, rfl, fun H h => by rw [ce_I (c := 20005) (n := 5) (e := 1) rfl rfl rfl rfl rfl]; exact h⟩
theorem pw_30 : PW D cy E aT bM q u v q2 w qo 30 := ⟨_, rfl, fun H h => by rw [ce_obj (c := 0) rfl rfl]; exact h⟩
theorem pw_31 : PW D cy E aT bM q u v q2 w qo 31 := ⟨_, rfl, fun H h => by rw [ce_I (c := 20040) (n := 40) (e := 1) rfl rfl rfl rfl rfl]; exact h⟩
theorem pw_32 : PW D cy E aT bM q u v q2 w qo 32 := ⟨_, rfl, fun H h => by rw [ce_I (c := 20040) (n := 40) (e := 1) rfl rfl rfl rfl rfl]; exact h⟩
theorem pw_33 : PW D cy E aT bM q u v q2 w qo 33 := ⟨_, rfl, fun H h => by rw [ce_obj (c := 6) rfl rfl]; exact h⟩
theorem pw_34 : PW D cy E aT bM q u v q2 w qo 34 := ⟨_, rfl, fun H h => by rw [ce_I (c := 20010) (n := 10) (e := 1) rfl rfl rfl rfl rfl]; exact h⟩
theorem pw_35 : PW D cy E aT bM q u v q2 w qo 35 := ⟨_, rfl, fun H h => by rw [ce_obj (c := 4) rfl rfl]; exact h⟩
theorem pw_36 : PW D cy E aT bM q u v q2 w qo 36 := ⟨_, rfl, fun H h => by rw [ce_R (c := 70005) (n := 5) (e := 6) rfl rfl rfl rfl]; exact at_ext (fun j hj => match j, hj with | 0, _ => rfl | 1, _ => rfl | 2, _ => rfl | 3, _ => rfl | 4, _ => rfl | j + 5, h => absurd h (by omega)) h⟩
theorem pw_37 : PW D cy E aT bM q u v q2 w qo 37 := ⟨_, rfl, fun H h => by rw [ce_I (c := 20031) (n := 31) (e := 1) rfl rfl rfl rfl rfl]; exact h⟩
theorem pw_38 : PW D cy E aT bM q u v q2 w qo 38 := ⟨_, rfl, fun H h => by rw [ce_I (c := 20031) (n := 31) (e := 1) rfl rfl rfl rfl rfl]; exact h⟩
theorem pw_39 : PW D cy E aT bM q u v q2 w qo 39 := ⟨_, rfl, fun H h => by rw [ce_I (c := 20031) (n := 31) (e := 1) rfl rfl rfl rfl rfl]; exact h⟩
theorem pw_40 : PW D cy E aT bM q u v q2 w qo 40 := ⟨_, rfl, fun H h => by rw [ce_I (c := 20031) (n := 31) (e := 1) rfl rfl rfl rfl rfl]; exact h⟩
theorem pw_41 : PW D cy E aT bM q u v q2 w qo 41 := ⟨_, rfl, fun H h => by rw [ce_I (c := 20031) (n := 31) (e := 1) rfl rfl rfl rfl rfl]; exact h⟩
theorem pw_42 : PW D cy E aT bM q u v q2 w qo 42 := ⟨_, rfl, fun H h => by rw [ce_obj (c := 2) rfl rfl]; exact h⟩
theorem pw_43 : PW D cy E aT bM q u v q2 w qo 43 := ⟨_, rfl, fun H h => by rw [ce_obj (c := 9) rfl rfl]; exact h⟩
theorem pw_44 : PW D cy E aT bM q u v q2 w qo 44 := ⟨_, rfl, fun H h => by rw [ce_I (c := 20016) (n := 16) (e := 1) rfl rfl rfl rfl rfl]; exact h⟩
theorem pw_45 : PW D cy E aT bM q u v q2 w qo 45 := ⟨_, rfl, fun H h => by rw [ce_R (c := 60002) (n := 2) (e := 5) rfl rfl rfl rfl]; exact at_ext (fun j hj => match j, hj with | 0, _ => rfl | 1, _ => rfl | j + 2, h => absurd h (by omega)) h⟩
theorem pw_46 : PW D cy E aT bM q u v q2 w qo 46 := ⟨_, rfl, fun H h => by rw [ce_obj (c := 5) rfl rfl]; exact h⟩
theorem pw_47 : PW D cy E aT bM q u v q2 w qo 47 := ⟨_, rfl, fun H h => by rw [ce_obj (c := 3) rfl rfl]; exact h⟩
theorem pw_48 : PW D cy E aT bM q u v q2 w qo 48 := ⟨_, rfl, fun H h => by rw [ce_I (c := 20005) (n := 5) (e := 1) rfl rfl rfl rfl rfl]; exact h⟩
theorem pw_49 : PW D cy E aT bM q u v q2 w qo 49 := ⟨_, rfl, fun H h => by rw [ce_J (c := 30005) (n := 5) rfl rfl rfl]; exact h⟩
theorem pw_50 : PW D cy E aT bM q u v q2 w qo 50 := ⟨_, rfl, fun H h => by rw [ce_J (c := 30010) (n := 10) rfl rfl rfl]; exact h⟩
theorem pw_51 : PW D cy E aT bM q u v q2 w qo 51 := ⟨_, rfl, fun H h => by rw [ce_I (c := 20010) (n := 10) (e := 1) rfl rfl rfl rfl rfl]; exact h⟩
theorem pw_52 : PW D cy E aT bM q u v q2 w qo 52 := ⟨_, rfl, fun H h => by rw [ce_I (c := 20010) (n := 10) (e := 1) rfl rfl rfl rfl rfl]; exact h⟩
theorem pw_53 : PW D cy E aT bM q u v q2 w qo 53 := ⟨_, rfl, fun H h => by rw [ce_I (c := 20016) (n := 16) (e := 1) rfl rfl rfl rfl rfl]; exact h⟩
theorem pw_54 : PW D cy E aT bM q u v q2 w qo 54 := ⟨_, rfl, fun H h => by rw [ce_I (c := 20016) (n := 16) (e := 1) rfl rfl rfl rfl rfl]; exact h⟩
theorem pw_55 : PW D cy E aT bM q u v q2 w qo 55 := ⟨_, rfl, fun H h => by rw [ce_I (c := 20016) (n := 16) (e := 1) rfl rfl rfl rfl rfl]; exact h⟩
theorem pw_56 : PW D cy E aT bM q u v q2 w qo 56 := ⟨_, rfl, fun H h => by rw [ce_obj (c := 1) rfl rfl]; exact h⟩
theorem pw_57 : PW D cy E aT bM q u v q2 w qo 57 := ⟨_, rfl, fun H h => by rw [ce_I (c := 20005) (n := 5) (e := 1) rfl rfl rfl rfl rfl]; exact h⟩
theorem pw_58 : PW D cy E aT bM q u v q2 w qo 58 := ⟨_, rfl, fun H h => by rw [ce_obj (c := 8) rfl rfl]; exact h⟩
theorem pw_59 : PW D cy E aT bM q u v q2 w qo 59 := ⟨_, rfl, fun H h => by rw [ce_I (c := 20040) (n := 40) (e := 1) rfl rfl rfl rfl rfl]; exact h⟩
theorem pw_60 : PW D cy E aT bM q u v q2 w qo 60 := ⟨_, rfl, fun H h => by rw [ce_I (c := 20040) (n := 40) (e := 1) rfl rfl rfl rfl rfl]; exact h⟩
theorem pw_61 : PW D cy E aT bM q u v q2 w qo 61 := ⟨_, rfl, fun H h => by rw [ce_I (c := 20040) (n := 40) (e := 1) rfl rfl rfl rfl rfl]; exact h⟩
theorem pw_62 : PW D cy E aT bM q u v q2 w qo 62 := ⟨_, rfl, fun H h => by rw [ce_obj (c := 5) rfl rfl]; exact h⟩
theorem pw_63 : PW D cy E aT bM q u v q2 w qo 63 := ⟨_, rfl, fun H h => by rw [ce_obj (c := 3) rfl rfl]; exact h⟩
theorem pw_64 : PW D cy E aT bM q u v q2 w qo 64 := ⟨_, rfl, fun H h => by rw [ce_I (c := 20005) (n := 5) (e := 1) rfl rfl rfl rfl rfl]; exact h⟩
theorem pw_65 : PW D cy E aT bM q u v q2 w qo 65 := ⟨_, rfl, fun H h => by rw [ce_J (c := 30005) (n := 5) rfl rfl rfl]; exact h⟩
theorem pw_66 : PW D cy E aT bM q u v q2 w qo 66 := ⟨_, rfl, fun H h => by rw [ce_J (c := 30010) (n := 10) rfl rfl rfl]; exact h⟩
theorem pw_67 : PW D cy E aT bM q u v q2 w qo 67 := ⟨_, rfl, fun H h => by rw [ce_I (c := 20010) (n := 10) (e := 1) rfl rfl rfl rfl rfl]; exact h⟩
theorem pw_68 : PW D cy E aT bM q u v q2 w qo 68 := ⟨_, rfl, fun H h => by rw [ce_I (c := 20010) (n := 10) (e := 1) rfl rfl rfl rfl rfl]; exact h⟩
theorem pw_69 : PW D cy E aT bM q u v q2 w qo 69 := ⟨_, rfl, fun H h => by rw [ce_I (c := 20016) (n := 16) (e := 1) rfl rfl rfl rfl rfl]; exact h⟩
theorem pw_70 : PW D cy E aT bM q u v q2 w qo 70 := ⟨_, rfl, fun H h => by rw [ce_I (c := 20016) (n := 16) (e := 1) rfl rfl rfl rfl rfl]; exact h⟩
theorem pw_71 : PW D cy E aT bM q u v q2 w qo 71 := ⟨_, rfl, fun H h => by rw [ce_I (c := 20016) (n := 16) (e := 1) rfl rfl rfl rfl rfl]; exact h⟩
theorem pw_72 : PW D cy E aT bM q u v q2 w qo 72 := ⟨_, rfl, fun H h => by rw [ce_obj (c := 1) rfl rfl]; exact h⟩
theorem pw_73 : PW D cy E aT bM q u v q2 w qo 73 := ⟨_, rfl, fun H h => by rw [ce_I (c := 20005) (n := 5) (e := 1) rfl rfl rfl rfl rfl]; exact h⟩
theorem pw_74 : PW D cy E aT bM q u v q2 w qo 74 := ⟨_, rfl, fun H h => by rw [ce_obj (c := 8) rfl rfl]; exact h⟩
theorem pw_75 : PW D cy E aT bM q u v q2 w qo 75 := ⟨_, rfl, fun H h => by rw [ce_I (c := 20040) (n := 40) (e := 1) rfl rfl rfl rfl rfl]; exact h⟩
theorem pw_76 : PW D cy E aT bM q u v q2 w qo 76 := ⟨_, rfl, fun H h => by rw [ce_I (c := 20040) (n := 40) (e := 1) rfl rfl rfl rfl rfl]; exact h⟩
theorem pw_77 : PW D cy E aT bM q u v q2 w qo 77 := ⟨_, rfl, fun H h => by rw [ce_I (c := 20040) (n := 40) (e := 1) rfl rfl rfl rfl rfl]; exact h⟩
theorem pw_78 : PW D cy E aT bM q u v q2 w qo 78 := ⟨_, rfl, fun H h => by rw [ce_I (c := 20004) (n := 4) (e := 1) rfl rfl rfl rfl rfl]; exact h⟩
theorem pw_79 : PW D cy E aT bM q u v q2 w qo 79 := ⟨_, rfl, fun H h => by rw [ce_obj (c := 3) rfl rfl]; exact h⟩
theorem pw_80 : PW D cy E aT bM q u v q2 w qo 80 := ⟨_, rfl, fun H h => by rw [ce_I (c := 20005) (n := 5) (e := 1) rfl rfl rfl rfl rfl]; exact h⟩
theorem pw_81 : PW D cy E aT bM q u v q2 w qo 81 := ⟨_, rfl, fun H h => by rw [ce_J (c := 30005) (n := 5) rfl rfl rfl]; exact h⟩
theorem pw_82 : PW D cy E aT bM q u v q2 w qo 82 := ⟨_, rfl, fun H h => by rw [ce_J (c := 30010) (n := 10) rfl rfl rfl]; exact h⟩
theorem pw_83 : PW D cy E aT bM q u v q2 w qo 83 := ⟨_, rfl, fun H h => by rw [ce_I (c := 20010) (n := 10) (e := 1) rfl rfl rfl rfl rfl]; exact h⟩
theorem pw_84 : PW D cy E aT bM q u v q2 w qo 84 := ⟨_, rfl, fun H h => by rw [ce_I (c := 20010) (n := 10) (e := 1) rfl rfl rfl rfl rfl]; exact h⟩
theorem pw_85 : PW D cy E aT bM q u v q2 w qo 85 := ⟨_, rfl, fun H h => by rw [ce_I (c := 20016) (n := 16) (e := 1) rfl rfl rfl rfl rfl]; exact h⟩
theorem pw_86 : PW D cy E aT bM q u v q2 w qo 86 := ⟨_, rfl, fun H h => by rw [ce_I (c := 20016) (n := 16) (e := 1) rfl rfl rfl rfl rfl]; exact h⟩
theorem pw_87 : PW D cy E aT bM q u v q2 w qo 87 := ⟨_, rfl, fun H h => by rw [ce_I (c := 20016) (n := 16) (e := 1) rfl rfl rfl rfl rfl]; exact h⟩
theorem pw_88 : PW D cy E aT bM q u v q2 w qo 88 := ⟨_, rfl, fun H h => by rw [ce_obj (c := 3) rfl rfl]; exact h⟩
theorem pw_89 : PW D cy E aT bM q u v q2 w qo 89 := ⟨_, rfl, fun H h => by rw [ce_I (c := 20005) (n := 5) (e := 1) rfl rfl rfl rfl rfl]; exact h⟩
theorem pw_90 : PW D cy E aT bM q u v q2 w qo 90 := ⟨_, rfl, fun H h => by rw [ce_J (c := 30005) (n := 5) rfl rfl rfl]; exact h⟩
theorem pw_91 : PW D cy E aT bM q u v q2 w qo 91 := ⟨_, rfl, fun H h => by rw [ce_J (c := 30010) (n := 10) rfl rfl rfl]; exact h⟩
theorem pw_92 : PW D cy E aT bM q u v q2 w qo 92 := ⟨_, rfl, fun H h => by rw [ce_I (c := 20010) (n := 10) (e := 1) rfl rfl rfl rfl rfl]; exact h⟩
theorem pw_93 : PW D cy E aT bM q u v q2 w qo 93 := ⟨_, rfl, fun H h => by rw [ce_I (c := 20010) (n := 10) (e := 1) rfl rfl rfl rfl rfl]; exact h⟩
theorem pw_94 : PW D cy E aT bM q u v q2 w qo 94 := ⟨_, rfl, fun H h => by rw [ce_I (c := 20016) (n := 16) (e := 1) rfl rfl rfl rfl rfl]; exact h⟩
theorem pw_95 : PW D cy E aT bM q u v q2 w qo 95 := ⟨_, rfl, fun H h => by rw [ce_I (c := 20016) (n := 16) (e := 1) rfl rfl rfl rfl rfl]; exact h⟩
theorem pw_96 : PW D cy E aT bM q u v q2 w qo 96 := ⟨_, rfl, fun H h => by rw [ce_I (c := 20016) (n := 16) (e := 1) rfl rfl rfl rfl rfl]; exact h⟩
theorem pw_97 : PW D cy E aT bM q u v q2 w qo 97 := ⟨_, rfl, fun H h => by rw [ce_obj (c := 8) rfl rfl]; exact h⟩
theorem pw_98 : PW D cy E aT bM q u v q2 w qo 98 := ⟨_, rfl, fun H h => by rw [ce_I (c := 20040) (n := 40) (e := 1) rfl rfl rfl rfl rfl]; exact h⟩
theorem pw_99 : PW D cy E aT bM q u v q2 w qo 99 := ⟨_, rfl, fun H h => by rw [ce_I (c := 20040) (n := 40) (e := 1) rfl rfl rfl rfl rfl]; exact h⟩
theorem pw_100 : PW D cy E aT bM q u v q2 w qo 100 := ⟨_, rfl, fun H h => by rw [ce_I (c := 20040) (n := 40) (e := 1) rfl rfl rfl rfl rfl]; exact h⟩
theorem pw_101 : PW D cy E aT bM q u v q2 w qo 101 := ⟨_, rfl, fun H h => by rw [ce_obj (c := 8) rfl rfl]; exact h⟩
theorem pw_102 : PW D cy E aT bM q u v q2 w qo 102 := ⟨_, rfl, fun H h => by rw [ce_I (c := 20040) (n := 40) (e := 1) rfl rfl rfl rfl rfl]; exact h⟩
theorem pw_103 : PW D cy E aT bM q u v q2 w qo 103 := ⟨_, rfl, fun H h => by rw [ce_I (c := 20040) (n := 40) (e := 1) rfl rfl rfl rfl rfl]; exact h⟩
theorem pw_104 : PW D cy E aT bM q u v q2 w qo 104 := ⟨_, rfl, fun H h => by rw [ce_I (c := 20040) (n := 40) (e := 1) rfl rfl rfl rfl rfl]; exact h⟩
theorem pw_105 : PW D cy E aT bM q u v q2 w qo 105 := ⟨_, rfl, fun H h => by rw [ce_obj (c := 12) rfl rfl]; exact h⟩
theorem pw_106 : PW D cy E aT bM q u v q2 w qo 106 := ⟨_, rfl, fun H h => by rw [ce_I (c := 10940) (n := 940) (e := 0) rfl rfl rfl rfl rfl]; exact h⟩
theorem pw_107 : PW D cy E aT bM q u v q2 w qo 107 := ⟨_, rfl, fun H h => by rw [ce_I (c := 20270) (n := 270) (e := 1) rfl rfl rfl rfl rfl]; exact h⟩
theorem pw_108 : PW D cy E aT bM q u v q2 w qo 108 := ⟨_, rfl, fun H h => by rw [ce_I (c := 20080) (n := 80) (e := 1) rfl rfl rfl rfl rfl]; exact h⟩
theorem pw_109 : PW D cy E aT bM q u v q2 w qo 109 := ⟨_, rfl, fun H h => by rw [ce_I (c := 20135) (n := 135) (e := 1) rfl rfl rfl rfl rfl]; exact h⟩
theorem pw_110 : PW D cy E aT bM q u v q2 w qo 110 := ⟨_, rfl, fun H h => by rw [ce_J (c := 30030) (n := 30) rfl rfl rfl]; exact h⟩
theorem pw_111 : PW D cy E aT bM q u v q2 w qo 111 := ⟨_, rfl, fun H h => by rw [ce_J (c := 30024) (n := 24) rfl rfl rfl]; exact h⟩
theorem pw_112 : PW D cy E aT bM q u v q2 w qo 112 := ⟨_, rfl, fun H h => by rw [ce_I (c := 20072) (n := 72) (e := 1) rfl rfl rfl rfl rfl]; exact h⟩
theorem pw_113 : PW D cy E aT bM q u v q2 w qo 113 := ⟨_, rfl, fun H h => by rw [ce_I (c := 20009) (n := 9) (e := 1) rfl rfl rfl rfl rfl]; exact h⟩
theorem pw_114 : PW D cy E aT bM q u v q2 w qo 114 := ⟨_, rfl, fun H h => by rw [ce_I (c := 20006) (n := 6) (e := 1) rfl rfl rfl rfl rfl]; exact h⟩
theorem pw_115 : PW D cy E aT bM q u v q2 w qo 115 := ⟨_, rfl, fun H h => by rw [ce_I (c := 40031) (n := 31) (e := 3) rfl rfl rfl rfl rfl]; exact h⟩
theorem pw_116 : PW D cy E aT bM q u v q2 w qo 116 := ⟨_, rfl, fun H h => by rw [ce_I (c := 20011) (n := 11) (e := 1) rfl rfl rfl rfl rfl]; exact h⟩
theorem pw_117 : PW D cy E aT bM q u v q2 w qo 117 := ⟨_, rfl, fun H h => by rw [ce_I (c := 10024) (n := 24) (e := 0) rfl rfl rfl rfl rfl]; exact h⟩
theorem pw_118 : PW D cy E aT bM q u v q2 w qo 118 := ⟨_, rfl, fun H h => by rw [ce_I (c := 20004) (n := 4) (e := 1) rfl rfl rfl rfl rfl]; exact h⟩
theorem pw_119 : PW D cy E aT bM q u v q2 w qo 119 := ⟨_, rfl, fun H h => by rw [ce_I (c := 20045) (n := 45) (e := 1) rfl rfl rfl rfl rfl]; exact h⟩
theorem pw_120 : PW D cy E aT bM q u v q2 w qo 120 := ⟨_, rfl, fun H h => by rw [ce_I (c := 40045) (n := 45) (e := 3) rfl rfl rfl rfl rfl]; exact h⟩
theorem pw_121 : PW D cy E aT bM q u v q2 w qo 121 := ⟨_, rfl, fun H h => by rw [ce_I (c := 20540) (n := 540) (e := 1) rfl rfl rfl rfl rfl]; exact h⟩
theorem pw_122 : PW D cy E aT bM q u v q2 w qo 122 := ⟨_, rfl, fun H h => by rw [ce_J (c := 30030) (n := 30) rfl rfl rfl]; exact h⟩
theorem pw_123 : PW D cy E aT bM q u v q2 w qo 123 := ⟨_, rfl, fun H h => by rw [ce_I (c := 40002) (n := 2) (e := 3) rfl rfl rfl rfl rfl]; exact h⟩
theorem pw_124 : PW D cy E aT bM q u v q2 w qo 124 := ⟨_, rfl, fun H h => by rw [ce_J (c := 30001) (n := 1) rfl rfl rfl]; exact h⟩
end PW0
theorem all25 {P : Nat → Prop} (h0 : P 0) (h1 : P 1) (h2 : P 2) (h3 : P 3) (h4 : P 4) (h5 : P 5) (h6 : P 6) (h7 : P 7) (h8 : P 8) (h9 : P 9) (h10 : P 10) (h11 : P 11) (h12 : P 12) (h13 : P 13) (h14 : P 14) (h15 : P 15) (h16 : P 16) (h17 : P 17) (h18 : P 18) (h19 : P 19) (h20 : P 20) (h21 : P 21) (h22 : P 22) (h23 : P 23) (h24 : P 24) : ∀ k, k < 25 → P k := fun k hk => match k, hk with | 0, _ => h0 | 1, _ => h1 | 2, _ => h2 | 3, _ => h3 | 4, _ => h4 | 5, _ => h5 | 6, _ => h6 | 7, _ => h7 | 8, _ => h8 | 9, _ => h9 | 10, _ => h10 | 11, _ => h11 | 12, _ => h12 | 13, _ => h13 | 14, _ => h14 | 15, _ => h15 | 16, _ => h16 | 17, _ => h17 | 18, _ => h18 | 19, _ => h19 | 20, _ => h20 | 21, _ => h21 | 22, _ => h22 | 23, _ => h23 | 24, _ => h24 | j + 25, h => absurd h (by omega)
theorem pw_all {D : va_G} {cy : Nat → ClassId} {E : State → Prop} {aT bM : Mm} {q : Nat} {u : Nat → Nat} {v : Nat → Nat → Nat} {q2 : Nat} {w : Nat → Nat} {qo : Nat} : ∀ i, i < 125 → PW D cy E aT bM q u v q2 w qo i := by
  have a0 : ∀ k, k < 25 → PW D cy E aT bM q u v q2 w qo (k + 0) := all25 (P := fun k => PW D cy E aT bM q u v q2 w qo (k + 0)) pw_0 pw_1 pw_2 pw_3 pw_4 pw_5 pw_6 pw_7 pw_8 pw_9 pw_10 pw_11 pw_12 pw_13 pw_14 pw_15 pw_16 pw_17 pw_18 pw_19 pw_20 pw_21 pw_22 pw_23 pw_24
  have a1 : ∀ k, k < 25 → PW D cy E aT bM q u v q2 w qo (k + 25) := all25 (P := fun k => PW D cy E aT bM q u v q2 w qo (k + 25)) pw_25 pw_26 pw_27 pw_28 pw_29 pw_30 pw_31 pw_32 pw_33 pw_34 pw_35 pw_36 pw_37 pw_38 pw_39 pw_40 pw_41 pw_42 pw_43 pw_44 pw_45 pw_46 pw_47 pw_48 pw_49
  have a2 : ∀ k, k < 25 → PW D cy E aT bM q u v q2 w qo (k + 50) := all25 (P := fun k => PW D cy E aT bM q u v q2 w qo (k + 50)) pw_50 pw_51 pw_52 pw_53 pw_54 pw_55 pw_56 pw_57 pw_58 pw_59 pw_60 pw_61 pw_62 pw_63 pw_64 pw_65 pw_66 pw_67 pw_68 pw_69 pw_70 pw_71 pw_72 pw_73 pw_74
  have a3 : ∀ k, k < 25 → PW D cy E aT bM q u v q2 w qo (k + 75) := all25 (P := fun k => PW D cy E aT bM q u v q2 w qo (k + 75)) pw_75 pw_76 pw_77 pw_78 pw_79 pw_80 pw_81 pw_82 pw_83 pw_84 pw_85 pw_86 pw_87 pw_88 pw_89 pw_90 pw_91 pw_92 pw_93 pw_94 pw_95 pw_96 pw_97 pw_98 pw_99
  have a4 : ∀ k, k < 25 → PW D cy E aT bM q u v q2 w qo (k + 100) := all25 (P := fun k => PW D cy E aT bM q u v q2 w qo (k + 100)) pw_100 pw_101 pw_102 pw_103 pw_104 pw_105 pw_106 pw_107 pw_108 pw_109 pw_110 pw_111 pw_112 pw_113 pw_114 pw_115 pw_116 pw_117 pw_118 pw_119 pw_120 pw_121 pw_122 pw_123 pw_124
  intro i hi
  rcases Nat.lt_or_ge i 25 with h | h
  · exact a0 i h
  rcases Nat.lt_or_ge i 50 with h | h
  · have := a1 (i - 25) (by omega); rwa [show i - 25 + 25 = i by omega] at this
  rcases Nat.lt_or_ge i 75 with h | h
  · have := a2 (i - 50) (by omega); rwa [show i - 50 + 50 = i by omega] at this
  rcases Nat.lt_or_ge i 100 with h | h
  · have := a3 (i - 75) (by omega); rwa [show i - 75 + 75 = i by omega] at this
  · have := a4 (i - 100) (by omega); rwa [show i - 100 + 100 = i by omega] at this
theorem ws0_at {D : va_G} {cy : Nat → ClassId} {E : State → Prop} {aT bM : Mm} {q : Nat} {u : Nat → Nat} {v : Nat → Nat → Nat} {q2 : Nat} {w : Nat → Nat} {qo : Nat} {k : Nat} {x : Nat × va_E} (h : (wsOf (g0 D cy E aT bM q u v q2 w qo) R0 (Tz aT bM))[k]? = some x) : k < 125 ∧ x = (ad0 aT bM q u v q2 w qo k, ce (g0 D cy E aT bM q u v q2 w qo) R0 (Tz aT bM) k) := by
  have hl : (g0 D cy E aT bM q u v q2 w qo).2.2.2.1.length = 125 := by show kdL.length = 125; decide +kernel
  have hk : k < 125 := by
    have := (List.getElem?_eq_some_iff.mp h).1
    unfold wsOf at this
    rw [List.length_map, List.length_range, hl] at this
    exact this
  refine ⟨hk, ?_⟩
  rw [ws_at (by rw [hl]; exact hk)] at h
  exact (Option.some.inj h).symm
theorem w0_P {D : va_G} {cy : Nat → ClassId} {E : State → Prop} {aT bM : Mm} {q : Nat} {u : Nat → Nat} {v : Nat → Nat → Nat} {q2 : Nat} {w : Nat → Nat} {qo : Nat} {H : Heap} (h : va_P D vwCl (wsM cy aT bM q u v q2 w qo) H) : va_P D vwCl (wsOf (g0 D cy E aT bM q u v q2 w qo) R0 (Tz aT bM)) H := by
  intro k x hx
  obtain ⟨hk, rfl⟩ := ws0_at hx
  obtain ⟨e, h1, h2⟩ := pw_all (D := D) (cy := cy) (E := E) (aT := aT) (bM := bM) (q := q) (u := u) (v := v) (q2 := q2) (w := w) (qo := qo) k hk
  rw [wsM_flat] at h
  exact h2 H (h _ _ h1)
theorem w0_D {D : va_G} {cy : Nat → ClassId} {E : State → Prop} {aT bM : Mm} {q : Nat} {u : Nat → Nat} {v : Nat → Nat → Nat} {q2 : Nat} {w : Nat → Nat} {qo : Nat} {Z : Nat → Prop} (h : va_D Z (wsM cy aT bM q u v q2 w qo)) : va_D Z (wsOf (g0 D cy E aT bM q u v q2 w qo) R0 (Tz aT bM)) := by
  rw [wsM_flat] at h
  refine ⟨fun i j x y hx hy e => ?_, fun k x hx => ?_⟩
  · obtain ⟨hi, rfl⟩ := ws0_at hx
    obtain ⟨hj, rfl⟩ := ws0_at hy
    obtain ⟨e1, h1, -⟩ := pw_all (D := D) (cy := cy) (E := E) (aT := aT) (bM := bM) (q := q) (u := u) (v := v) (q2 := q2) (w := w) (qo := qo) i hi
    obtain ⟨e2, h2, -⟩ := pw_all (D := D) (cy := cy) (E := E) (aT := aT) (bM := bM) (q := q) (u := u) (v := v) (q2 := q2) (w := w) (qo := qo) j hj
    have := h.1 _ _ _ _ h1 h2 e
    rw [← ip_pm i hi, ← ip_pm j hj, this]
  · obtain ⟨hk, rfl⟩ := ws0_at hx
    obtain ⟨e1, h1, -⟩ := pw_all (D := D) (cy := cy) (E := E) (aT := aT) (bM := bM) (q := q) (u := u) (v := v) (q2 := q2) (w := w) (qo := qo) k hk
    exact h.2 _ (ad0 aT bM q u v q2 w qo k, e1) h1
