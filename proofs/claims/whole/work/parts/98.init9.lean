def mX9_init : MT := (yX9_init, cX9_init, 2, none, 1, 12)
/-- the cells of a new object of class 9 -/
def W9 (D : DT) (g : Nat → Nat) : va_W := [(g 71, .inr (9, [.ref (g 72), .ref (g 73), .ref (g 74), .ref (g 75), .int 0, .ref (g 76), .ref (g 77), .ref (g 78), .int 0, .ref (g 79), .int 0, .ref (g 80), .ref (g 81), .int 0, .ref (g 82), .int 0, .ref (g 83), .ref (g 84), .ref (g 85), .ref (g 86), .ref (g 87), .ref (g 88), .ref (g 89), .ref (g 90), .int 0, .ref (g 91), .ref (g 92), .int 0])), (g 72, .inl (D.2 0, 4, .inl (s0I 72))), (g 73, .inl (D.2 0, 4, .inl (fun _ => 0))), (g 74, .inl (D.2 0, 240, .inl (fun _ => 0))), (g 75, .inl (D.2 0, 60, .inl (fun _ => 0))), (g 76, .inl (D.2 0, 180, .inl (fun _ => 0))), (g 77, .inl (D.2 0, 3, .inl (fun _ => 0))), (g 78, .inl (D.2 0, 3, .inl (fun _ => 0))), (g 79, .inl (D.2 0, 48, .inl (fun _ => 0))), (g 80, .inl (D.2 0, 36, .inl (fun _ => 0))), (g 81, .inl (D.2 0, 2, .inl (s0I 81))), (g 82, .inl (D.2 0, 24, .inl (fun _ => 0))), (g 83, .inl (D.2 0, 12, .inl (fun _ => 0))), (g 84, .inl (D.2 0, 12, .inl (fun _ => 0))), (g 85, .inl (D.2 0, 12, .inl (fun _ => 0))), (g 86, .inl (D.2 0, 12, .inl (fun _ => 0))), (g 87, .inl (D.2 0, 12, .inl (fun _ => 0))), (g 88, .inl (D.2 0, 288, .inl (fun _ => 0))), (g 89, .inl (D.2 0, 288, .inl (fun _ => 0))), (g 90, .inl (D.2 0, 288, .inl (fun _ => 0))), (g 91, .inl (D.2 0, 24, .inl (fun _ => 0))), (g 92, .inl (D.2 0, 120, .inl (fun _ => 0)))]
def nX9 (D : DT) (h0 : Nat) (w : va_W) : Prop := ∃ g : Nat → Nat, g 71 = h0 ∧ w = W9 D g
section INI9
variable {p : Program} {l : Launch} {e : Env} {s : State} {m : MethodId} {args : Array Value} {below : List Frame} {meth : Method} {c : Code} {D : DT} {h0 : Nat}
set_option maxHeartbeats 4000000 in
set_option maxRecDepth 100000 in
theorem ix9_20 {q1 q2 q3 q4 q5 q6 q7 q8 q9 q10 q11 q12 q13 q14 q15 q16 q17 q18 q19 q20 q21 : Nat} (C : CG D p s m c mX9_init.2.1 mX9_init.2.2.1 mX9_init.1.cls (va_A [(h0, .inr (9, fsX9))] s.heap.size)) (hr : meth.sig.returnType = mX9_init.2.2.2.1) (hlk : meth.locks = false) (hin : meth.name = mX9_init.1.name) : WG p l e (rmN mX9_init 21 1672) s m args below meth c D (va_A [(h0, .inr (9, fsX9))] s.heap.size) mX9_init.2.2.1 (MQ below (QN D [(h0, .inr (9, fsX9))] s.heap.size (nX9 D h0)) args s 21 1672 (va_A [(h0, .inr (9, fsX9))] s.heap.size)) 172 [(0, .ref h0)] [] [(h0, .inr (9, [.ref q1, .ref q2, .ref q3, .ref q4, .int 0, .ref q5, .ref q6, .ref q7, .int 0, .ref q8, .int 0, .ref q9, .ref q10, .int 0, .ref q11, .int 0, .ref q12, .ref q13, .ref q14, .ref q15, .ref q16, .ref q17, .ref q18, .ref q19, .int 0, .ref q20, .ref q21, .int 0])), (q1, .inl (D.2 0, 4, .inl (fun _ => 0))), (q2, .inl (D.2 0, 4, .inl (fun _ => 0))), (q3, .inl (D.2 0, 240, .inl (fun _ => 0))), (q4, .inl (D.2 0, 60, .inl (fun _ => 0))), (q5, .inl (D.2 0, 180, .inl (fun _ => 0))), (q6, .inl (D.2 0, 3, .inl (fun _ => 0))), (q7, .inl (D.2 0, 3, .inl (fun _ => 0))), (q8, .inl (D.2 0, 48, .inl (fun _ => 0))), (q9, .inl (D.2 0, 36, .inl (fun _ => 0))), (q10, .inl (D.2 0, 2, .inl (fun _ => 0))), (q11, .inl (D.2 0, 24, .inl (fun _ => 0))), (q12, .inl (D.2 0, 12, .inl (fun _ => 0))), (q13, .inl (D.2 0, 12, .inl (fun _ => 0))), (q14, .inl (D.2 0, 12, .inl (fun _ => 0))), (q15, .inl (D.2 0, 12, .inl (fun _ => 0))), (q16, .inl (D.2 0, 12, .inl (fun _ => 0))), (q17, .inl (D.2 0, 288, .inl (fun _ => 0))), (q18, .inl (D.2 0, 288, .inl (fun _ => 0))), (q19, .inl (D.2 0, 288, .inl (fun _ => 0))), (q20, .inl (D.2 0, 24, .inl (fun _ => 0))), (q21, .inl (D.2 0, 120, .inl (fun _ => 0)))] 21 1672 := by
  refine wg_iconst (v := 0) C (dget kX9_init 86 rfl) (by decide) ?_
  refine wg_istore_n (lv' := [(1, .int 0), (0, .ref h0)]) C (dget kX9_init 87 rfl) (by decide) rfl ?_
  refine wg_iload_n C (dget kX9_init 88 rfl) 0 rfl ?_
  refine wg_iconst (v := 4) C (dget kX9_init 89 rfl) (by decide) ?_
  refine wg_icmp_ge (tgt := 192) C (dget kX9_init 90 rfl) (by decide) (fun h => absurd h (by decide)) (fun _ => ?_)
  refine wg_aload_n C (dget kX9_init 91 rfl) 1 rfl ?_
  refine wg_get (v := .ref q1) C fl_X9_7 0 rfl rfl (dget kX9_init 92 rfl) ?_
  refine wg_iload_n C (dget kX9_init 93 rfl) 0 rfl ?_
  refine wg_iconst (v := (-1)) C (dget kX9_init 94 rfl) (by decide) ?_
  refine wg_iast C 0 rfl (by unfold vp_in; decide) (dget kX9_init 95 rfl) ?_
  refine wg_iinc (v := 1) (lv' := [(1, .int 1), (0, .ref h0)]) C (dget kX9_init 96 rfl) 0 rfl (by decide) (by decide) rfl ?_
  refine wg_goto (tgt := 174) C (dget kX9_init 97 rfl) (by decide) ?_
  refine wg_iload_n C (dget kX9_init 88 rfl) 0 rfl ?_
  refine wg_iconst (v := 4) C (dget kX9_init 89 rfl) (by decide) ?_
  refine wg_icmp_ge (tgt := 192) C (dget kX9_init 90 rfl) (by decide) (fun h => absurd h (by decide)) (fun _ => ?_)
  refine wg_aload_n C (dget kX9_init 91 rfl) 1 rfl ?_
  refine wg_get (v := .ref q1) C fl_X9_7 0 rfl rfl (dget kX9_init 92 rfl) ?_
  refine wg_iload_n C (dget kX9_init 93 rfl) 0 rfl ?_
  refine wg_iconst (v := (-1)) C (dget kX9_init 94 rfl) (by decide) ?_
  refine wg_iast C 0 rfl (by unfold vp_in; decide) (dget kX9_init 95 rfl) ?_
  refine wg_iinc (v := 2) (lv' := [(1, .int 2), (0, .ref h0)]) C (dget kX9_init 96 rfl) 0 rfl (by decide) (by decide) rfl ?_
  refine wg_goto (tgt := 174) C (dget kX9_init 97 rfl) (by decide) ?_
  refine wg_iload_n C (dget kX9_init 88 rfl) 0 rfl ?_
  refine wg_iconst (v := 4) C (dget kX9_init 89 rfl) (by decide) ?_
  refine wg_icmp_ge (tgt := 192) C (dget kX9_init 90 rfl) (by decide) (fun h => absurd h (by decide)) (fun _ => ?_)
  refine wg_aload_n C (dget kX9_init 91 rfl) 1 rfl ?_
  refine wg_get (v := .ref q1) C fl_X9_7 0 rfl rfl (dget kX9_init 92 rfl) ?_
  refine wg_iload_n C (dget kX9_init 93 rfl) 0 rfl ?_
  refine wg_iconst (v := (-1)) C (dget kX9_init 94 rfl) (by decide) ?_
  refine wg_iast C 0 rfl (by unfold vp_in; decide) (dget kX9_init 95 rfl) ?_
  refine wg_iinc (v := 3) (lv' := [(1, .int 3), (0, .ref h0)]) C (dget kX9_init 96 rfl) 0 rfl (by decide) (by decide) rfl ?_
  refine wg_goto (tgt := 174) C (dget kX9_init 97 rfl) (by decide) ?_
  refine wg_iload_n C (dget kX9_init 88 rfl) 0 rfl ?_
  refine wg_iconst (v := 4) C (dget kX9_init 89 rfl) (by decide) ?_
  refine wg_icmp_ge (tgt := 192) C (dget kX9_init 90 rfl) (by decide) (fun h => absurd h (by decide)) (fun _ => ?_)
  refine wg_aload_n C (dget kX9_init 91 rfl) 1 rfl ?_
  refine wg_get (v := .ref q1) C fl_X9_7 0 rfl rfl (dget kX9_init 92 rfl) ?_
  refine wg_iload_n C (dget kX9_init 93 rfl) 0 rfl ?_
  refine wg_iconst (v := (-1)) C (dget kX9_init 94 rfl) (by decide) ?_
  refine wg_iast C 0 rfl (by unfold vp_in; decide) (dget kX9_init 95 rfl) ?_
  refine wg_iinc (v := 4) (lv' := [(1, .int 4), (0, .ref h0)]) C (dget kX9_init 96 rfl) 0 rfl (by decide) (by decide) rfl ?_
  refine wg_goto (tgt := 174) C (dget kX9_init 97 rfl) (by decide) ?_
  refine wg_iload_n C (dget kX9_init 88 rfl) 0 rfl ?_
  refine wg_iconst (v := 4) C (dget kX9_init 89 rfl) (by decide) ?_
  refine wg_icmp_ge (tgt := 192) C (dget kX9_init 90 rfl) (by decide) (fun _ => ?_) (fun h => absurd (by decide) h)
  refine wg_aload_n C (dget kX9_init 98 rfl) 1 rfl ?_
  refine wg_get (v := .ref q10) C fl_X9_37 0 rfl rfl (dget kX9_init 99 rfl) ?_
  refine wg_iconst (v := 0) C (dget kX9_init 100 rfl) (by decide) ?_
  refine wg_iconst (v := 2) C (dget kX9_init 101 rfl) (by decide) ?_
  refine wg_iast C 9 rfl (by unfold vp_in; decide) (dget kX9_init 102 rfl) ?_
  refine wg_aload_n C (dget kX9_init 103 rfl) 1 rfl ?_
  refine wg_get (v := .ref q10) C fl_X9_37 0 rfl rfl (dget kX9_init 104 rfl) ?_
  refine wg_iconst (v := 1) C (dget kX9_init 105 rfl) (by decide) ?_
  refine wg_iconst (v := 1) C (dget kX9_init 106 rfl) (by decide) ?_
  refine wg_iast C 9 rfl (by unfold vp_in; decide) (dget kX9_init 107 rfl) ?_
  refine wx_rowi 0 (s0I 72) rfl ?_ ?_
  · intro j hj
    match j, hj with
    | 0, _ => first | rfl | decide
    | 1, _ => first | rfl | decide
    | 2, _ => first | rfl | decide
    | 3, _ => first | rfl | decide
    | j + 4, hj => exact absurd hj (by omega)
  refine wx_rowi 9 (s0I 81) rfl ?_ ?_
  · intro j hj
    match j, hj with
    | 0, _ => first | rfl | decide
    | 1, _ => first | rfl | decide
    | j + 2, hj => exact absurd hj (by omega)
  exact wg_vret C hr hlk (dget kX9_init 108 rfl) (Nat.le_of_ble_eq_true rfl) (Nat.le_of_ble_eq_true rfl) ⟨gl [h0, q1, q2, q3, q4, q5, q6, q7, q8, q9, q10, q11, q12, q13, q14, q15, q16, q17, q18, q19, q20, q21] 71, rfl, rfl⟩
set_option maxHeartbeats 4000000 in
set_option maxRecDepth 100000 in
theorem ix9_19 {q1 q2 q3 q4 q5 q6 q7 q8 q9 q10 q11 q12 q13 q14 q15 q16 q17 q18 q19 q20 : Nat} (C : CG D p s m c mX9_init.2.1 mX9_init.2.2.1 mX9_init.1.cls (va_A [(h0, .inr (9, fsX9))] s.heap.size)) (hr : meth.sig.returnType = mX9_init.2.2.2.1) (hlk : meth.locks = false) (hin : meth.name = mX9_init.1.name) : WG p l e (rmN mX9_init 21 1672) s m args below meth c D (va_A [(h0, .inr (9, fsX9))] s.heap.size) mX9_init.2.2.1 (MQ below (QN D [(h0, .inr (9, fsX9))] s.heap.size (nX9 D h0)) args s 21 1672 (va_A [(h0, .inr (9, fsX9))] s.heap.size)) 164 [(0, .ref h0)] [] [(h0, .inr (9, [.ref q1, .ref q2, .ref q3, .ref q4, .int 0, .ref q5, .ref q6, .ref q7, .int 0, .ref q8, .int 0, .ref q9, .ref q10, .int 0, .ref q11, .int 0, .ref q12, .ref q13, .ref q14, .ref q15, .ref q16, .ref q17, .ref q18, .ref q19, .int 0, .ref q20, .null, .int 0])), (q1, .inl (D.2 0, 4, .inl (fun _ => 0))), (q2, .inl (D.2 0, 4, .inl (fun _ => 0))), (q3, .inl (D.2 0, 240, .inl (fun _ => 0))), (q4, .inl (D.2 0, 60, .inl (fun _ => 0))), (q5, .inl (D.2 0, 180, .inl (fun _ => 0))), (q6, .inl (D.2 0, 3, .inl (fun _ => 0))), (q7, .inl (D.2 0, 3, .inl (fun _ => 0))), (q8, .inl (D.2 0, 48, .inl (fun _ => 0))), (q9, .inl (D.2 0, 36, .inl (fun _ => 0))), (q10, .inl (D.2 0, 2, .inl (fun _ => 0))), (q11, .inl (D.2 0, 24, .inl (fun _ => 0))), (q12, .inl (D.2 0, 12, .inl (fun _ => 0))), (q13, .inl (D.2 0, 12, .inl (fun _ => 0))), (q14, .inl (D.2 0, 12, .inl (fun _ => 0))), (q15, .inl (D.2 0, 12, .inl (fun _ => 0))), (q16, .inl (D.2 0, 12, .inl (fun _ => 0))), (q17, .inl (D.2 0, 288, .inl (fun _ => 0))), (q18, .inl (D.2 0, 288, .inl (fun _ => 0))), (q19, .inl (D.2 0, 288, .inl (fun _ => 0))), (q20, .inl (D.2 0, 24, .inl (fun _ => 0)))] 20 1552 := by
  refine wg_aload_n C (dget kX9_init 82 rfl) 0 rfl ?_
  refine wg_bipush (v := 120) C (dget kX9_init 83 rfl) (by decide) ?_
  refine wx_newI (N := 120) C (by decide) (by decide) (by decide) (Nat.le_of_ble_eq_true rfl) (Nat.le_of_ble_eq_true rfl) (dget kX9_init 84 rfl) (fun q21 => ?_)
  refine wg_putF C hin fl_X9_70 rfl (by first | rfl | decide) rfl (Nat.le_of_ble_eq_true rfl) (dget kX9_init 85 rfl) ?_
  exact ix9_20 C hr hlk hin
set_option maxHeartbeats 4000000 in
set_option maxRecDepth 100000 in
theorem ix9_18 {q1 q2 q3 q4 q5 q6 q7 q8 q9 q10 q11 q12 q13 q14 q15 q16 q17 q18 q19 : Nat} (C : CG D p s m c mX9_init.2.1 mX9_init.2.2.1 mX9_init.1.cls (va_A [(h0, .inr (9, fsX9))] s.heap.size)) (hr : meth.sig.returnType = mX9_init.2.2.2.1) (hlk : meth.locks = false) (hin : meth.name = mX9_init.1.name) : WG p l e (rmN mX9_init 21 1672) s m args below meth c D (va_A [(h0, .inr (9, fsX9))] s.heap.size) mX9_init.2.2.1 (MQ below (QN D [(h0, .inr (9, fsX9))] s.heap.size (nX9 D h0)) args s 21 1672 (va_A [(h0, .inr (9, fsX9))] s.heap.size)) 156 [(0, .ref h0)] [] [(h0, .inr (9, [.ref q1, .ref q2, .ref q3, .ref q4, .int 0, .ref q5, .ref q6, .ref q7, .int 0, .ref q8, .int 0, .ref q9, .ref q10, .int 0, .ref q11, .int 0, .ref q12, .ref q13, .ref q14, .ref q15, .ref q16, .ref q17, .ref q18, .ref q19, .int 0, .null, .null, .int 0])), (q1, .inl (D.2 0, 4, .inl (fun _ => 0))), (q2, .inl (D.2 0, 4, .inl (fun _ => 0))), (q3, .inl (D.2 0, 240, .inl (fun _ => 0))), (q4, .inl (D.2 0, 60, .inl (fun _ => 0))), (q5, .inl (D.2 0, 180, .inl (fun _ => 0))), (q6, .inl (D.2 0, 3, .inl (fun _ => 0))), (q7, .inl (D.2 0, 3, .inl (fun _ => 0))), (q8, .inl (D.2 0, 48, .inl (fun _ => 0))), (q9, .inl (D.2 0, 36, .inl (fun _ => 0))), (q10, .inl (D.2 0, 2, .inl (fun _ => 0))), (q11, .inl (D.2 0, 24, .inl (fun _ => 0))), (q12, .inl (D.2 0, 12, .inl (fun _ => 0))), (q13, .inl (D.2 0, 12, .inl (fun _ => 0))), (q14, .inl (D.2 0, 12, .inl (fun _ => 0))), (q15, .inl (D.2 0, 12, .inl (fun _ => 0))), (q16, .inl (D.2 0, 12, .inl (fun _ => 0))), (q17, .inl (D.2 0, 288, .inl (fun _ => 0))), (q18, .inl (D.2 0, 288, .inl (fun _ => 0))), (q19, .inl (D.2 0, 288, .inl (fun _ => 0)))] 19 1528 := by
  refine wg_aload_n C (dget kX9_init 78 rfl) 0 rfl ?_
  refine wg_bipush (v := 24) C (dget kX9_init 79 rfl) (by decide) ?_
  refine wx_newI (N := 24) C (by decide) (by decide) (by decide) (Nat.le_of_ble_eq_true rfl) (Nat.le_of_ble_eq_true rfl) (dget kX9_init 80 rfl) (fun q20 => ?_)
  refine wg_putF C hin fl_X9_67 rfl (by first | rfl | decide) rfl (Nat.le_of_ble_eq_true rfl) (dget kX9_init 81 rfl) ?_
  exact ix9_19 C hr hlk hin
set_option maxHeartbeats 4000000 in
set_option maxRecDepth 100000 in
theorem ix9_17 {q1 q2 q3 q4 q5 q6 q7 q8 q9 q10 q11 q12 q13 q14 q15 q16 q17 q18 : Nat} (C : CG D p s m c mX9_init.2.1 mX9_init.2.2.1 mX9_init.1.cls (va_A [(h0, .inr (9, fsX9))] s.heap.size)) (hr : meth.sig.returnType = mX9_init.2.2.2.1) (hlk : meth.locks = false) (hin : meth.name = mX9_init.1.name) : WG p l e (rmN mX9_init 21 1672) s m args below meth c D (va_A [(h0, .inr (9, fsX9))] s.heap.size) mX9_init.2.2.1 (MQ below (QN D [(h0, .inr (9, fsX9))] s.heap.size (nX9 D h0)) args s 21 1672 (va_A [(h0, .inr (9, fsX9))] s.heap.size)) 147 [(0, .ref h0)] [] [(h0, .inr (9, [.ref q1, .ref q2, .ref q3, .ref q4, .int 0, .ref q5, .ref q6, .ref q7, .int 0, .ref q8, .int 0, .ref q9, .ref q10, .int 0, .ref q11, .int 0, .ref q12, .ref q13, .ref q14, .ref q15, .ref q16, .ref q17, .ref q18, .null, .int 0, .null, .null, .int 0])), (q1, .inl (D.2 0, 4, .inl (fun _ => 0))), (q2, .inl (D.2 0, 4, .inl (fun _ => 0))), (q3, .inl (D.2 0, 240, .inl (fun _ => 0))), (q4, .inl (D.2 0, 60, .inl (fun _ => 0))), (q5, .inl (D.2 0, 180, .inl (fun _ => 0))), (q6, .inl (D.2 0, 3, .inl (fun _ => 0))), (q7, .inl (D.2 0, 3, .inl (fun _ => 0))), (q8, .inl (D.2 0, 48, .inl (fun _ => 0))), (q9, .inl (D.2 0, 36, .inl (fun _ => 0))), (q10, .inl (D.2 0, 2, .inl (fun _ => 0))), (q11, .inl (D.2 0, 24, .inl (fun _ => 0))), (q12, .inl (D.2 0, 12, .inl (fun _ => 0))), (q13, .inl (D.2 0, 12, .inl (fun _ => 0))), (q14, .inl (D.2 0, 12, .inl (fun _ => 0))), (q15, .inl (D.2 0, 12, .inl (fun _ => 0))), (q16, .inl (D.2 0, 12, .inl (fun _ => 0))), (q17, .inl (D.2 0, 288, .inl (fun _ => 0))), (q18, .inl (D.2 0, 288, .inl (fun _ => 0)))] 18 1240 := by
  refine wg_aload_n C (dget kX9_init 74 rfl) 0 rfl ?_
  refine wg_sipush (v := 288) C (dget kX9_init 75 rfl) (by decide) ?_
  refine wx_newI (N := 288) C (by decide) (by decide) (by decide) (Nat.le_of_ble_eq_true rfl) (Nat.le_of_ble_eq_true rfl) (dget kX9_init 76 rfl) (fun q19 => ?_)
  refine wg_putF C hin fl_X9_64 rfl (by first | rfl | decide) rfl (Nat.le_of_ble_eq_true rfl) (dget kX9_init 77 rfl) ?_
  exact ix9_18 C hr hlk hin
set_option maxHeartbeats 4000000 in
set_option maxRecDepth 100000 in
theorem ix9_16 {q1 q2 q3 q4 q5 q6 q7 q8 q9 q10 q11 q12 q13 q14 q15 q16 q17 : Nat} (C : CG D p s m c mX9_init.2.1 mX9_init.2.2.1 mX9_init.1.cls (va_A [(h0, .inr (9, fsX9))] s.heap.size)) (hr : meth.sig.returnType = mX9_init.2.2.2.1) (hlk : meth.locks = false) (hin : meth.name = mX9_init.1.name) : WG p l e (rmN mX9_init 21 1672) s m args below meth c D (va_A [(h0, .inr (9, fsX9))] s.heap.size) mX9_init.2.2.1 (MQ below (QN D [(h0, .inr (9, fsX9))] s.heap.size (nX9 D h0)) args s 21 1672 (va_A [(h0, .inr (9, fsX9))] s.heap.size)) 138 [(0, .ref h0)] [] [(h0, .inr (9, [.ref q1, .ref q2, .ref q3, .ref q4, .int 0, .ref q5, .ref q6, .ref q7, .int 0, .ref q8, .int 0, .ref q9, .ref q10, .int 0, .ref q11, .int 0, .ref q12, .ref q13, .ref q14, .ref q15, .ref q16, .ref q17, .null, .null, .int 0, .null, .null, .int 0])), (q1, .inl (D.2 0, 4, .inl (fun _ => 0))), (q2, .inl (D.2 0, 4, .inl (fun _ => 0))), (q3, .inl (D.2 0, 240, .inl (fun _ => 0))), (q4, .inl (D.2 0, 60, .inl (fun _ => 0))), (q5, .inl (D.2 0, 180, .inl (fun _ => 0))), (q6, .inl (D.2 0, 3, .inl (fun _ => 0))), (q7, .inl (D.2 0, 3, .inl (fun _ => 0))), (q8, .inl (D.2 0, 48, .inl (fun _ => 0))), (q9, .inl (D.2 0, 36, .inl (fun _ => 0))), (q10, .inl (D.2 0, 2, .inl (fun _ => 0))), (q11, .inl (D.2 0, 24, .inl (fun _ => 0))), (q12, .inl (D.2 0, 12, .inl (fun _ => 0))), (q13, .inl (D.2 0, 12, .inl (fun _ => 0))), (q14, .inl (D.2 0, 12, .inl (fun _ => 0))), (q15, .inl (D.2 0, 12, .inl (fun _ => 0))), (q16, .inl (D.2 0, 12, .inl (fun _ => 0))), (q17, .inl (D.2 0, 288, .inl (fun _ => 0)))] 17 952 := by
  refine wg_aload_n C (dget kX9_init 70 rfl) 0 rfl ?_
  refine wg_sipush (v := 288) C (dget kX9_init 71 rfl) (by decide) ?_
  refine wx_newI (N := 288) C (by decide) (by decide) (by decide) (Nat.le_of_ble_eq_true rfl) (Nat.le_of_ble_eq_true rfl) (dget kX9_init 72 rfl) (fun q18 => ?_)
  refine wg_putF C hin fl_X9_61 rfl (by first | rfl | decide) rfl (Nat.le_of_ble_eq_true rfl) (dget kX9_init 73 rfl) ?_
  exact ix9_17 C hr hlk hin
set_option maxHeartbeats 4000000 in
set_option maxRecDepth 100000 in
theorem ix9_15 {q1 q2 q3 q4 q5 q6 q7 q8 q9 q10 q11 q12 q13 q14 q15 q16 : Nat} (C : CG D p s m c mX9_init.2.1 mX9_init.2.2.1 mX9_init.1.cls (va_A [(h0, .inr (9, fsX9))] s.heap.size)) (hr : meth.sig.returnType = mX9_init.2.2.2.1) (hlk : meth.locks = false) (hin : meth.name = mX9_init.1.name) : WG p l e (rmN mX9_init 21 1672) s m args below meth c D (va_A [(h0, .inr (9, fsX9))] s.heap.size) mX9_init.2.2.1 (MQ below (QN D [(h0, .inr (9, fsX9))] s.heap.size (nX9 D h0)) args s 21 1672 (va_A [(h0, .inr (9, fsX9))] s.heap.size)) 129 [(0, .ref h0)] [] [(h0, .inr (9, [.ref q1, .ref q2, .ref q3, .ref q4, .int 0, .ref q5, .ref q6, .ref q7, .int 0, .ref q8, .int 0, .ref q9, .ref q10, .int 0, .ref q11, .int 0, .ref q12, .ref q13, .ref q14, .ref q15, .ref q16, .null, .null, .null, .int 0, .null, .null, .int 0])), (q1, .inl (D.2 0, 4, .inl (fun _ => 0))), (q2, .inl (D.2 0, 4, .inl (fun _ => 0))), (q3, .inl (D.2 0, 240, .inl (fun _ => 0))), (q4, .inl (D.2 0, 60, .inl (fun _ => 0))), (q5, .inl (D.2 0, 180, .inl (fun _ => 0))), (q6, .inl (D.2 0, 3, .inl (fun _ => 0))), (q7, .inl (D.2 0, 3, .inl (fun _ => 0))), (q8, .inl (D.2 0, 48, .inl (fun _ => 0))), (q9, .inl (D.2 0, 36, .inl (fun _ => 0))), (q10, .inl (D.2 0, 2, .inl (fun _ => 0))), (q11, .inl (D.2 0, 24, .inl (fun _ => 0))), (q12, .inl (D.2 0, 12, .inl (fun _ => 0))), (q13, .inl (D.2 0, 12, .inl (fun _ => 0))), (q14, .inl (D.2 0, 12, .inl (fun _ => 0))), (q15, .inl (D.2 0, 12, .inl (fun _ => 0))), (q16, .inl (D.2 0, 12, .inl (fun _ => 0)))] 16 664 := by
  refine wg_aload_n C (dget kX9_init 66 rfl) 0 rfl ?_
  refine wg_sipush (v := 288) C (dget kX9_init 67 rfl) (by decide) ?_
  refine wx_newI (N := 288) C (by decide) (by decide) (by decide) (Nat.le_of_ble_eq_true rfl) (Nat.le_of_ble_eq_true rfl) (dget kX9_init 68 rfl) (fun q17 => ?_)
  refine wg_putF C hin fl_X9_58 rfl (by first | rfl | decide) rfl (Nat.le_of_ble_eq_true rfl) (dget kX9_init 69 rfl) ?_
  exact ix9_16 C hr hlk hin
set_option maxHeartbeats 4000000 in
set_option maxRecDepth 100000 in
theorem ix9_14 {q1 q2 q3 q4 q5 q6 q7 q8 q9 q10 q11 q12 q13 q14 q15 : Nat} (C : CG D p s m c mX9_init.2.1 mX9_init.2.2.1 mX9_init.1.cls (va_A [(h0, .inr (9, fsX9))] s.heap.size)) (hr : meth.sig.returnType = mX9_init.2.2.2.1) (hlk : meth.locks = false) (hin : meth.name = mX9_init.1.name) : WG p l e (rmN mX9_init 21 1672) s m args below meth c D (va_A [(h0, .inr (9, fsX9))] s.heap.size) mX9_init.2.2.1 (MQ below (QN D [(h0, .inr (9, fsX9))] s.heap.size (nX9 D h0)) args s 21 1672 (va_A [(h0, .inr (9, fsX9))] s.heap.size)) 121 [(0, .ref h0)] [] [(h0, .inr (9, [.ref q1, .ref q2, .ref q3, .ref q4, .int 0, .ref q5, .ref q6, .ref q7, .int 0, .ref q8, .int 0, .ref q9, .ref q10, .int 0, .ref q11, .int 0, .ref q12, .ref q13, .ref q14, .ref q15, .null, .null, .null, .null, .int 0, .null, .null, .int 0])), (q1, .inl (D.2 0, 4, .inl (fun _ => 0))), (q2, .inl (D.2 0, 4, .inl (fun _ => 0))), (q3, .inl (D.2 0, 240, .inl (fun _ => 0))), (q4, .inl (D.2 0, 60, .inl (fun _ => 0))), (q5, .inl (D.2 0, 180, .inl (fun _ => 0))), (q6, .inl (D.2 0, 3, .inl (fun _ => 0))), (q7, .inl (D.2 0, 3, .inl (fun _ => 0))), (q8, .inl (D.2 0, 48, .inl (fun _ => 0))), (q9, .inl (D.2 0, 36, .inl (fun _ => 0))), (q10, .inl (D.2 0, 2, .inl (fun _ => 0))), (q11, .inl (D.2 0, 24, .inl (fun _ => 0))), (q12, .inl (D.2 0, 12, .inl (fun _ => 0))), (q13, .inl (D.2 0, 12, .inl (fun _ => 0))), (q14, .inl (D.2 0, 12, .inl (fun _ => 0))), (q15, .inl (D.2 0, 12, .inl (fun _ => 0)))] 15 652 := by
  refine wg_aload_n C (dget kX9_init 62 rfl) 0 rfl ?_
  refine wg_bipush (v := 12) C (dget kX9_init 63 rfl) (by decide) ?_
  refine wx_newI (N := 12) C (by decide) (by decide) (by decide) (Nat.le_of_ble_eq_true rfl) (Nat.le_of_ble_eq_true rfl) (dget kX9_init 64 rfl) (fun q16 => ?_)
  refine wg_putF C hin fl_X9_55 rfl (by first | rfl | decide) rfl (Nat.le_of_ble_eq_true rfl) (dget kX9_init 65 rfl) ?_
  exact ix9_15 C hr hlk hin
set_option maxHeartbeats 4000000 in
set_option maxRecDepth 100000 in
theorem ix9_13 {q1 q2 q3 q4 q5 q6 q7 q8 q9 q10 q11 q12 q13 q14 : Nat} (C : CG D p s m c mX9_init.2.1 mX9_init.2.2.1 mX9_init.1.cls (va_A [(h0, .inr (9, fsX9))] s.heap.size)) (hr : meth.sig.returnType = mX9_init.2.2.2.1) (hlk : meth.locks = false) (hin : meth.name = mX9_init.1.name) : WG p l e (rmN mX9_init 21 1672) s m args below meth c D (va_A [(h0, .inr (9, fsX9))] s.heap.size) mX9_init.2.2.1 (MQ below (QN D [(h0, .inr (9, fsX9))] s.heap.size (nX9 D h0)) args s 21 1672 (va_A [(h0, .inr (9, fsX9))] s.heap.size)) 113 [(0, .ref h0)] [] [(h0, .inr (9, [.ref q1, .ref q2, .ref q3, .ref q4, .int 0, .ref q5, .ref q6, .ref q7, .int 0, .ref q8, .int 0, .ref q9, .ref q10, .int 0, .ref q11, .int 0, .ref q12, .ref q13, .ref q14, .null, .null, .null, .null, .null, .int 0, .null, .null, .int 0])), (q1, .inl (D.2 0, 4, .inl (fun _ => 0))), (q2, .inl (D.2 0, 4, .inl (fun _ => 0))), (q3, .inl (D.2 0, 240, .inl (fun _ => 0))), (q4, .inl (D.2 0, 60, .inl (fun _ => 0))), (q5, .inl (D.2 0, 180, .inl (fun _ => 0))), (q6, .inl (D.2 0, 3, .inl (fun _ => 0))), (q7, .inl (D.2 0, 3, .inl (fun _ => 0))), (q8, .inl (D.2 0, 48, .inl (fun _ => 0))), (q9, .inl (D.2 0, 36, .inl (fun _ => 0))), (q10, .inl (D.2 0, 2, .inl (fun _ => 0))), (q11, .inl (D.2 0, 24, .inl (fun _ => 0))), (q12, .inl (D.2 0, 12, .inl (fun _ => 0))), (q13, .inl (D.2 0, 12, .inl (fun _ => 0))), (q14, .inl (D.2 0, 12, .inl (fun _ => 0)))] 14 640 := by
  refine wg_aload_n C (dget kX9_init 58 rfl) 0 rfl ?_
  refine wg_bipush (v := 12) C (dget kX9_init 59 rfl) (by decide) ?_
  refine wx_newI (N := 12) C (by decide) (by decide) (by decide) (Nat.le_of_ble_eq_true rfl) (Nat.le_of_ble_eq_true rfl) (dget kX9_init 60 rfl) (fun q15 => ?_)
  refine wg_putF C hin fl_X9_52 rfl (by first | rfl | decide) rfl (Nat.le_of_ble_eq_true rfl) (dget kX9_init 61 rfl) ?_
  exact ix9_14 C hr hlk hin
set_option maxHeartbeats 4000000 in
set_option maxRecDepth 100000 in
theorem ix9_12 {q1 q2 q3 q4 q5 q6 q7 q8 q9 q10 q11 q12 q13 : Nat} (C : CG D p s m c mX9_init.2.1 mX9_init.2.2.1 mX9_init.1.cls (va_A [(h0, .inr (9, fsX9))] s.heap.size)) (hr : meth.sig.returnType = mX9_init.2.2.2.1) (hlk : meth.locks = false) (hin : meth.name = mX9_init.1.name) : WG p l e (rmN mX9_init 21 1672) s m args below meth c D (va_A [(h0, .inr (9, fsX9))] s.heap.size) mX9_init.2.2.1 (MQ below (QN D [(h0, .inr (9, fsX9))] s.heap.size (nX9 D h0)) args s 21 1672 (va_A [(h0, .inr (9, fsX9))] s.heap.size)) 105 [(0, .ref h0)] [] [(h0, .inr (9, [.ref q1, .ref q2, .ref q3, .ref q4, .int 0, .ref q5, .ref q6, .ref q7, .int 0, .ref q8, .int 0, .ref q9, .ref q10, .int 0, .ref q11, .int 0, .ref q12, .ref q13, .null, .null, .null, .null, .null, .null, .int 0, .null, .null, .int 0])), (q1, .inl (D.2 0, 4, .inl (fun _ => 0))), (q2, .inl (D.2 0, 4, .inl (fun _ => 0))), (q3, .inl (D.2 0, 240, .inl (fun _ => 0))), (q4, .inl (D.2 0, 60, .inl (fun _ => 0))), (q5, .inl (D.2 0, 180, .inl (fun _ => 0))), (q6, .inl (D.2 0, 3, .inl (fun _ => 0))), (q7, .inl (D.2 0, 3, .inl (fun _ => 0))), (q8, .inl (D.2 0, 48, .inl (fun _ => 0))), (q9, .inl (D.2 0, 36, .inl (fun _ => 0))), (q10, .inl (D.2 0, 2, .inl (fun _ => 0))), (q11, .inl (D.2 0, 24, .inl (fun _ => 0))), (q12, .inl (D.2 0, 12, .inl (fun _ => 0))), (q13, .inl (D.2 0, 12, .inl (fun _ => 0)))] 13 628 := by
  refine wg_aload_n C (dget kX9_init 54 rfl) 0 rfl ?_
  refine wg_bipush (v := 12) C (dget kX9_init 55 rfl) (by decide) ?_
  refine wx_newI (N := 12) C (by decide) (by decide) (by decide) (Nat.le_of_ble_eq_true rfl) (Nat.le_of_ble_eq_true rfl) (dget kX9_init 56 rfl) (fun q14 => ?_)
  refine wg_putF C hin fl_X9_49 rfl (by first | rfl | decide) rfl (Nat.le_of_ble_eq_true rfl) (dget kX9_init 57 rfl) ?_
  exact ix9_13 C hr hlk hin
set_option maxHeartbeats 4000000 in
set_option maxRecDepth 100000 in
theorem ix9_11 {q1 q2 q3 q4 q5 q6 q7 q8 q9 q10 q11 q12 : Nat} (C : CG D p s m c mX9_init.2.1 mX9_init.2.2.1 mX9_init.1.cls (va_A [(h0, .inr (9, fsX9))] s.heap.size)) (hr : meth.sig.returnType = mX9_init.2.2.2.1) (hlk : meth.locks = false) (hin : meth.name = mX9_init.1.name) : WG p l e (rmN mX9_init 21 1672) s m args below meth c D (va_A [(h0, .inr (9, fsX9))] s.heap.size) mX9_init.2.2.1 (MQ below (QN D [(h0, .inr (9, fsX9))] s.heap.size (nX9 D h0)) args s 21 1672 (va_A [(h0, .inr (9, fsX9))] s.heap.size)) 97 [(0, .ref h0)] [] [(h0, .inr (9, [.ref q1, .ref q2, .ref q3, .ref q4, .int 0, .ref q5, .ref q6, .ref q7, .int 0, .ref q8, .int 0, .ref q9, .ref q10, .int 0, .ref q11, .int 0, .ref q12, .null, .null, .null, .null, .null, .null, .null, .int 0, .null, .null, .int 0])), (q1, .inl (D.2 0, 4, .inl (fun _ => 0))), (q2, .inl (D.2 0, 4, .inl (fun _ => 0))), (q3, .inl (D.2 0, 240, .inl (fun _ => 0))), (q4, .inl (D.2 0, 60, .inl (fun _ => 0))), (q5, .inl (D.2 0, 180, .inl (fun _ => 0))), (q6, .inl (D.2 0, 3, .inl (fun _ => 0))), (q7, .inl (D.2 0, 3, .inl (fun _ => 0))), (q8, .inl (D.2 0, 48, .inl (fun _ => 0))), (q9, .inl (D.2 0, 36, .inl (fun _ => 0))), (q10, .inl (D.2 0, 2, .inl (fun _ => 0))), (q11, .inl (D.2 0, 24, .inl (fun _ => 0))), (q12, .inl (D.2 0, 12, .inl (fun _ => 0)))] 12 616 := by
  refine wg_aload_n C (dget kX9_init 50 rfl) 0 rfl ?_
  refine wg_bipush (v := 12) C (dget kX9_init 51 rfl) (by decide) ?_
  refine wx_newI (N := 12) C (by decide) (by decide) (by decide) (Nat.le_of_ble_eq_true rfl) (Nat.le_of_ble_eq_true rfl) (dget kX9_init 52 rfl) (fun q13 => ?_)
  refine wg_putF C hin fl_X9_46 rfl (by first | rfl | decide) rfl (Nat.le_of_ble_eq_true rfl) (dget kX9_init 53 rfl) ?_
  exact ix9_12 C hr hlk hin
set_option maxHeartbeats 4000000 in
set_option maxRecDepth 100000 in
theorem ix9_10 {q1 q2 q3 q4 q5 q6 q7 q8 q9 q10 q11 : Nat} (C : CG D p s m c mX9_init.2.1 mX9_init.2.2.1 mX9_init.1.cls (va_A [(h0, .inr (9, fsX9))] s.heap.size)) (hr : meth.sig.returnType = mX9_init.2.2.2.1) (hlk : meth.locks = false) (hin : meth.name = mX9_init.1.name) : WG p l e (rmN mX9_init 21 1672) s m args below meth c D (va_A [(h0, .inr (9, fsX9))] s.heap.size) mX9_init.2.2.1 (MQ below (QN D [(h0, .inr (9, fsX9))] s.heap.size (nX9 D h0)) args s 21 1672 (va_A [(h0, .inr (9, fsX9))] s.heap.size)) 89 [(0, .ref h0)] [] [(h0, .inr (9, [.ref q1, .ref q2, .ref q3, .ref q4, .int 0, .ref q5, .ref q6, .ref q7, .int 0, .ref q8, .int 0, .ref q9, .ref q10, .int 0, .ref q11, .int 0, .null, .null, .null, .null, .null, .null, .null, .null, .int 0, .null, .null, .int 0])), (q1, .inl (D.2 0, 4, .inl (fun _ => 0))), (q2, .inl (D.2 0, 4, .inl (fun _ => 0))), (q3, .inl (D.2 0, 240, .inl (fun _ => 0))), (q4, .inl (D.2 0, 60, .inl (fun _ => 0))), (q5, .inl (D.2 0, 180, .inl (fun _ => 0))), (q6, .inl (D.2 0, 3, .inl (fun _ => 0))), (q7, .inl (D.2 0, 3, .inl (fun _ => 0))), (q8, .inl (D.2 0, 48, .inl (fun _ => 0))), (q9, .inl (D.2 0, 36, .inl (fun _ => 0))), (q10, .inl (D.2 0, 2, .inl (fun _ => 0))), (q11, .inl (D.2 0, 24, .inl (fun _ => 0)))] 11 604 := by
  refine wg_aload_n C (dget kX9_init 46 rfl) 0 rfl ?_
  refine wg_bipush (v := 12) C (dget kX9_init 47 rfl) (by decide) ?_
  refine wx_newI (N := 12) C (by decide) (by decide) (by decide) (Nat.le_of_ble_eq_true rfl) (Nat.le_of_ble_eq_true rfl) (dget kX9_init 48 rfl) (fun q12 => ?_)
  refine wg_putF C hin fl_X9_43 rfl (by first | rfl | decide) rfl (Nat.le_of_ble_eq_true rfl) (dget kX9_init 49 rfl) ?_
  exact ix9_11 C hr hlk hin
set_option maxHeartbeats 4000000 in
set_option maxRecDepth 100000 in
theorem ix9_9 {q1 q2 q3 q4 q5 q6 q7 q8 q9 q10 : Nat} (C : CG D p s m c mX9_init.2.1 mX9_init.2.2.1 mX9_init.1.cls (va_A [(h0, .inr (9, fsX9))] s.heap.size)) (hr : meth.sig.returnType = mX9_init.2.2.2.1) (hlk : meth.locks = false) (hin : meth.name = mX9_init.1.name) : WG p l e (rmN mX9_init 21 1672) s m args below meth c D (va_A [(h0, .inr (9, fsX9))] s.heap.size) mX9_init.2.2.1 (MQ below (QN D [(h0, .inr (9, fsX9))] s.heap.size (nX9 D h0)) args s 21 1672 (va_A [(h0, .inr (9, fsX9))] s.heap.size)) 81 [(0, .ref h0)] [] [(h0, .inr (9, [.ref q1, .ref q2, .ref q3, .ref q4, .int 0, .ref q5, .ref q6, .ref q7, .int 0, .ref q8, .int 0, .ref q9, .ref q10, .int 0, .null, .int 0, .null, .null, .null, .null, .null, .null, .null, .null, .int 0, .null, .null, .int 0])), (q1, .inl (D.2 0, 4, .inl (fun _ => 0))), (q2, .inl (D.2 0, 4, .inl (fun _ => 0))), (q3, .inl (D.2 0, 240, .inl (fun _ => 0))), (q4, .inl (D.2 0, 60, .inl (fun _ => 0))), (q5, .inl (D.2 0, 180, .inl (fun _ => 0))), (q6, .inl (D.2 0, 3, .inl (fun _ => 0))), (q7, .inl (D.2 0, 3, .inl (fun _ => 0))), (q8, .inl (D.2 0, 48, .inl (fun _ => 0))), (q9, .inl (D.2 0, 36, .inl (fun _ => 0))), (q10, .inl (D.2 0, 2, .inl (fun _ => 0)))] 10 580 := by
  refine wg_aload_n C (dget kX9_init 42 rfl) 0 rfl ?_
  refine wg_bipush (v := 24) C (dget kX9_init 43 rfl) (by decide) ?_
  refine wx_newI (N := 24) C (by decide) (by decide) (by decide) (Nat.le_of_ble_eq_true rfl) (Nat.le_of_ble_eq_true rfl) (dget kX9_init 44 rfl) (fun q11 => ?_)
  refine wg_putF C hin fl_X9_40 rfl (by first | rfl | decide) rfl (Nat.le_of_ble_eq_true rfl) (dget kX9_init 45 rfl) ?_
  exact ix9_10 C hr hlk hin
set_option maxHeartbeats 4000000 in
set_option maxRecDepth 100000 in
theorem ix9_8 {q1 q2 q3 q4 q5 q6 q7 q8 q9 : Nat} (C : CG D p s m c mX9_init.2.1 mX9_init.2.2.1 mX9_init.1.cls (va_A [(h0, .inr (9, fsX9))] s.heap.size)) (hr : meth.sig.returnType = mX9_init.2.2.2.1) (hlk : meth.locks = false) (hin : meth.name = mX9_init.1.name) : WG p l e (rmN mX9_init 21 1672) s m args below meth c D (va_A [(h0, .inr (9, fsX9))] s.heap.size) mX9_init.2.2.1 (MQ below (QN D [(h0, .inr (9, fsX9))] s.heap.size (nX9 D h0)) args s 21 1672 (va_A [(h0, .inr (9, fsX9))] s.heap.size)) 74 [(0, .ref h0)] [] [(h0, .inr (9, [.ref q1, .ref q2, .ref q3, .ref q4, .int 0, .ref q5, .ref q6, .ref q7, .int 0, .ref q8, .int 0, .ref q9, .null, .int 0, .null, .int 0, .null, .null, .null, .null, .null, .null, .null, .null, .int 0, .null, .null, .int 0])), (q1, .inl (D.2 0, 4, .inl (fun _ => 0))), (q2, .inl (D.2 0, 4, .inl (fun _ => 0))), (q3, .inl (D.2 0, 240, .inl (fun _ => 0))), (q4, .inl (D.2 0, 60, .inl (fun _ => 0))), (q5, .inl (D.2 0, 180, .inl (fun _ => 0))), (q6, .inl (D.2 0, 3, .inl (fun _ => 0))), (q7, .inl (D.2 0, 3, .inl (fun _ => 0))), (q8, .inl (D.2 0, 48, .inl (fun _ => 0))), (q9, .inl (D.2 0, 36, .inl (fun _ => 0)))] 9 578 := by
  refine wg_aload_n C (dget kX9_init 38 rfl) 0 rfl ?_
  refine wg_iconst (v := 2) C (dget kX9_init 39 rfl) (by decide) ?_
  refine wx_newI (N := 2) C (by decide) (by decide) (by decide) (Nat.le_of_ble_eq_true rfl) (Nat.le_of_ble_eq_true rfl) (dget kX9_init 40 rfl) (fun q10 => ?_)
  refine wg_putF C hin fl_X9_37 rfl (by first | rfl | decide) rfl (Nat.le_of_ble_eq_true rfl) (dget kX9_init 41 rfl) ?_
  exact ix9_9 C hr hlk hin
set_option maxHeartbeats 4000000 in
set_option maxRecDepth 100000 in
theorem ix9_7 {q1 q2 q3 q4 q5 q6 q7 q8 : Nat} (C : CG D p s m c mX9_init.2.1 mX9_init.2.2.1 mX9_init.1.cls (va_A [(h0, .inr (9, fsX9))] s.heap.size)) (hr : meth.sig.returnType = mX9_init.2.2.2.1) (hlk : meth.locks = false) (hin : meth.name = mX9_init.1.name) : WG p l e (rmN mX9_init 21 1672) s m args below meth c D (va_A [(h0, .inr (9, fsX9))] s.heap.size) mX9_init.2.2.1 (MQ below (QN D [(h0, .inr (9, fsX9))] s.heap.size (nX9 D h0)) args s 21 1672 (va_A [(h0, .inr (9, fsX9))] s.heap.size)) 66 [(0, .ref h0)] [] [(h0, .inr (9, [.ref q1, .ref q2, .ref q3, .ref q4, .int 0, .ref q5, .ref q6, .ref q7, .int 0, .ref q8, .int 0, .null, .null, .int 0, .null, .int 0, .null, .null, .null, .null, .null, .null, .null, .null, .int 0, .null, .null, .int 0])), (q1, .inl (D.2 0, 4, .inl (fun _ => 0))), (q2, .inl (D.2 0, 4, .inl (fun _ => 0))), (q3, .inl (D.2 0, 240, .inl (fun _ => 0))), (q4, .inl (D.2 0, 60, .inl (fun _ => 0))), (q5, .inl (D.2 0, 180, .inl (fun _ => 0))), (q6, .inl (D.2 0, 3, .inl (fun _ => 0))), (q7, .inl (D.2 0, 3, .inl (fun _ => 0))), (q8, .inl (D.2 0, 48, .inl (fun _ => 0)))] 8 542 := by
  refine wg_aload_n C (dget kX9_init 34 rfl) 0 rfl ?_
  refine wg_bipush (v := 36) C (dget kX9_init 35 rfl) (by decide) ?_
  refine wx_newI (N := 36) C (by decide) (by decide) (by decide) (Nat.le_of_ble_eq_true rfl) (Nat.le_of_ble_eq_true rfl) (dget kX9_init 36 rfl) (fun q9 => ?_)
  refine wg_putF C hin fl_X9_34 rfl (by first | rfl | decide) rfl (Nat.le_of_ble_eq_true rfl) (dget kX9_init 37 rfl) ?_
  exact ix9_8 C hr hlk hin
set_option maxHeartbeats 4000000 in
set_option maxRecDepth 100000 in
theorem ix9_6 {q1 q2 q3 q4 q5 q6 q7 : Nat} (C : CG D p s m c mX9_init.2.1 mX9_init.2.2.1 mX9_init.1.cls (va_A [(h0, .inr (9, fsX9))] s.heap.size)) (hr : meth.sig.returnType = mX9_init.2.2.2.1) (hlk : meth.locks = false) (hin : meth.name = mX9_init.1.name) : WG p l e (rmN mX9_init 21 1672) s m args below meth c D (va_A [(h0, .inr (9, fsX9))] s.heap.size) mX9_init.2.2.1 (MQ below (QN D [(h0, .inr (9, fsX9))] s.heap.size (nX9 D h0)) args s 21 1672 (va_A [(h0, .inr (9, fsX9))] s.heap.size)) 58 [(0, .ref h0)] [] [(h0, .inr (9, [.ref q1, .ref q2, .ref q3, .ref q4, .int 0, .ref q5, .ref q6, .ref q7, .int 0, .null, .int 0, .null, .null, .int 0, .null, .int 0, .null, .null, .null, .null, .null, .null, .null, .null, .int 0, .null, .null, .int 0])), (q1, .inl (D.2 0, 4, .inl (fun _ => 0))), (q2, .inl (D.2 0, 4, .inl (fun _ => 0))), (q3, .inl (D.2 0, 240, .inl (fun _ => 0))), (q4, .inl (D.2 0, 60, .inl (fun _ => 0))), (q5, .inl (D.2 0, 180, .inl (fun _ => 0))), (q6, .inl (D.2 0, 3, .inl (fun _ => 0))), (q7, .inl (D.2 0, 3, .inl (fun _ => 0)))] 7 494 := by
  refine wg_aload_n C (dget kX9_init 30 rfl) 0 rfl ?_
  refine wg_bipush (v := 48) C (dget kX9_init 31 rfl) (by decide) ?_
  refine wx_newI (N := 48) C (by decide) (by decide) (by decide) (Nat.le_of_ble_eq_true rfl) (Nat.le_of_ble_eq_true rfl) (dget kX9_init 32 rfl) (fun q8 => ?_)
  refine wg_putF C hin fl_X9_31 rfl (by first | rfl | decide) rfl (Nat.le_of_ble_eq_true rfl) (dget kX9_init 33 rfl) ?_
  exact ix9_7 C hr hlk hin
set_option maxHeartbeats 4000000 in
set_option maxRecDepth 100000 in
theorem ix9_5 {q1 q2 q3 q4 q5 q6 : Nat} (C : CG D p s m c mX9_init.2.1 mX9_init.2.2.1 mX9_init.1.cls (va_A [(h0, .inr (9, fsX9))] s.heap.size)) (hr : meth.sig.returnType = mX9_init.2.2.2.1) (hlk : meth.locks = false) (hin : meth.name = mX9_init.1.name) : WG p l e (rmN mX9_init 21 1672) s m args below meth c D (va_A [(h0, .inr (9, fsX9))] s.heap.size) mX9_init.2.2.1 (MQ below (QN D [(h0, .inr (9, fsX9))] s.heap.size (nX9 D h0)) args s 21 1672 (va_A [(h0, .inr (9, fsX9))] s.heap.size)) 51 [(0, .ref h0)] [] [(h0, .inr (9, [.ref q1, .ref q2, .ref q3, .ref q4, .int 0, .ref q5, .ref q6, .null, .int 0, .null, .int 0, .null, .null, .int 0, .null, .int 0, .null, .null, .null, .null, .null, .null, .null, .null, .int 0, .null, .null, .int 0])), (q1, .inl (D.2 0, 4, .inl (fun _ => 0))), (q2, .inl (D.2 0, 4, .inl (fun _ => 0))), (q3, .inl (D.2 0, 240, .inl (fun _ => 0))), (q4, .inl (D.2 0, 60, .inl (fun _ => 0))), (q5, .inl (D.2 0, 180, .inl (fun _ => 0))), (q6, .inl (D.2 0, 3, .inl (fun _ => 0)))] 6 491 := by
  refine wg_aload_n C (dget kX9_init 26 rfl) 0 rfl ?_
  refine wg_iconst (v := 3) C (dget kX9_init 27 rfl) (by decide) ?_
  refine wx_newI (N := 3) C (by decide) (by decide) (by decide) (Nat.le_of_ble_eq_true rfl) (Nat.le_of_ble_eq_true rfl) (dget kX9_init 28 rfl) (fun q7 => ?_)
  refine wg_putF C hin fl_X9_28 rfl (by first | rfl | decide) rfl (Nat.le_of_ble_eq_true rfl) (dget kX9_init 29 rfl) ?_
  exact ix9_6 C hr hlk hin
set_option maxHeartbeats 4000000 in
set_option maxRecDepth 100000 in
theorem ix9_4 {q1 q2 q3 q4 q5 : Nat} (C : CG D p s m c mX9_init.2.1 mX9_init.2.2.1 mX9_init.1.cls (va_A [(h0, .inr (9, fsX9))] s.heap.size)) (hr : meth.sig.returnType = mX9_init.2.2.2.1) (hlk : meth.locks = false) (hin : meth.name = mX9_init.1.name) : WG p l e (rmN mX9_init 21 1672) s m args below meth c D (va_A [(h0, .inr (9, fsX9))] s.heap.size) mX9_init.2.2.1 (MQ below (QN D [(h0, .inr (9, fsX9))] s.heap.size (nX9 D h0)) args s 21 1672 (va_A [(h0, .inr (9, fsX9))] s.heap.size)) 44 [(0, .ref h0)] [] [(h0, .inr (9, [.ref q1, .ref q2, .ref q3, .ref q4, .int 0, .ref q5, .null, .null, .int 0, .null, .int 0, .null, .null, .int 0, .null, .int 0, .null, .null, .null, .null, .null, .null, .null, .null, .int 0, .null, .null, .int 0])), (q1, .inl (D.2 0, 4, .inl (fun _ => 0))), (q2, .inl (D.2 0, 4, .inl (fun _ => 0))), (q3, .inl (D.2 0, 240, .inl (fun _ => 0))), (q4, .inl (D.2 0, 60, .inl (fun _ => 0))), (q5, .inl (D.2 0, 180, .inl (fun _ => 0)))] 5 488 := by
  refine wg_aload_n C (dget kX9_init 22 rfl) 0 rfl ?_
  refine wg_iconst (v := 3) C (dget kX9_init 23 rfl) (by decide) ?_
  refine wx_newI (N := 3) C (by decide) (by decide) (by decide) (Nat.le_of_ble_eq_true rfl) (Nat.le_of_ble_eq_true rfl) (dget kX9_init 24 rfl) (fun q6 => ?_)
  refine wg_putF C hin fl_X9_25 rfl (by first | rfl | decide) rfl (Nat.le_of_ble_eq_true rfl) (dget kX9_init 25 rfl) ?_
  exact ix9_5 C hr hlk hin
set_option maxHeartbeats 4000000 in
set_option maxRecDepth 100000 in
theorem ix9_3 {q1 q2 q3 q4 : Nat} (C : CG D p s m c mX9_init.2.1 mX9_init.2.2.1 mX9_init.1.cls (va_A [(h0, .inr (9, fsX9))] s.heap.size)) (hr : meth.sig.returnType = mX9_init.2.2.2.1) (hlk : meth.locks = false) (hin : meth.name = mX9_init.1.name) : WG p l e (rmN mX9_init 21 1672) s m args below meth c D (va_A [(h0, .inr (9, fsX9))] s.heap.size) mX9_init.2.2.1 (MQ below (QN D [(h0, .inr (9, fsX9))] s.heap.size (nX9 D h0)) args s 21 1672 (va_A [(h0, .inr (9, fsX9))] s.heap.size)) 35 [(0, .ref h0)] [] [(h0, .inr (9, [.ref q1, .ref q2, .ref q3, .ref q4, .int 0, .null, .null, .null, .int 0, .null, .int 0, .null, .null, .int 0, .null, .int 0, .null, .null, .null, .null, .null, .null, .null, .null, .int 0, .null, .null, .int 0])), (q1, .inl (D.2 0, 4, .inl (fun _ => 0))), (q2, .inl (D.2 0, 4, .inl (fun _ => 0))), (q3, .inl (D.2 0, 240, .inl (fun _ => 0))), (q4, .inl (D.2 0, 60, .inl (fun _ => 0)))] 4 308 := by
  refine wg_aload_n C (dget kX9_init 18 rfl) 0 rfl ?_
  refine wg_sipush (v := 180) C (dget kX9_init 19 rfl) (by decide) ?_
  refine wx_newI (N := 180) C (by decide) (by decide) (by decide) (Nat.le_of_ble_eq_true rfl) (Nat.le_of_ble_eq_true rfl) (dget kX9_init 20 rfl) (fun q5 => ?_)
  refine wg_putF C hin fl_X9_22 rfl (by first | rfl | decide) rfl (Nat.le_of_ble_eq_true rfl) (dget kX9_init 21 rfl) ?_
  exact ix9_4 C hr hlk hin
set_option maxHeartbeats 4000000 in
set_option maxRecDepth 100000 in
theorem ix9_2 {q1 q2 q3 : Nat} (C : CG D p s m c mX9_init.2.1 mX9_init.2.2.1 mX9_init.1.cls (va_A [(h0, .inr (9, fsX9))] s.heap.size)) (hr : meth.sig.returnType = mX9_init.2.2.2.1) (hlk : meth.locks = false) (hin : meth.name = mX9_init.1.name) : WG p l e (rmN mX9_init 21 1672) s m args below meth c D (va_A [(h0, .inr (9, fsX9))] s.heap.size) mX9_init.2.2.1 (MQ below (QN D [(h0, .inr (9, fsX9))] s.heap.size (nX9 D h0)) args s 21 1672 (va_A [(h0, .inr (9, fsX9))] s.heap.size)) 27 [(0, .ref h0)] [] [(h0, .inr (9, [.ref q1, .ref q2, .ref q3, .null, .int 0, .null, .null, .null, .int 0, .null, .int 0, .null, .null, .int 0, .null, .int 0, .null, .null, .null, .null, .null, .null, .null, .null, .int 0, .null, .null, .int 0])), (q1, .inl (D.2 0, 4, .inl (fun _ => 0))), (q2, .inl (D.2 0, 4, .inl (fun _ => 0))), (q3, .inl (D.2 0, 240, .inl (fun _ => 0)))] 3 248 := by
  refine wg_aload_n C (dget kX9_init 14 rfl) 0 rfl ?_
  refine wg_bipush (v := 60) C (dget kX9_init 15 rfl) (by decide) ?_
  refine wx_newI (N := 60) C (by decide) (by decide) (by decide) (Nat.le_of_ble_eq_true rfl) (Nat.le_of_ble_eq_true rfl) (dget kX9_init 16 rfl) (fun q4 => ?_)
  refine wg_putF C hin fl_X9_19 rfl (by first | rfl | decide) rfl (Nat.le_of_ble_eq_true rfl) (dget kX9_init 17 rfl) ?_
  exact ix9_3 C hr hlk hin
set_option maxHeartbeats 4000000 in
set_option maxRecDepth 100000 in
theorem ix9_1 {q1 q2 : Nat} (C : CG D p s m c mX9_init.2.1 mX9_init.2.2.1 mX9_init.1.cls (va_A [(h0, .inr (9, fsX9))] s.heap.size)) (hr : meth.sig.returnType = mX9_init.2.2.2.1) (hlk : meth.locks = false) (hin : meth.name = mX9_init.1.name) : WG p l e (rmN mX9_init 21 1672) s m args below meth c D (va_A [(h0, .inr (9, fsX9))] s.heap.size) mX9_init.2.2.1 (MQ below (QN D [(h0, .inr (9, fsX9))] s.heap.size (nX9 D h0)) args s 21 1672 (va_A [(h0, .inr (9, fsX9))] s.heap.size)) 18 [(0, .ref h0)] [] [(h0, .inr (9, [.ref q1, .ref q2, .null, .null, .int 0, .null, .null, .null, .int 0, .null, .int 0, .null, .null, .int 0, .null, .int 0, .null, .null, .null, .null, .null, .null, .null, .null, .int 0, .null, .null, .int 0])), (q1, .inl (D.2 0, 4, .inl (fun _ => 0))), (q2, .inl (D.2 0, 4, .inl (fun _ => 0)))] 2 8 := by
  refine wg_aload_n C (dget kX9_init 10 rfl) 0 rfl ?_
  refine wg_sipush (v := 240) C (dget kX9_init 11 rfl) (by decide) ?_
  refine wx_newI (N := 240) C (by decide) (by decide) (by decide) (Nat.le_of_ble_eq_true rfl) (Nat.le_of_ble_eq_true rfl) (dget kX9_init 12 rfl) (fun q3 => ?_)
  refine wg_putF C hin fl_X9_16 rfl (by first | rfl | decide) rfl (Nat.le_of_ble_eq_true rfl) (dget kX9_init 13 rfl) ?_
  exact ix9_2 C hr hlk hin
set_option maxHeartbeats 4000000 in
set_option maxRecDepth 100000 in
theorem ix9_0 {q1 : Nat} (C : CG D p s m c mX9_init.2.1 mX9_init.2.2.1 mX9_init.1.cls (va_A [(h0, .inr (9, fsX9))] s.heap.size)) (hr : meth.sig.returnType = mX9_init.2.2.2.1) (hlk : meth.locks = false) (hin : meth.name = mX9_init.1.name) : WG p l e (rmN mX9_init 21 1672) s m args below meth c D (va_A [(h0, .inr (9, fsX9))] s.heap.size) mX9_init.2.2.1 (MQ below (QN D [(h0, .inr (9, fsX9))] s.heap.size (nX9 D h0)) args s 21 1672 (va_A [(h0, .inr (9, fsX9))] s.heap.size)) 11 [(0, .ref h0)] [] [(h0, .inr (9, [.ref q1, .null, .null, .null, .int 0, .null, .null, .null, .int 0, .null, .int 0, .null, .null, .int 0, .null, .int 0, .null, .null, .null, .null, .null, .null, .null, .null, .int 0, .null, .null, .int 0])), (q1, .inl (D.2 0, 4, .inl (fun _ => 0)))] 1 4 := by
  refine wg_aload_n C (dget kX9_init 6 rfl) 0 rfl ?_
  refine wg_iconst (v := 4) C (dget kX9_init 7 rfl) (by decide) ?_
  refine wx_newI (N := 4) C (by decide) (by decide) (by decide) (Nat.le_of_ble_eq_true rfl) (Nat.le_of_ble_eq_true rfl) (dget kX9_init 8 rfl) (fun q2 => ?_)
  refine wg_putF C hin fl_X9_13 rfl (by first | rfl | decide) rfl (Nat.le_of_ble_eq_true rfl) (dget kX9_init 9 rfl) ?_
  exact ix9_1 C hr hlk hin
end INI9
set_option maxHeartbeats 4000000 in
set_option maxRecDepth 100000 in
theorem cnX9 {D : DT} {h0 : Nat} : CN D mX9_init 21 1672 [.ref h0] [(h0, .inr (9, fsX9))] (nX9 D h0) := by
  refine CN.of (by decide) (Nat.le_of_ble_eq_true rfl) ?_
  intro p l e s m args below meth c C hr hlk hin
  refine wg_aload_n C (dget kX9_init 0 rfl) 0 rfl ?_
  refine wg_obj C (tin5 3 (by decide +kernel)) (dget kX9_init 1 rfl) (Nat.le_of_ble_eq_true rfl) (Nat.le_of_ble_eq_true rfl) ?_
  refine wg_aload_n C (dget kX9_init 2 rfl) 0 rfl ?_
  refine wg_iconst (v := 4) C (dget kX9_init 3 rfl) (by decide) ?_
  refine wx_newI (N := 4) C (by decide) (by decide) (by decide) (Nat.le_of_ble_eq_true rfl) (Nat.le_of_ble_eq_true rfl) (dget kX9_init 4 rfl) (fun q1 => ?_)
  refine wg_putF C hin fl_X9_7 rfl (by first | rfl | decide) rfl (Nat.le_of_ble_eq_true rfl) (dget kX9_init 5 rfl) ?_
  exact ix9_0 C hr hlk hin
