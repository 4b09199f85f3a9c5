section WGX
variable {p : Program} {l : Launch} {e : Env} {R : Room} {s : State} {m : MethodId} {args : Array Value} {below : List Frame} {meth : Method} {c : Code} {D : DT} {A : Nat → Prop} {nl : Nat} {Z : State → Prop} {cc : ByteArray} {own : String} {pc : Nat} {lv : List (Nat × Value)} {rest : List Value} {t : Nat × va_E} {wt : va_W} {ck cn : Nat}
theorem wx_new {ci N idx : Nat} {C0 : String} {T : u_T} {ty : Nat → FieldType} {fs : List Value} (C : CG D p s m c cc nl own A) (hcl : CLk ci C0 T N ty) (hk : Cond.classLink own idx C0 ∈ tb) (hi : Cond.instantiable C0 N ∈ tb) (hini : Cond.initialized C0 ∈ tb) (hfs : ∀ j, j < N → defaultValue (ty j) = vp_V fs j) (hc1 : ck + 1 ≤ R.cells) (hs1 : cn + N ≤ R.slots) (hdg : decode cc pc = .ok (.new idx, 3)) (k : ∀ q, WG p l e R s m args below meth c D A nl Z (pc + 3) lv (.ref q :: rest) (t :: (wt ++ [(q, .inr (ci, fs))])) (ck + 1) (cn + N)) : WG p l e R s m args below meth c D A nl Z pc lv rest (t :: wt) ck cn := wg_new C hcl hk hi hini hfs hc1 hs1 hdg k
theorem wx_newI {x : Int32} {N : Nat} (C : CG D p s m c cc nl own A) (hn : ¬ x < 0) (hN : x.toNatClampNeg = N) (hby : N * 4 ≤ 536870912) (hc1 : ck + 1 ≤ R.cells) (hs1 : cn + N ≤ R.slots) (hdg : decode cc pc = .ok (.newarray .int, 2)) (k : ∀ q, WG p l e R s m args below meth c D A nl Z (pc + 2) lv (.ref q :: rest) (t :: (wt ++ [(q, .inl (D.2 0, N, .inl (fun _ => 0)))])) (ck + 1) (cn + N)) : WG p l e R s m args below meth c D A nl Z pc lv (.int x :: rest) (t :: wt) ck cn := wg_newI C hn hN hby hc1 hs1 hdg k
theorem wx_newL {x : Int32} {N : Nat} (C : CG D p s m c cc nl own A) (hn : ¬ x < 0) (hN : x.toNatClampNeg = N) (hby : N * 8 ≤ 536870912) (hc1 : ck + 1 ≤ R.cells) (hs1 : cn + N ≤ R.slots) (hdg : decode cc pc = .ok (.newarray .long, 2)) (k : ∀ q, WG p l e R s m args below meth c D A nl Z (pc + 2) lv (.ref q :: rest) (t :: (wt ++ [(q, .inl (D.2 1, N, .inr (.inl (fun _ => 0))))])) (ck + 1) (cn + N)) : WG p l e R s m args below meth c D A nl Z pc lv (.int x :: rest) (t :: wt) ck cn := wg_newL C hn hN hby hc1 hs1 hdg k
theorem wx_newq {x : Int32} {N idx t0 : Nat} {C0 : String} {cA0 : ClassId} (C : CG D p s m c cc nl own A) (ht : (tysD D)[t0]? = some (cA0, .object C0)) (hao : va_AO C0 s) (hk : Cond.classLink own idx C0 ∈ tb) (hn : ¬ x < 0) (hN : x.toNatClampNeg = N) (hby : N * 4 ≤ 536870912) (hc1 : ck + 1 ≤ R.cells) (hs1 : cn + N ≤ R.slots) (hdg : decode cc pc = .ok (.anewarray idx, 3)) (k : ∀ q, WG p l e R s m args below meth c D A nl Z (pc + 3) lv (.ref q :: rest) (t :: (wt ++ [(q, .inl (cA0, N, .inr (.inr (.inr (.inr (fun _ => none))))))])) (ck + 1) (cn + N)) : WG p l e R s m args below meth c D A nl Z pc lv (.int x :: rest) (t :: wt) ck cn := wg_newq C ht hao hk hn hN hby hc1 hs1 hdg k
theorem arrV_same {cA : ClassId} {N : Nat} {f f' : Nat → Value} (h : ∀ j, j < N → f j = f' j) : arrV cA N f = arrV cA N f' := by
  unfold arrV
  congr 1
  congr 1
  funext j
  exact h j.val j.isLt
theorem wx_rowq {a N : Nat} {cA : ClassId} {f : Nat → Option Nat} (q0 : Nat) (f' : Nat → Option Nat) (he : wt[q0]? = some (a, .inl (cA, N, .inr (.inr (.inr (.inr f)))))) (hf : ∀ j, j < N → f j = f' j) (k : WG p l e R s m args below meth c D A nl Z pc lv rest (t :: wt.set q0 (a, .inl (cA, N, .inr (.inr (.inr (.inr f')))))) ck cn) : WG p l e R s m args below meth c D A nl Z pc lv rest (t :: wt) ck cn := by
  intro H L ls hP hD hS hl
  refine k H L ls (va_P.set (p := q0 + 1) hP hD he ?_ (fun _ _ => rfl)) (va_D.set (p := q0 + 1) hD he) hS hl
  have h1 : H[a]? = some (vp_cell cA (N, .inr (.inr (.inr (.inr f))))) := hP (q0 + 1) _ he
  show H[a]? = some (vp_cell cA (N, .inr (.inr (.inr (.inr f')))))
  rw [h1, vp_cell_q, vp_cell_q]
  exact congrArg some (arrV_same (f := fun j => va_rf (f j)) (f' := fun j => va_rf (f' j)) (fun j hj => by rw [hf j hj]))
theorem wx_rowi {a N : Nat} {cA : ClassId} {f : Nat → Int32} (q0 : Nat) (f' : Nat → Int32) (he : wt[q0]? = some (a, .inl (cA, N, .inl f))) (hf : ∀ j, j < N → f j = f' j) (k : WG p l e R s m args below meth c D A nl Z pc lv rest (t :: wt.set q0 (a, .inl (cA, N, .inl f'))) ck cn) : WG p l e R s m args below meth c D A nl Z pc lv rest (t :: wt) ck cn := by
  intro H L ls hP hD hS hl
  refine k H L ls (va_P.set (p := q0 + 1) hP hD he ?_ (fun _ _ => rfl)) (va_D.set (p := q0 + 1) hD he) hS hl
  have h1 : H[a]? = some (vp_cell cA (N, .inl f)) := hP (q0 + 1) _ he
  show H[a]? = some (vp_cell cA (N, .inl f'))
  rw [h1, vp_cell_i, vp_cell_i]
  exact congrArg some (arrV_same (f := fun j => .int (f j)) (f' := fun j => .int (f' j)) (fun j hj => by rw [hf j hj]))
theorem wx_init {Mc : MT} {idx n mc ms b : Nat} {As st : List Value} {x : va_E} {Qn : va_W → Prop} (C : CG D p s m c cc nl own A) (hF : CF own idx Mc n) (hI : Cond.instanceMethod Mc.1 ∈ tb) (hnm : Mc.1.name = "<init>") (hret : Mc.2.2.2.1 = none) (hR : Mc.2.2.2.2.1 + 1 ≤ R.frames ∧ 8 + (Mc.2.2.1 + 11) + Mc.2.2.2.2.2 ≤ R.locals) (hn : As.length = n) (hst : As.reverse ++ .ref b :: rest = st) (hw : (rest.map fun v => v.category).sum ≤ 8) (hdg : decode cc pc = .ok (.invokespecial idx, 3)) (hM : CN D Mc mc ms (.ref b :: As) [(b, x)] Qn) (hfit : ck + mc ≤ R.cells ∧ cn + ms ≤ R.slots)
    (K : ∀ w1, Qn w1 → WG p l e R s m args below meth c D A nl Z (pc + 3) lv rest (t :: (wt ++ w1)) (ck + mc) (cn + ms)) : WG p l e R s m args below meth c D A nl Z pc lv st (t :: (wt ++ [(b, x)])) ck cn := wg_init (ws := t :: wt) C hF hI hnm hret hR hn hst hw hdg hM hfit K
end WGX
/-- addresses by number -/
def gl (l : List Nat) (b : Nat) : Nat → Nat := fun k => l.getD (k - b) 0
abbrev fsX0 : List Value := [.null, .null, .null, .null, .null]
theorem dfX0 : ∀ j, j < 5 → defaultValue (tyX0 j) = vp_V fsX0 j := by
  intro j hj
  match j, hj with
  | 0, _ => rfl
  | 1, _ => rfl
  | 2, _ => rfl
  | 3, _ => rfl
  | 4, _ => rfl
  | j + 5, hj => exact absurd hj (by omega)
abbrev fsX1 : List Value := [.null, .null, .null, .null, .int 0]
theorem dfX1 : ∀ j, j < 5 → defaultValue (tyX1 j) = vp_V fsX1 j := by
  intro j hj
  match j, hj with
  | 0, _ => rfl
  | 1, _ => rfl
  | 2, _ => rfl
  | 3, _ => rfl
  | 4, _ => rfl
  | j + 5, hj => exact absurd hj (by omega)
abbrev fsX2 : List Value := [.null, .null, .null, .int 0, .int 0, .null, .null, .null, .null, .null, .null, .int 0, .int 0, .null, .int 0, .int 0, .long 0]
theorem dfX2 : ∀ j, j < 17 → defaultValue (tyX2 j) = vp_V fsX2 j := by
  intro j hj
  match j, hj with
  | 0, _ => rfl
  | 1, _ => rfl
  | 2, _ => rfl
  | 3, _ => rfl
  | 4, _ => rfl
  | 5, _ => rfl
  | 6, _ => rfl
  | 7, _ => rfl
  | 8, _ => rfl
  | 9, _ => rfl
  | 10, _ => rfl
  | 11, _ => rfl
  | 12, _ => rfl
  | 13, _ => rfl
  | 14, _ => rfl
  | 15, _ => rfl
  | 16, _ => rfl
  | j + 17, hj => exact absurd hj (by omega)
abbrev fsX3 : List Value := [.null, .null, .null, .int 0]
theorem dfX3 : ∀ j, j < 4 → defaultValue (tyX3 j) = vp_V fsX3 j := by
  intro j hj
  match j, hj with
  | 0, _ => rfl
  | 1, _ => rfl
  | 2, _ => rfl
  | 3, _ => rfl
  | j + 4, hj => exact absurd hj (by omega)
abbrev fsX4 : List Value := [.null, .int 0, .int 0, .int 0]
theorem dfX4 : ∀ j, j < 4 → defaultValue (tyX4 j) = vp_V fsX4 j := by
  intro j hj
  match j, hj with
  | 0, _ => rfl
  | 1, _ => rfl
  | 2, _ => rfl
  | 3, _ => rfl
  | j + 4, hj => exact absurd hj (by omega)
abbrev fsX5 : List Value := [.null, .null, .null, .int 0]
theorem dfX5 : ∀ j, j < 4 → defaultValue (tyX5 j) = vp_V fsX5 j := by
  intro j hj
  match j, hj with
  | 0, _ => rfl
  | 1, _ => rfl
  | 2, _ => rfl
  | 3, _ => rfl
  | j + 4, hj => exact absurd hj (by omega)
abbrev fsX6 : List Value := [.null, .null, .null, .null, .null, .int 0, .null, .null]
theorem dfX6 : ∀ j, j < 8 → defaultValue (tyX6 j) = vp_V fsX6 j := by
  intro j hj
  match j, hj with
  | 0, _ => rfl
  | 1, _ => rfl
  | 2, _ => rfl
  | 3, _ => rfl
  | 4, _ => rfl
  | 5, _ => rfl
  | 6, _ => rfl
  | 7, _ => rfl
  | j + 8, hj => exact absurd hj (by omega)
abbrev fsX7 : List Value := [.int 0, .int 0, .int 0, .null, .null, .int 0, .int 0, .int 0]
theorem dfX7 : ∀ j, j < 8 → defaultValue (tyX7 j) = vp_V fsX7 j := by
  intro j hj
  match j, hj with
  | 0, _ => rfl
  | 1, _ => rfl
  | 2, _ => rfl
  | 3, _ => rfl
  | 4, _ => rfl
  | 5, _ => rfl
  | 6, _ => rfl
  | 7, _ => rfl
  | j + 8, hj => exact absurd hj (by omega)
abbrev fsX8 : List Value := [.null, .null, .null, .null, .null, .null, .null, .null, .null, .int 0, .int 0, .null, .null, .int 0, .int 0, .int 0]
theorem dfX8 : ∀ j, j < 16 → defaultValue (tyX8 j) = vp_V fsX8 j := by
  intro j hj
  match j, hj with
  | 0, _ => rfl
  | 1, _ => rfl
  | 2, _ => rfl
  | 3, _ => rfl
  | 4, _ => rfl
  | 5, _ => rfl
  | 6, _ => rfl
  | 7, _ => rfl
  | 8, _ => rfl
  | 9, _ => rfl
  | 10, _ => rfl
  | 11, _ => rfl
  | 12, _ => rfl
  | 13, _ => rfl
  | 14, _ => rfl
  | 15, _ => rfl
  | j + 16, hj => exact absurd hj (by omega)
abbrev fsX9 : List Value := [.null, .null, .null, .null, .int 0, .null, .null, .null, .int 0, .null, .int 0, .null, .null, .int 0, .null, .int 0, .null, .null, .null, .null, .null, .null, .null, .null, .int 0, .null, .null, .int 0]
theorem dfX9 : ∀ j, j < 28 → defaultValue (tyX9 j) = vp_V fsX9 j := by
  intro j hj
  match j, hj with
  | 0, _ => rfl
  | 1, _ => rfl
  | 2, _ => rfl
  | 3, _ => rfl
  | 4, _ => rfl
  | 5, _ => rfl
  | 6, _ => rfl
  | 7, _ => rfl
  | 8, _ => rfl
  | 9, _ => rfl
  | 10, _ => rfl
  | 11, _ => rfl
  | 12, _ => rfl
  | 13, _ => rfl
  | 14, _ => rfl
  | 15, _ => rfl
  | 16, _ => rfl
  | 17, _ => rfl
  | 18, _ => rfl
  | 19, _ => rfl
  | 20, _ => rfl
  | 21, _ => rfl
  | 22, _ => rfl
  | 23, _ => rfl
  | 24, _ => rfl
  | 25, _ => rfl
  | 26, _ => rfl
  | 27, _ => rfl
  | j + 28, hj => exact absurd hj (by omega)
def mX0_init : MT := (yX0_init, cX0_init, 3, none, 1, 12)
set_option maxHeartbeats 4000000 in
set_option maxRecDepth 100000 in
theorem cnX0 {D : DT} {h0 : Nat} {p1 : Nat} {p2 : Nat} : CN D mX0_init 3 120 [.ref h0, .ref p1, .ref p2] [(h0, .inr (0, fsX0))] (fun w => ∃ q1 q2 q3 : Nat, w = [(h0, .inr (0, [.ref p1, .ref p2, .ref q1, .ref q2, .ref q3])), (q1, .inl (D.2 0, 72, .inl (fun _ => 0))), (q2, .inl (D.2 0, 24, .inl (fun _ => 0))), (q3, .inl (D.2 0, 24, .inl (fun _ => 0)))]) := by
  refine CN.of (by decide) (Nat.le_of_ble_eq_true rfl) ?_
  intro p l e s m args below meth c C hr hlk hin
  refine wg_aload_n C (dget kX0_init 0 rfl) 0 rfl ?_
  refine wg_obj C (tin1 100 (by decide +kernel)) (dget kX0_init 1 rfl) (Nat.le_of_ble_eq_true rfl) (Nat.le_of_ble_eq_true rfl) ?_
  refine wg_aload_n C (dget kX0_init 2 rfl) 0 rfl ?_
  refine wg_bipush (v := 72) C (dget kX0_init 3 rfl) (by decide) ?_
  refine wx_newI (N := 72) C (by decide) (by decide) (by decide) (Nat.le_of_ble_eq_true rfl) (Nat.le_of_ble_eq_true rfl) (dget kX0_init 4 rfl) (fun q1 => ?_)
  refine wg_putF C hin fl_X0_9 rfl (by first | rfl | decide) rfl (Nat.le_of_ble_eq_true rfl) (dget kX0_init 5 rfl) ?_
  refine wg_aload_n C (dget kX0_init 6 rfl) 0 rfl ?_
  refine wg_bipush (v := 24) C (dget kX0_init 7 rfl) (by decide) ?_
  refine wx_newI (N := 24) C (by decide) (by decide) (by decide) (Nat.le_of_ble_eq_true rfl) (Nat.le_of_ble_eq_true rfl) (dget kX0_init 8 rfl) (fun q2 => ?_)
  refine wg_putF C hin fl_X0_15 rfl (by first | rfl | decide) rfl (Nat.le_of_ble_eq_true rfl) (dget kX0_init 9 rfl) ?_
  refine wg_aload_n C (dget kX0_init 10 rfl) 0 rfl ?_
  refine wg_bipush (v := 24) C (dget kX0_init 11 rfl) (by decide) ?_
  refine wx_newI (N := 24) C (by decide) (by decide) (by decide) (Nat.le_of_ble_eq_true rfl) (Nat.le_of_ble_eq_true rfl) (dget kX0_init 12 rfl) (fun q3 => ?_)
  refine wg_putF C hin fl_X0_18 rfl (by first | rfl | decide) rfl (Nat.le_of_ble_eq_true rfl) (dget kX0_init 13 rfl) ?_
  refine wg_aload_n C (dget kX0_init 14 rfl) 0 rfl ?_
  refine wg_aload_n C (dget kX0_init 15 rfl) 1 rfl ?_
  refine wg_putF C hin fl_X0_21 rfl (by first | rfl | decide) rfl (Nat.le_of_ble_eq_true rfl) (dget kX0_init 16 rfl) ?_
  refine wg_aload_n C (dget kX0_init 17 rfl) 0 rfl ?_
  refine wg_aload_n C (dget kX0_init 18 rfl) 2 rfl ?_
  refine wg_putF C hin fl_X0_25 rfl (by first | rfl | decide) rfl (Nat.le_of_ble_eq_true rfl) (dget kX0_init 19 rfl) ?_
  exact wg_vret C hr hlk (dget kX0_init 20 rfl) (Nat.le_of_ble_eq_true rfl) (Nat.le_of_ble_eq_true rfl) ⟨q1, q2, q3, rfl⟩
def mX1_init : MT := (yX1_init, cX1_init, 1, none, 1, 12)
set_option maxHeartbeats 4000000 in
set_option maxRecDepth 100000 in
theorem cnX1 {D : DT} {h0 : Nat} : CN D mX1_init 4 48 [.ref h0] [(h0, .inr (1, fsX1))] (fun w => ∃ q1 q2 q3 q4 : Nat, w = [(h0, .inr (1, [.ref q1, .ref q2, .ref q3, .ref q4, .int 0])), (q1, .inl (D.2 0, 8, .inl (fun _ => 0))), (q2, .inl (D.2 0, 8, .inl (fun _ => 0))), (q3, .inl (D.2 0, 8, .inl (fun _ => 0))), (q4, .inl (D.2 0, 24, .inl (fun _ => 0)))]) := by
  refine CN.of (by decide) (Nat.le_of_ble_eq_true rfl) ?_
  intro p l e s m args below meth c C hr hlk hin
  refine wg_aload_n C (dget kX1_init 0 rfl) 0 rfl ?_
  refine wg_obj C (tin1 76 (by decide +kernel)) (dget kX1_init 1 rfl) (Nat.le_of_ble_eq_true rfl) (Nat.le_of_ble_eq_true rfl) ?_
  refine wg_aload_n C (dget kX1_init 2 rfl) 0 rfl ?_
  refine wg_bipush (v := 8) C (dget kX1_init 3 rfl) (by decide) ?_
  refine wx_newI (N := 8) C (by decide) (by decide) (by decide) (Nat.le_of_ble_eq_true rfl) (Nat.le_of_ble_eq_true rfl) (dget kX1_init 4 rfl) (fun q1 => ?_)
  refine wg_putF C hin fl_X1_9 rfl (by first | rfl | decide) rfl (Nat.le_of_ble_eq_true rfl) (dget kX1_init 5 rfl) ?_
  refine wg_aload_n C (dget kX1_init 6 rfl) 0 rfl ?_
  refine wg_bipush (v := 8) C (dget kX1_init 7 rfl) (by decide) ?_
  refine wx_newI (N := 8) C (by decide) (by decide) (by decide) (Nat.le_of_ble_eq_true rfl) (Nat.le_of_ble_eq_true rfl) (dget kX1_init 8 rfl) (fun q2 => ?_)
  refine wg_putF C hin fl_X1_15 rfl (by first | rfl | decide) rfl (Nat.le_of_ble_eq_true rfl) (dget kX1_init 9 rfl) ?_
  refine wg_aload_n C (dget kX1_init 10 rfl) 0 rfl ?_
  refine wg_bipush (v := 8) C (dget kX1_init 11 rfl) (by decide) ?_
  refine wx_newI (N := 8) C (by decide) (by decide) (by decide) (Nat.le_of_ble_eq_true rfl) (Nat.le_of_ble_eq_true rfl) (dget kX1_init 12 rfl) (fun q3 => ?_)
  refine wg_putF C hin fl_X1_18 rfl (by first | rfl | decide) rfl (Nat.le_of_ble_eq_true rfl) (dget kX1_init 13 rfl) ?_
  refine wg_aload_n C (dget kX1_init 14 rfl) 0 rfl ?_
  refine wg_bipush (v := 24) C (dget kX1_init 15 rfl) (by decide) ?_
  refine wx_newI (N := 24) C (by decide) (by decide) (by decide) (Nat.le_of_ble_eq_true rfl) (Nat.le_of_ble_eq_true rfl) (dget kX1_init 16 rfl) (fun q4 => ?_)
  refine wg_putF C hin fl_X1_21 rfl (by first | rfl | decide) rfl (Nat.le_of_ble_eq_true rfl) (dget kX1_init 17 rfl) ?_
  exact wg_vret C hr hlk (dget kX1_init 18 rfl) (Nat.le_of_ble_eq_true rfl) (Nat.le_of_ble_eq_true rfl) ⟨q1, q2, q3, q4, rfl⟩
def mX3_init : MT := (yX3_init, cX3_init, 1, none, 1, 12)
set_option maxHeartbeats 4000000 in
set_option maxRecDepth 100000 in
theorem cnX3 {D : DT} {h0 : Nat} : CN D mX3_init 3 24 [.ref h0] [(h0, .inr (3, fsX3))] (fun w => ∃ q1 q2 q3 : Nat, w = [(h0, .inr (3, [.ref q1, .ref q2, .ref q3, .int 0])), (q1, .inl (D.2 0, 8, .inl (fun _ => 0))), (q2, .inl (D.2 0, 8, .inl (fun _ => 0))), (q3, .inl (D.2 0, 8, .inl (fun _ => 0)))]) := by
  refine CN.of (by decide) (Nat.le_of_ble_eq_true rfl) ?_
  intro p l e s m args below meth c C hr hlk hin
  refine wg_aload_n C (dget kX3_init 0 rfl) 0 rfl ?_
  refine wg_obj C (tin1 217 (by decide +kernel)) (dget kX3_init 1 rfl) (Nat.le_of_ble_eq_true rfl) (Nat.le_of_ble_eq_true rfl) ?_
  refine wg_aload_n C (dget kX3_init 2 rfl) 0 rfl ?_
  refine wg_bipush (v := 8) C (dget kX3_init 3 rfl) (by decide) ?_
  refine wx_newI (N := 8) C (by decide) (by decide) (by decide) (Nat.le_of_ble_eq_true rfl) (Nat.le_of_ble_eq_true rfl) (dget kX3_init 4 rfl) (fun q1 => ?_)
  refine wg_putF C hin fl_X3_9 rfl (by first | rfl | decide) rfl (Nat.le_of_ble_eq_true rfl) (dget kX3_init 5 rfl) ?_
  refine wg_aload_n C (dget kX3_init 6 rfl) 0 rfl ?_
  refine wg_bipush (v := 8) C (dget kX3_init 7 rfl) (by decide) ?_
  refine wx_newI (N := 8) C (by decide) (by decide) (by decide) (Nat.le_of_ble_eq_true rfl) (Nat.le_of_ble_eq_true rfl) (dget kX3_init 8 rfl) (fun q2 => ?_)
  refine wg_putF C hin fl_X3_15 rfl (by first | rfl | decide) rfl (Nat.le_of_ble_eq_true rfl) (dget kX3_init 9 rfl) ?_
  refine wg_aload_n C (dget kX3_init 10 rfl) 0 rfl ?_
  refine wg_bipush (v := 8) C (dget kX3_init 11 rfl) (by decide) ?_
  refine wx_newI (N := 8) C (by decide) (by decide) (by decide) (Nat.le_of_ble_eq_true rfl) (Nat.le_of_ble_eq_true rfl) (dget kX3_init 12 rfl) (fun q3 => ?_)
  refine wg_putF C hin fl_X3_18 rfl (by first | rfl | decide) rfl (Nat.le_of_ble_eq_true rfl) (dget kX3_init 13 rfl) ?_
  exact wg_vret C hr hlk (dget kX3_init 14 rfl) (Nat.le_of_ble_eq_true rfl) (Nat.le_of_ble_eq_true rfl) ⟨q1, q2, q3, rfl⟩
def mX4_init : MT := (yX4_init, cX4_init, 1, none, 1, 12)
set_option maxHeartbeats 4000000 in
set_option maxRecDepth 100000 in
theorem cnX4 {D : DT} {h0 : Nat} : CN D mX4_init 1 60 [.ref h0] [(h0, .inr (4, fsX4))] (fun w => ∃ q1 : Nat, w = [(h0, .inr (4, [.ref q1, .int 0, .int 0, .int 1])), (q1, .inl (D.2 0, 60, .inl (fun _ => 0)))]) := by
  refine CN.of (by decide) (Nat.le_of_ble_eq_true rfl) ?_
  intro p l e s m args below meth c C hr hlk hin
  refine wg_aload_n C (dget kX4_init 0 rfl) 0 rfl ?_
  refine wg_obj C (tin2 32 (by decide +kernel)) (dget kX4_init 1 rfl) (Nat.le_of_ble_eq_true rfl) (Nat.le_of_ble_eq_true rfl) ?_
  refine wg_aload_n C (dget kX4_init 2 rfl) 0 rfl ?_
  refine wg_bipush (v := 60) C (dget kX4_init 3 rfl) (by decide) ?_
  refine wx_newI (N := 60) C (by decide) (by decide) (by decide) (Nat.le_of_ble_eq_true rfl) (Nat.le_of_ble_eq_true rfl) (dget kX4_init 4 rfl) (fun q1 => ?_)
  refine wg_putF C hin fl_X4_9 rfl (by first | rfl | decide) rfl (Nat.le_of_ble_eq_true rfl) (dget kX4_init 5 rfl) ?_
  refine wg_aload_n C (dget kX4_init 6 rfl) 0 rfl ?_
  refine wg_iconst (v := 1) C (dget kX4_init 7 rfl) (by decide) ?_
  refine wg_put C fl_X4_15 (by first | rfl | decide) rfl (Nat.le_of_ble_eq_true rfl) (dget kX4_init 8 rfl) ?_
  exact wg_vret C hr hlk (dget kX4_init 9 rfl) (Nat.le_of_ble_eq_true rfl) (Nat.le_of_ble_eq_true rfl) ⟨q1, rfl⟩
def mX5_init : MT := (yX5_init, cX5_init, 1, none, 1, 12)
set_option maxHeartbeats 4000000 in
set_option maxRecDepth 100000 in
theorem cnX5 {D : DT} {h0 : Nat} : CN D mX5_init 3 36 [.ref h0] [(h0, .inr (5, fsX5))] (fun w => ∃ q1 q2 q3 : Nat, w = [(h0, .inr (5, [.ref q1, .ref q2, .ref q3, .int 0])), (q1, .inl (D.2 0, 12, .inl (fun _ => 0))), (q2, .inl (D.2 0, 12, .inl (fun _ => 0))), (q3, .inl (D.2 0, 12, .inl (fun _ => 0)))]) := by
  refine CN.of (by decide) (Nat.le_of_ble_eq_true rfl) ?_
  intro p l e s m args below meth c C hr hlk hin
  refine wg_aload_n C (dget kX5_init 0 rfl) 0 rfl ?_
  refine wg_obj C (tin1 130 (by decide +kernel)) (dget kX5_init 1 rfl) (Nat.le_of_ble_eq_true rfl) (Nat.le_of_ble_eq_true rfl) ?_
  refine wg_aload_n C (dget kX5_init 2 rfl) 0 rfl ?_
  refine wg_bipush (v := 12) C (dget kX5_init 3 rfl) (by decide) ?_
  refine wx_newI (N := 12) C (by decide) (by decide) (by decide) (Nat.le_of_ble_eq_true rfl) (Nat.le_of_ble_eq_true rfl) (dget kX5_init 4 rfl) (fun q1 => ?_)
  refine wg_putF C hin fl_X5_9 rfl (by first | rfl | decide) rfl (Nat.le_of_ble_eq_true rfl) (dget kX5_init 5 rfl) ?_
  refine wg_aload_n C (dget kX5_init 6 rfl) 0 rfl ?_
  refine wg_bipush (v := 12) C (dget kX5_init 7 rfl) (by decide) ?_
  refine wx_newI (N := 12) C (by decide) (by decide) (by decide) (Nat.le_of_ble_eq_true rfl) (Nat.le_of_ble_eq_true rfl) (dget kX5_init 8 rfl) (fun q2 => ?_)
  refine wg_putF C hin fl_X5_15 rfl (by first | rfl | decide) rfl (Nat.le_of_ble_eq_true rfl) (dget kX5_init 9 rfl) ?_
  refine wg_aload_n C (dget kX5_init 10 rfl) 0 rfl ?_
  refine wg_bipush (v := 12) C (dget kX5_init 11 rfl) (by decide) ?_
  refine wx_newI (N := 12) C (by decide) (by decide) (by decide) (Nat.le_of_ble_eq_true rfl) (Nat.le_of_ble_eq_true rfl) (dget kX5_init 12 rfl) (fun q3 => ?_)
  refine wg_putF C hin fl_X5_18 rfl (by first | rfl | decide) rfl (Nat.le_of_ble_eq_true rfl) (dget kX5_init 13 rfl) ?_
  exact wg_vret C hr hlk (dget kX5_init 14 rfl) (Nat.le_of_ble_eq_true rfl) (Nat.le_of_ble_eq_true rfl) ⟨q1, q2, q3, rfl⟩
def mX6_init : MT := (yX6_init, cX6_init, 1, none, 1, 12)
set_option maxHeartbeats 4000000 in
set_option maxRecDepth 100000 in
theorem cnX6 {D : DT} {h0 : Nat} : CN D mX6_init 7 123 [.ref h0] [(h0, .inr (6, fsX6))] (fun w => ∃ q1 q2 q3 q4 q5 q6 q7 : Nat, w = [(h0, .inr (6, [.ref q1, .ref q2, .ref q3, .ref q4, .ref q5, .int 0, .ref q6, .ref q7])), (q1, .inl (D.2 0, 3, .inl (fun _ => 0))), (q2, .inl (D.2 0, 12, .inl (fun _ => 0))), (q3, .inl (D.2 0, 12, .inl (fun _ => 0))), (q4, .inl (D.2 0, 12, .inl (fun _ => 0))), (q5, .inl (D.2 0, 12, .inl (fun _ => 0))), (q6, .inl (D.2 0, 36, .inl (fun _ => 0))), (q7, .inl (D.2 0, 36, .inl (fun _ => 0)))]) := by
  refine CN.of (by decide) (Nat.le_of_ble_eq_true rfl) ?_
  intro p l e s m args below meth c C hr hlk hin
  refine wg_aload_n C (dget kX6_init 0 rfl) 0 rfl ?_
  refine wg_obj C (tin1 35 (by decide +kernel)) (dget kX6_init 1 rfl) (Nat.le_of_ble_eq_true rfl) (Nat.le_of_ble_eq_true rfl) ?_
  refine wg_aload_n C (dget kX6_init 2 rfl) 0 rfl ?_
  refine wg_iconst (v := 3) C (dget kX6_init 3 rfl) (by decide) ?_
  refine wx_newI (N := 3) C (by decide) (by decide) (by decide) (Nat.le_of_ble_eq_true rfl) (Nat.le_of_ble_eq_true rfl) (dget kX6_init 4 rfl) (fun q1 => ?_)
  refine wg_putF C hin fl_X6_9 rfl (by first | rfl | decide) rfl (Nat.le_of_ble_eq_true rfl) (dget kX6_init 5 rfl) ?_
  refine wg_aload_n C (dget kX6_init 6 rfl) 0 rfl ?_
  refine wg_bipush (v := 12) C (dget kX6_init 7 rfl) (by decide) ?_
  refine wx_newI (N := 12) C (by decide) (by decide) (by decide) (Nat.le_of_ble_eq_true rfl) (Nat.le_of_ble_eq_true rfl) (dget kX6_init 8 rfl) (fun q2 => ?_)
  refine wg_putF C hin fl_X6_15 rfl (by first | rfl | decide) rfl (Nat.le_of_ble_eq_true rfl) (dget kX6_init 9 rfl) ?_
  refine wg_aload_n C (dget kX6_init 10 rfl) 0 rfl ?_
  refine wg_bipush (v := 12) C (dget kX6_init 11 rfl) (by decide) ?_
  refine wx_newI (N := 12) C (by decide) (by decide) (by decide) (Nat.le_of_ble_eq_true rfl) (Nat.le_of_ble_eq_true rfl) (dget kX6_init 12 rfl) (fun q3 => ?_)
  refine wg_putF C hin fl_X6_18 rfl (by first | rfl | decide) rfl (Nat.le_of_ble_eq_true rfl) (dget kX6_init 13 rfl) ?_
  refine wg_aload_n C (dget kX6_init 14 rfl) 0 rfl ?_
  refine wg_bipush (v := 12) C (dget kX6_init 15 rfl) (by decide) ?_
  refine wx_newI (N := 12) C (by decide) (by decide) (by decide) (Nat.le_of_ble_eq_true rfl) (Nat.le_of_ble_eq_true rfl) (dget kX6_init 16 rfl) (fun q4 => ?_)
  refine wg_putF C hin fl_X6_21 rfl (by first | rfl | decide) rfl (Nat.le_of_ble_eq_true rfl) (dget kX6_init 17 rfl) ?_
  refine wg_aload_n C (dget kX6_init 18 rfl) 0 rfl ?_
  refine wg_bipush (v := 12) C (dget kX6_init 19 rfl) (by decide) ?_
  refine wx_newI (N := 12) C (by decide) (by decide) (by decide) (Nat.le_of_ble_eq_true rfl) (Nat.le_of_ble_eq_true rfl) (dget kX6_init 20 rfl) (fun q5 => ?_)
  refine wg_putF C hin fl_X6_24 rfl (by first | rfl | decide) rfl (Nat.le_of_ble_eq_true rfl) (dget kX6_init 21 rfl) ?_
  refine wg_aload_n C (dget kX6_init 22 rfl) 0 rfl ?_
  refine wg_bipush (v := 36) C (dget kX6_init 23 rfl) (by decide) ?_
  refine wx_newI (N := 36) C (by decide) (by decide) (by decide) (Nat.le_of_ble_eq_true rfl) (Nat.le_of_ble_eq_true rfl) (dget kX6_init 24 rfl) (fun q6 => ?_)
  refine wg_putF C hin fl_X6_27 rfl (by first | rfl | decide) rfl (Nat.le_of_ble_eq_true rfl) (dget kX6_init 25 rfl) ?_
  refine wg_aload_n C (dget kX6_init 26 rfl) 0 rfl ?_
  refine wg_bipush (v := 36) C (dget kX6_init 27 rfl) (by decide) ?_
  refine wx_newI (N := 36) C (by decide) (by decide) (by decide) (Nat.le_of_ble_eq_true rfl) (Nat.le_of_ble_eq_true rfl) (dget kX6_init 28 rfl) (fun q7 => ?_)
  refine wg_putF C hin fl_X6_30 rfl (by first | rfl | decide) rfl (Nat.le_of_ble_eq_true rfl) (dget kX6_init 29 rfl) ?_
  exact wg_vret C hr hlk (dget kX6_init 30 rfl) (Nat.le_of_ble_eq_true rfl) (Nat.le_of_ble_eq_true rfl) ⟨q1, q2, q3, q4, q5, q6, q7, rfl⟩
def mX7_init : MT := (yX7_init, cX7_init, 5, none, 1, 12)
set_option maxHeartbeats 4000000 in
set_option maxRecDepth 100000 in
theorem cnX7 {D : DT} {h0 : Nat} {p1 : Int32} {p2 : Int32} {p3 : Int32} {p4 : Int32} {N1 N2 : Nat} (g1 : ¬ p2 < 0) (hN1 : p2.toNatClampNeg = N1) (hb1 : N1 * 4 ≤ 536870912) (g2 : ¬ p4 * p3 < 0) (hN2 : (p4 * p3).toNatClampNeg = N2) (hb2 : N2 * 4 ≤ 536870912) : CN D mX7_init 2 (N1 + N2) [.ref h0, .int p1, .int p2, .int p3, .int p4] [(h0, .inr (7, fsX7))] (fun w => ∃ q1 q2 : Nat, w = [(h0, .inr (7, [.int p1, .int p3, .int p4, .ref q1, .ref q2, .int 0, .int 0, .int (-1)])), (q1, .inl (D.2 0, N1, .inl (fun _ => 0))), (q2, .inl (D.2 0, N2, .inl (fun _ => 0)))]) := by
  refine CN.of (by decide) (Nat.le_of_ble_eq_true rfl) ?_
  intro p l e s m args below meth c C hr hlk hin
  refine wg_aload_n C (dget kX7_init 0 rfl) 0 rfl ?_
  refine wg_obj C (tin1 238 (by decide +kernel)) (dget kX7_init 1 rfl) (Nat.le_of_ble_eq_true rfl) (Nat.le_of_ble_eq_true rfl) ?_
  refine wg_aload_n C (dget kX7_init 2 rfl) 0 rfl ?_
  refine wg_iload_n C (dget kX7_init 3 rfl) 1 rfl ?_
  refine wg_putF C hin fl_X7_9 rfl (by first | rfl | decide) rfl (Nat.le_of_ble_eq_true rfl) (dget kX7_init 4 rfl) ?_
  refine wg_aload_n C (dget kX7_init 5 rfl) 0 rfl ?_
  refine wg_iload_n C (dget kX7_init 6 rfl) 3 rfl ?_
  refine wg_putF C hin fl_X7_15 rfl (by first | rfl | decide) rfl (Nat.le_of_ble_eq_true rfl) (dget kX7_init 7 rfl) ?_
  refine wg_aload_n C (dget kX7_init 8 rfl) 0 rfl ?_
  refine wg_iload C (dget kX7_init 9 rfl) 4 rfl ?_
  refine wg_putF C hin fl_X7_18 rfl (by first | rfl | decide) rfl (Nat.le_of_ble_eq_true rfl) (dget kX7_init 10 rfl) ?_
  refine wg_aload_n C (dget kX7_init 11 rfl) 0 rfl ?_
  refine wg_iload_n C (dget kX7_init 12 rfl) 2 rfl ?_
  refine wx_newI (N := N1) C g1 hN1 hb1 (Nat.le_of_ble_eq_true rfl) (by show 0 + N1 ≤ N1 + N2; omega) (dget kX7_init 13 rfl) (fun q1 => ?_)
  refine wg_putF C hin fl_X7_21 rfl (by first | rfl | decide) rfl (Nat.le_of_ble_eq_true rfl) (dget kX7_init 14 rfl) ?_
  refine wg_aload_n C (dget kX7_init 15 rfl) 0 rfl ?_
  refine wg_iload C (dget kX7_init 16 rfl) 4 rfl ?_
  refine wg_iload_n C (dget kX7_init 17 rfl) 3 rfl ?_
  refine wg_imul C (dget kX7_init 18 rfl) ?_
  refine wx_newI (N := N2) C g2 hN2 hb2 (Nat.le_of_ble_eq_true rfl) (Nat.le_of_eq (by show 0 + N1 + N2 = N1 + N2; omega)) (dget kX7_init 19 rfl) (fun q2 => ?_)
  refine wg_putF C hin fl_X7_25 rfl (by first | rfl | decide) rfl (Nat.le_of_ble_eq_true rfl) (dget kX7_init 20 rfl) ?_
  refine wg_aload_n C (dget kX7_init 21 rfl) 0 rfl ?_
  refine wg_iconst (v := (-1)) C (dget kX7_init 22 rfl) (by decide) ?_
  refine wg_put C fl_X7_28 (by first | rfl | decide) rfl (Nat.le_of_ble_eq_true rfl) (dget kX7_init 23 rfl) ?_
  exact wg_vret C hr hlk (dget kX7_init 24 rfl) (Nat.le_of_ble_eq_true rfl) (Nat.le_of_eq (by show 0 + N1 + N2 = N1 + N2; omega)) ⟨q1, q2, rfl⟩
theorem cfI_X2_11 : CF RX2 11 mX5_init 0 := ⟨tin1 129 ⟨rfl, rfl⟩, tin1 6 (by decide +kernel), ⟨by decide, by decide, by decide +kernel⟩, Or.inr ⟨"TinDucks", tin1 127 (by decide +kernel)⟩⟩
def mX2_init : MT := (yX2_init, cX2_init, 3, none, 2, 32)
set_option maxHeartbeats 4000000 in
set_option maxRecDepth 100000 in
theorem cnX2 {D : DT} {h0 : Nat} {p1 : Nat} {p2 : Nat} : CN D mX2_init 11 172 [.ref h0, .ref p1, .ref p2] [(h0, .inr (2, fsX2))] (fun w => ∃ q1 q2 q3 q4 q5 q6 q7 q8 q9 q10 q11 : Nat, w = [(h0, .inr (2, [.ref p1, .ref q1, .ref q5, .int 2, .int 1, .ref p2, .ref q6, .ref q7, .ref q8, .ref q9, .ref q10, .int 0, .int 0, .ref q11, .int 0, .int 0, .long 0])), (q1, .inr (5, [.ref q2, .ref q3, .ref q4, .int 0])), (q2, .inl (D.2 0, 12, .inl (fun _ => 0))), (q3, .inl (D.2 0, 12, .inl (fun _ => 0))), (q4, .inl (D.2 0, 12, .inl (fun _ => 0))), (q5, .inl (D.2 0, 12, .inl (fun _ => 0))), (q6, .inl (D.2 0, 24, .inl (fun _ => 0))), (q7, .inl (D.2 0, 24, .inl (fun _ => 0))), (q8, .inl (D.2 1, 24, .inr (.inl (fun _ => 0)))), (q9, .inl (D.2 0, 12, .inl (fun _ => 0))), (q10, .inl (D.2 0, 12, .inl (fun _ => 0))), (q11, .inl (D.2 0, 24, .inl (fun _ => 0)))]) := by
  refine CN.of (by decide) (Nat.le_of_ble_eq_true rfl) ?_
  intro p l e s m args below meth c C hr hlk hin
  refine wg_aload_n C (dget kX2_init 0 rfl) 0 rfl ?_
  refine wg_obj C (tin1 124 (by decide +kernel)) (dget kX2_init 1 rfl) (Nat.le_of_ble_eq_true rfl) (Nat.le_of_ble_eq_true rfl) ?_
  refine wg_aload_n C (dget kX2_init 2 rfl) 0 rfl ?_
  refine wx_new (ci := 5) (fs := fsX5) C clX5 (tin1 125 (by decide +kernel)) (tin1 126 (by decide +kernel)) (tin1 6 (by decide +kernel)) dfX5 (Nat.le_of_ble_eq_true rfl) (Nat.le_of_ble_eq_true rfl) (dget kX2_init 3 rfl) (fun q1 => ?_)
  refine wg_dup C (dget kX2_init 4 rfl) rfl ?_
  refine wx_init (Mc := mX5_init) (As := []) (b := q1) (rest := [.ref q1, .ref h0]) C cfI_X2_11 (tin1 128 (by decide +kernel)) rfl rfl ⟨(Nat.le_of_ble_eq_true rfl), (Nat.le_of_ble_eq_true rfl)⟩ rfl rfl (Nat.le_of_ble_eq_true rfl) (dget kX2_init 5 rfl) (cnX5) ⟨(Nat.le_of_ble_eq_true rfl), (Nat.le_of_ble_eq_true rfl)⟩ (fun w hw => ?_)
  obtain ⟨q2, q3, q4, rfl⟩ := hw
  refine wg_putF C hin fl_X2_12 rfl (by first | rfl | decide) rfl (Nat.le_of_ble_eq_true rfl) (dget kX2_init 6 rfl) ?_
  refine wg_aload_n C (dget kX2_init 7 rfl) 0 rfl ?_
  refine wg_bipush (v := 12) C (dget kX2_init 8 rfl) (by decide) ?_
  refine wx_newI (N := 12) C (by decide) (by decide) (by decide) (Nat.le_of_ble_eq_true rfl) (Nat.le_of_ble_eq_true rfl) (dget kX2_init 9 rfl) (fun q5 => ?_)
  refine wg_putF C hin fl_X2_18 rfl (by first | rfl | decide) rfl (Nat.le_of_ble_eq_true rfl) (dget kX2_init 10 rfl) ?_
  refine wg_aload_n C (dget kX2_init 11 rfl) 0 rfl ?_
  refine wg_iconst (v := 2) C (dget kX2_init 12 rfl) (by decide) ?_
  refine wg_put C fl_X2_22 (by first | rfl | decide) rfl (Nat.le_of_ble_eq_true rfl) (dget kX2_init 13 rfl) ?_
  refine wg_aload_n C (dget kX2_init 14 rfl) 0 rfl ?_
  refine wg_iconst (v := 1) C (dget kX2_init 15 rfl) (by decide) ?_
  refine wg_put C fl_X2_26 (by first | rfl | decide) rfl (Nat.le_of_ble_eq_true rfl) (dget kX2_init 16 rfl) ?_
  refine wg_aload_n C (dget kX2_init 17 rfl) 0 rfl ?_
  refine wg_bipush (v := 24) C (dget kX2_init 18 rfl) (by decide) ?_
  refine wx_newI (N := 24) C (by decide) (by decide) (by decide) (Nat.le_of_ble_eq_true rfl) (Nat.le_of_ble_eq_true rfl) (dget kX2_init 19 rfl) (fun q6 => ?_)
  refine wg_putF C hin fl_X2_29 rfl (by first | rfl | decide) rfl (Nat.le_of_ble_eq_true rfl) (dget kX2_init 20 rfl) ?_
  refine wg_aload_n C (dget kX2_init 21 rfl) 0 rfl ?_
  refine wg_bipush (v := 24) C (dget kX2_init 22 rfl) (by decide) ?_
  refine wx_newI (N := 24) C (by decide) (by decide) (by decide) (Nat.le_of_ble_eq_true rfl) (Nat.le_of_ble_eq_true rfl) (dget kX2_init 23 rfl) (fun q7 => ?_)
  refine wg_putF C hin fl_X2_32 rfl (by first | rfl | decide) rfl (Nat.le_of_ble_eq_true rfl) (dget kX2_init 24 rfl) ?_
  refine wg_aload_n C (dget kX2_init 25 rfl) 0 rfl ?_
  refine wg_bipush (v := 24) C (dget kX2_init 26 rfl) (by decide) ?_
  refine wx_newL (N := 24) C (by decide) (by decide) (by decide) (Nat.le_of_ble_eq_true rfl) (Nat.le_of_ble_eq_true rfl) (dget kX2_init 27 rfl) (fun q8 => ?_)
  refine wg_putF C hin fl_X2_35 rfl (by first | rfl | decide) rfl (Nat.le_of_ble_eq_true rfl) (dget kX2_init 28 rfl) ?_
  refine wg_aload_n C (dget kX2_init 29 rfl) 0 rfl ?_
  refine wg_bipush (v := 12) C (dget kX2_init 30 rfl) (by decide) ?_
  refine wx_newI (N := 12) C (by decide) (by decide) (by decide) (Nat.le_of_ble_eq_true rfl) (Nat.le_of_ble_eq_true rfl) (dget kX2_init 31 rfl) (fun q9 => ?_)
  refine wg_putF C hin fl_X2_39 rfl (by first | rfl | decide) rfl (Nat.le_of_ble_eq_true rfl) (dget kX2_init 32 rfl) ?_
  refine wg_aload_n C (dget kX2_init 33 rfl) 0 rfl ?_
  refine wg_bipush (v := 12) C (dget kX2_init 34 rfl) (by decide) ?_
  refine wx_newI (N := 12) C (by decide) (by decide) (by decide) (Nat.le_of_ble_eq_true rfl) (Nat.le_of_ble_eq_true rfl) (dget kX2_init 35 rfl) (fun q10 => ?_)
  refine wg_putF C hin fl_X2_42 rfl (by first | rfl | decide) rfl (Nat.le_of_ble_eq_true rfl) (dget kX2_init 36 rfl) ?_
  refine wg_aload_n C (dget kX2_init 37 rfl) 0 rfl ?_
  refine wg_bipush (v := 24) C (dget kX2_init 38 rfl) (by decide) ?_
  refine wx_newI (N := 24) C (by decide) (by decide) (by decide) (Nat.le_of_ble_eq_true rfl) (Nat.le_of_ble_eq_true rfl) (dget kX2_init 39 rfl) (fun q11 => ?_)
  refine wg_putF C hin fl_X2_45 rfl (by first | rfl | decide) rfl (Nat.le_of_ble_eq_true rfl) (dget kX2_init 40 rfl) ?_
  refine wg_aload_n C (dget kX2_init 41 rfl) 0 rfl ?_
  refine wg_aload_n C (dget kX2_init 42 rfl) 1 rfl ?_
  refine wg_putF C hin fl_X2_48 rfl (by first | rfl | decide) rfl (Nat.le_of_ble_eq_true rfl) (dget kX2_init 43 rfl) ?_
  refine wg_aload_n C (dget kX2_init 44 rfl) 0 rfl ?_
  refine wg_aload_n C (dget kX2_init 45 rfl) 2 rfl ?_
  refine wg_put C fl_X2_52 (by first | rfl | decide) rfl (Nat.le_of_ble_eq_true rfl) (dget kX2_init 46 rfl) ?_
  exact wg_vret C hr hlk (dget kX2_init 47 rfl) (Nat.le_of_ble_eq_true rfl) (Nat.le_of_ble_eq_true rfl) ⟨q1, q2, q3, q4, q5, q6, q7, q8, q9, q10, q11, rfl⟩
