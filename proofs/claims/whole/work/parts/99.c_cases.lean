/-! ===== the law's cases ===== -/
theorem wl_st {p : Program} {l : Launch} {e : Env} {R : Room} {s : State} {m : MethodId} {args : Array Value} {below : List Frame} {meth : Method} {c : Code} {D : DT} {A : Nat → Prop} {nl : Nat} {Z : State → Prop} {pc : Nat} {lv : List (Nat × Value)} {st st' : List Value} {ws : va_W} {ck cn : Nat} (h : st = st') (k : WG p l e R s m args below meth c D A nl Z pc lv st' ws ck cn) : WG p l e R s m args below meth c D A nl Z pc lv st ws ck cn := by rw [h]; exact k
section LAWC
variable {p : Program} {l : Launch} {e : Env} {s : State} {m : MethodId} {below : List Frame} {meth : Method} {c : Code} {G : GT} {b L i : Nat} {xs : Nat → Int32} {σ : Hp}
/-- what stays in the law behind the constructors -/
def LWc (G : GT) (p : Program) (s : State) (m : MethodId) (c : Code) (b L : Nat) (xs : Nat → Int32) : Prop := CG G.2 p s m c code 4 R_law (fun q => s.heap.size ≤ q) ∧ Ctx G s ∧ (∀ q, AA G q → s.heap.size ≤ q) ∧ va_X b L xs s s.heap ∧ b < s.heap.size ∧ L ≤ 3072
theorem lwc_0 (W0 : LWc G p s m c b L xs) (hi : i + 6 ≤ L) (hI : Inv σ) (nx : ∀ τ, Inv τ → WG p l e room_1 s m #[Value.ref b] below meth c G.2 (fun q => s.heap.size ≤ q) 4 (lw_Z below #[Value.ref b] s) 1326 [(0, .ref b), (1, .ref (G.1 0)), (2, .ref (G.1 71)), (3, .int (nI i))] [] (wl G τ) 600000 7302250) : WG p l e room_1 s m #[Value.ref b] below meth c G.2 (fun q => s.heap.size ≤ q) 4 (lw_Z below #[Value.ref b] s) 200 [(0, .ref b), (1, .ref (G.1 0)), (2, .ref (G.1 71)), (3, .int (nI i))] [] (wl G σ) 600000 7302250 := by
  obtain ⟨C, hX, hG, hs, hbl, hL⟩ := W0
  refine wg_aload_n C (dget kLaw0 22 rfl) 1 rfl ?_
  refine wg_aload_n C (dget kLaw0 23 rfl) 0 rfl ?_
  refine wg_iload_n C (dget kLaw0 24 rfl) 3 rfl ?_
  refine wg_iconst (v := nI 1) C (dget kLaw0 25 rfl) (by decide) ?_
  refine wg_iadd C (dget kLaw0 26 rfl) ?_
  refine wg_sld C hs hbl (vin_law 1 (by omega) hL) (dget kLaw0 27 rfl) ?_
  refine wg_aload_n C (dget kLaw0 28 rfl) 0 rfl ?_
  refine wg_iload_n C (dget kLaw0 29 rfl) 3 rfl ?_
  refine wg_iconst (v := nI 2) C (dget kLaw0 30 rfl) (by decide) ?_
  refine wg_iadd C (dget kLaw0 31 rfl) ?_
  refine wg_sld C hs hbl (vin_law 2 (by omega) hL) (dget kLaw0 32 rfl) ?_
  refine wg_callV (Mc := mX8_type) (o := 0) (ci := 8) (As := [.int (xs (nI i + nI 1).toNatClampNeg), .int (xs (nI i + nI 2).toNatClampNeg)]) (rest := []) C hX hG cfL_13 cv_X8_type rfl rfl ⟨(Nat.le_of_ble_eq_true rfl), (Nat.le_of_ble_eq_true rfl)⟩ rfl rfl (Nat.le_of_ble_eq_true rfl) ⟨(Nat.le_of_ble_eq_true rfl), (Nat.le_of_ble_eq_true rfl)⟩ (dget kLaw0 33 rfl) (tX8_type (st_type hI (post := fun a b τ => a = b ∧ Inv τ) (fun a τ h => ⟨rfl, h⟩))) (fun v τ1 hv => ?_)
  obtain ⟨r1, rfl, hq1⟩ := hv
  refine wl_st (st' := [.int r1]) rfl ?_
  refine wg_aload_n C (dget kLaw0 34 rfl) 2 rfl ?_
  refine wg_aload_n C (dget kLaw0 35 rfl) 0 rfl ?_
  refine wg_iload_n C (dget kLaw0 36 rfl) 3 rfl ?_
  refine wg_iconst (v := nI 1) C (dget kLaw0 37 rfl) (by decide) ?_
  refine wg_iadd C (dget kLaw0 38 rfl) ?_
  refine wg_sld C hs hbl (vin_law 1 (by omega) hL) (dget kLaw0 39 rfl) ?_
  refine wg_aload_n C (dget kLaw0 40 rfl) 0 rfl ?_
  refine wg_iload_n C (dget kLaw0 41 rfl) 3 rfl ?_
  refine wg_iconst (v := nI 2) C (dget kLaw0 42 rfl) (by decide) ?_
  refine wg_iadd C (dget kLaw0 43 rfl) ?_
  refine wg_sld C hs hbl (vin_law 2 (by omega) hL) (dget kLaw0 44 rfl) ?_
  refine wg_callV (Mc := mX9_type) (o := 71) (ci := 9) (As := [.int (xs (nI i + nI 1).toNatClampNeg), .int (xs (nI i + nI 2).toNatClampNeg)]) (rest := [.int r1]) C hX hG cfL_17 cv_X9_type rfl rfl ⟨(Nat.le_of_ble_eq_true rfl), (Nat.le_of_ble_eq_true rfl)⟩ rfl rfl (Nat.le_of_ble_eq_true rfl) ⟨(Nat.le_of_ble_eq_true rfl), (Nat.le_of_ble_eq_true rfl)⟩ (dget kLaw0 45 rfl) (tX9_type hq1) (fun v τ2 hv => ?_)
  obtain ⟨r2, rfl, hq2⟩ := hv
  refine wl_st (st' := [.int r2, .int r1]) rfl ?_
  exact wg_icmp_eq (tgt := 1326) C (dget kLaw0 46 rfl) (by decide) (fun _ => nx τ2 hq2.2) (fun h => absurd hq2.1 h)
theorem lwc_1 (W0 : LWc G p s m c b L xs) (hi : i + 6 ≤ L) (hI : Inv σ) (nx : ∀ τ, Inv τ → WG p l e room_1 s m #[Value.ref b] below meth c G.2 (fun q => s.heap.size ≤ q) 4 (lw_Z below #[Value.ref b] s) 1326 [(0, .ref b), (1, .ref (G.1 0)), (2, .ref (G.1 71)), (3, .int (nI i))] [] (wl G τ) 600000 7302250) : WG p l e room_1 s m #[Value.ref b] below meth c G.2 (fun q => s.heap.size ≤ q) 4 (lw_Z below #[Value.ref b] s) 233 [(0, .ref b), (1, .ref (G.1 0)), (2, .ref (G.1 71)), (3, .int (nI i))] [] (wl G σ) 600000 7302250 := by
  obtain ⟨C, hX, hG, hs, hbl, hL⟩ := W0
  refine wg_aload_n C (dget kLaw0 49 rfl) 1 rfl ?_
  refine wg_aload_n C (dget kLaw0 50 rfl) 0 rfl ?_
  refine wg_iload_n C (dget kLaw0 51 rfl) 3 rfl ?_
  refine wg_iconst (v := nI 1) C (dget kLaw0 52 rfl) (by decide) ?_
  refine wg_iadd C (dget kLaw0 53 rfl) ?_
  refine wg_sld C hs hbl (vin_law 1 (by omega) hL) (dget kLaw0 54 rfl) ?_
  refine wg_callV (Mc := mX8_wipe) (o := 0) (ci := 8) (As := [.int (xs (nI i + nI 1).toNatClampNeg)]) (rest := []) C hX hG cfL_18 cv_X8_wipe rfl rfl ⟨(Nat.le_of_ble_eq_true rfl), (Nat.le_of_ble_eq_true rfl)⟩ rfl rfl (Nat.le_of_ble_eq_true rfl) ⟨(Nat.le_of_ble_eq_true rfl), (Nat.le_of_ble_eq_true rfl)⟩ (dget kLaw0 55 rfl) (tX8_wipe (st_wipe hI (post := fun a b τ => a = b ∧ Inv τ) (fun a τ h => ⟨rfl, h⟩))) (fun v τ1 hv => ?_)
  obtain ⟨r1, rfl, hq1⟩ := hv
  refine wl_st (st' := [.int r1]) rfl ?_
  refine wg_aload_n C (dget kLaw0 56 rfl) 2 rfl ?_
  refine wg_aload_n C (dget kLaw0 57 rfl) 0 rfl ?_
  refine wg_iload_n C (dget kLaw0 58 rfl) 3 rfl ?_
  refine wg_iconst (v := nI 1) C (dget kLaw0 59 rfl) (by decide) ?_
  refine wg_iadd C (dget kLaw0 60 rfl) ?_
  refine wg_sld C hs hbl (vin_law 1 (by omega) hL) (dget kLaw0 61 rfl) ?_
  refine wg_callV (Mc := mX9_wipe) (o := 71) (ci := 9) (As := [.int (xs (nI i + nI 1).toNatClampNeg)]) (rest := [.int r1]) C hX hG cfL_22 cv_X9_wipe rfl rfl ⟨(Nat.le_of_ble_eq_true rfl), (Nat.le_of_ble_eq_true rfl)⟩ rfl rfl (Nat.le_of_ble_eq_true rfl) ⟨(Nat.le_of_ble_eq_true rfl), (Nat.le_of_ble_eq_true rfl)⟩ (dget kLaw0 62 rfl) (tX9_wipe hq1) (fun v τ2 hv => ?_)
  obtain ⟨r2, rfl, hq2⟩ := hv
  refine wl_st (st' := [.int r2, .int r1]) rfl ?_
  exact wg_icmp_eq (tgt := 1326) C (dget kLaw0 63 rfl) (by decide) (fun _ => nx τ2 hq2.2) (fun h => absurd hq2.1 h)
theorem lwc_2 (W0 : LWc G p s m c b L xs) (hi : i + 6 ≤ L) (hI : Inv σ) (nx : ∀ τ, Inv τ → WG p l e room_1 s m #[Value.ref b] below meth c G.2 (fun q => s.heap.size ≤ q) 4 (lw_Z below #[Value.ref b] s) 1326 [(0, .ref b), (1, .ref (G.1 0)), (2, .ref (G.1 71)), (3, .int (nI i))] [] (wl G τ) 600000 7302250) : WG p l e room_1 s m #[Value.ref b] below meth c G.2 (fun q => s.heap.size ≤ q) 4 (lw_Z below #[Value.ref b] s) 256 [(0, .ref b), (1, .ref (G.1 0)), (2, .ref (G.1 71)), (3, .int (nI i))] [] (wl G σ) 600000 7302250 := by
  obtain ⟨C, hX, hG, hs, hbl, hL⟩ := W0
  refine wg_aload_n C (dget kLaw0 66 rfl) 1 rfl ?_
  refine wg_aload_n C (dget kLaw0 67 rfl) 0 rfl ?_
  refine wg_iload_n C (dget kLaw0 68 rfl) 3 rfl ?_
  refine wg_iconst (v := nI 1) C (dget kLaw0 69 rfl) (by decide) ?_
  refine wg_iadd C (dget kLaw0 70 rfl) ?_
  refine wg_sld C hs hbl (vin_law 1 (by omega) hL) (dget kLaw0 71 rfl) ?_
  refine wg_callV (Mc := mX8_undo) (o := 0) (ci := 8) (As := [.int (xs (nI i + nI 1).toNatClampNeg)]) (rest := []) C hX hG cfL_23 cv_X8_undo rfl rfl ⟨(Nat.le_of_ble_eq_true rfl), (Nat.le_of_ble_eq_true rfl)⟩ rfl rfl (Nat.le_of_ble_eq_true rfl) ⟨(Nat.le_of_ble_eq_true rfl), (Nat.le_of_ble_eq_true rfl)⟩ (dget kLaw0 72 rfl) (tX8_undo (st_undo hI (post := fun a b τ => a = b ∧ Inv τ) (fun a τ h => ⟨rfl, h⟩))) (fun v τ1 hv => ?_)
  obtain ⟨r1, rfl, hq1⟩ := hv
  refine wl_st (st' := [.int r1]) rfl ?_
  refine wg_aload_n C (dget kLaw0 73 rfl) 2 rfl ?_
  refine wg_aload_n C (dget kLaw0 74 rfl) 0 rfl ?_
  refine wg_iload_n C (dget kLaw0 75 rfl) 3 rfl ?_
  refine wg_iconst (v := nI 1) C (dget kLaw0 76 rfl) (by decide) ?_
  refine wg_iadd C (dget kLaw0 77 rfl) ?_
  refine wg_sld C hs hbl (vin_law 1 (by omega) hL) (dget kLaw0 78 rfl) ?_
  refine wg_callV (Mc := mX9_undo) (o := 71) (ci := 9) (As := [.int (xs (nI i + nI 1).toNatClampNeg)]) (rest := [.int r1]) C hX hG cfL_26 cv_X9_undo rfl rfl ⟨(Nat.le_of_ble_eq_true rfl), (Nat.le_of_ble_eq_true rfl)⟩ rfl rfl (Nat.le_of_ble_eq_true rfl) ⟨(Nat.le_of_ble_eq_true rfl), (Nat.le_of_ble_eq_true rfl)⟩ (dget kLaw0 79 rfl) (tX9_undo hq1) (fun v τ2 hv => ?_)
  obtain ⟨r2, rfl, hq2⟩ := hv
  refine wl_st (st' := [.int r2, .int r1]) rfl ?_
  exact wg_icmp_eq (tgt := 1326) C (dget kLaw0 80 rfl) (by decide) (fun _ => nx τ2 hq2.2) (fun h => absurd hq2.1 h)
theorem lwc_3 (W0 : LWc G p s m c b L xs) (hi : i + 6 ≤ L) (hI : Inv σ) (nx : ∀ τ, Inv τ → WG p l e room_1 s m #[Value.ref b] below meth c G.2 (fun q => s.heap.size ≤ q) 4 (lw_Z below #[Value.ref b] s) 1326 [(0, .ref b), (1, .ref (G.1 0)), (2, .ref (G.1 71)), (3, .int (nI i))] [] (wl G τ) 600000 7302250) : WG p l e room_1 s m #[Value.ref b] below meth c G.2 (fun q => s.heap.size ≤ q) 4 (lw_Z below #[Value.ref b] s) 279 [(0, .ref b), (1, .ref (G.1 0)), (2, .ref (G.1 71)), (3, .int (nI i))] [] (wl G σ) 600000 7302250 := by
  obtain ⟨C, hX, hG, hs, hbl, hL⟩ := W0
  refine wg_aload_n C (dget kLaw0 83 rfl) 1 rfl ?_
  refine wg_aload_n C (dget kLaw0 84 rfl) 0 rfl ?_
  refine wg_iload_n C (dget kLaw0 85 rfl) 3 rfl ?_
  refine wg_iconst (v := nI 1) C (dget kLaw0 86 rfl) (by decide) ?_
  refine wg_iadd C (dget kLaw0 87 rfl) ?_
  refine wg_sld C hs hbl (vin_law 1 (by omega) hL) (dget kLaw0 88 rfl) ?_
  refine wg_callV (Mc := mX8_fault) (o := 0) (ci := 8) (As := [.int (xs (nI i + nI 1).toNatClampNeg)]) (rest := []) C hX hG cfL_27 cv_X8_fault rfl rfl ⟨(Nat.le_of_ble_eq_true rfl), (Nat.le_of_ble_eq_true rfl)⟩ rfl rfl (Nat.le_of_ble_eq_true rfl) ⟨(Nat.le_of_ble_eq_true rfl), (Nat.le_of_ble_eq_true rfl)⟩ (dget kLaw0 89 rfl) (tX8_fault (st_fault hI (post := fun a b τ => a = b ∧ Inv τ) (fun a τ h => ⟨rfl, h⟩))) (fun v τ1 hv => ?_)
  obtain ⟨r1, rfl, hq1⟩ := hv
  refine wl_st (st' := [.int r1]) rfl ?_
  refine wg_aload_n C (dget kLaw0 90 rfl) 2 rfl ?_
  refine wg_aload_n C (dget kLaw0 91 rfl) 0 rfl ?_
  refine wg_iload_n C (dget kLaw0 92 rfl) 3 rfl ?_
  refine wg_iconst (v := nI 1) C (dget kLaw0 93 rfl) (by decide) ?_
  refine wg_iadd C (dget kLaw0 94 rfl) ?_
  refine wg_sld C hs hbl (vin_law 1 (by omega) hL) (dget kLaw0 95 rfl) ?_
  refine wg_callV (Mc := mX9_fault) (o := 71) (ci := 9) (As := [.int (xs (nI i + nI 1).toNatClampNeg)]) (rest := [.int r1]) C hX hG cfL_30 cv_X9_fault rfl rfl ⟨(Nat.le_of_ble_eq_true rfl), (Nat.le_of_ble_eq_true rfl)⟩ rfl rfl (Nat.le_of_ble_eq_true rfl) ⟨(Nat.le_of_ble_eq_true rfl), (Nat.le_of_ble_eq_true rfl)⟩ (dget kLaw0 96 rfl) (tX9_fault hq1) (fun v τ2 hv => ?_)
  obtain ⟨r2, rfl, hq2⟩ := hv
  refine wl_st (st' := [.int r2, .int r1]) rfl ?_
  exact wg_icmp_eq (tgt := 1326) C (dget kLaw0 97 rfl) (by decide) (fun _ => nx τ2 hq2.2) (fun h => absurd hq2.1 h)
theorem lwc_4 (W0 : LWc G p s m c b L xs) (hi : i + 6 ≤ L) (hI : Inv σ) (nx : ∀ τ, Inv τ → WG p l e room_1 s m #[Value.ref b] below meth c G.2 (fun q => s.heap.size ≤ q) 4 (lw_Z below #[Value.ref b] s) 1326 [(0, .ref b), (1, .ref (G.1 0)), (2, .ref (G.1 71)), (3, .int (nI i))] [] (wl G τ) 600000 7302250) : WG p l e room_1 s m #[Value.ref b] below meth c G.2 (fun q => s.heap.size ≤ q) 4 (lw_Z below #[Value.ref b] s) 302 [(0, .ref b), (1, .ref (G.1 0)), (2, .ref (G.1 71)), (3, .int (nI i))] [] (wl G σ) 600000 7302250 := by
  obtain ⟨C, hX, hG, hs, hbl, hL⟩ := W0
  refine wg_aload_n C (dget kLaw0 100 rfl) 1 rfl ?_
  refine wg_aload_n C (dget kLaw0 101 rfl) 0 rfl ?_
  refine wg_iload_n C (dget kLaw0 102 rfl) 3 rfl ?_
  refine wg_iconst (v := nI 1) C (dget kLaw0 103 rfl) (by decide) ?_
  refine wg_iadd C (dget kLaw0 104 rfl) ?_
  refine wg_sld C hs hbl (vin_law 1 (by omega) hL) (dget kLaw0 105 rfl) ?_
  refine wg_callV (Mc := mX8_chain) (o := 0) (ci := 8) (As := [.int (xs (nI i + nI 1).toNatClampNeg)]) (rest := []) C hX hG cfL_31 cv_X8_chain rfl rfl ⟨(Nat.le_of_ble_eq_true rfl), (Nat.le_of_ble_eq_true rfl)⟩ rfl rfl (Nat.le_of_ble_eq_true rfl) ⟨(Nat.le_of_ble_eq_true rfl), (Nat.le_of_ble_eq_true rfl)⟩ (dget kLaw0 106 rfl) (tX8_chain (st_chain hI (post := fun a b τ => a = b ∧ Inv τ) (fun a τ h => ⟨rfl, h⟩))) (fun v τ1 hv => ?_)
  obtain ⟨r1, rfl, hq1⟩ := hv
  refine wl_st (st' := [.int r1]) rfl ?_
  refine wg_aload_n C (dget kLaw0 107 rfl) 2 rfl ?_
  refine wg_aload_n C (dget kLaw0 108 rfl) 0 rfl ?_
  refine wg_iload_n C (dget kLaw0 109 rfl) 3 rfl ?_
  refine wg_iconst (v := nI 1) C (dget kLaw0 110 rfl) (by decide) ?_
  refine wg_iadd C (dget kLaw0 111 rfl) ?_
  refine wg_sld C hs hbl (vin_law 1 (by omega) hL) (dget kLaw0 112 rfl) ?_
  refine wg_callV (Mc := mX9_chain) (o := 71) (ci := 9) (As := [.int (xs (nI i + nI 1).toNatClampNeg)]) (rest := [.int r1]) C hX hG cfL_34 cv_X9_chain rfl rfl ⟨(Nat.le_of_ble_eq_true rfl), (Nat.le_of_ble_eq_true rfl)⟩ rfl rfl (Nat.le_of_ble_eq_true rfl) ⟨(Nat.le_of_ble_eq_true rfl), (Nat.le_of_ble_eq_true rfl)⟩ (dget kLaw0 113 rfl) (tX9_chain hq1) (fun v τ2 hv => ?_)
  obtain ⟨r2, rfl, hq2⟩ := hv
  refine wl_st (st' := [.int r2, .int r1]) rfl ?_
  exact wg_icmp_eq (tgt := 1326) C (dget kLaw0 114 rfl) (by decide) (fun _ => nx τ2 hq2.2) (fun h => absurd hq2.1 h)
theorem lwc_5 (W0 : LWc G p s m c b L xs) (hi : i + 6 ≤ L) (hI : Inv σ) (nx : ∀ τ, Inv τ → WG p l e room_1 s m #[Value.ref b] below meth c G.2 (fun q => s.heap.size ≤ q) 4 (lw_Z below #[Value.ref b] s) 1326 [(0, .ref b), (1, .ref (G.1 0)), (2, .ref (G.1 71)), (3, .int (nI i))] [] (wl G τ) 600000 7302250) : WG p l e room_1 s m #[Value.ref b] below meth c G.2 (fun q => s.heap.size ≤ q) 4 (lw_Z below #[Value.ref b] s) 325 [(0, .ref b), (1, .ref (G.1 0)), (2, .ref (G.1 71)), (3, .int (nI i))] [] (wl G σ) 600000 7302250 := by
  obtain ⟨C, hX, hG, hs, hbl, hL⟩ := W0
  refine wg_aload_n C (dget kLaw0 117 rfl) 1 rfl ?_
  refine wg_aload_n C (dget kLaw0 118 rfl) 0 rfl ?_
  refine wg_iload_n C (dget kLaw0 119 rfl) 3 rfl ?_
  refine wg_iconst (v := nI 1) C (dget kLaw0 120 rfl) (by decide) ?_
  refine wg_iadd C (dget kLaw0 121 rfl) ?_
  refine wg_sld C hs hbl (vin_law 1 (by omega) hL) (dget kLaw0 122 rfl) ?_
  refine wg_aload_n C (dget kLaw0 123 rfl) 0 rfl ?_
  refine wg_iload_n C (dget kLaw0 124 rfl) 3 rfl ?_
  refine wg_iconst (v := nI 2) C (dget kLaw0 125 rfl) (by decide) ?_
  refine wg_iadd C (dget kLaw0 126 rfl) ?_
  refine wg_sld C hs hbl (vin_law 2 (by omega) hL) (dget kLaw0 127 rfl) ?_
  refine wg_callV (Mc := mX8_duck) (o := 0) (ci := 8) (As := [.int (xs (nI i + nI 1).toNatClampNeg), .int (xs (nI i + nI 2).toNatClampNeg)]) (rest := []) C hX hG cfL_35 cv_X8_duck rfl rfl ⟨(Nat.le_of_ble_eq_true rfl), (Nat.le_of_ble_eq_true rfl)⟩ rfl rfl (Nat.le_of_ble_eq_true rfl) ⟨(Nat.le_of_ble_eq_true rfl), (Nat.le_of_ble_eq_true rfl)⟩ (dget kLaw0 128 rfl) (tX8_duck (st_duck hI (post := fun a b τ => a = b ∧ Inv τ) (fun a τ h => ⟨rfl, h⟩))) (fun v τ1 hv => ?_)
  obtain ⟨r1, rfl, hq1⟩ := hv
  refine wl_st (st' := [.int r1]) rfl ?_
  refine wg_aload_n C (dget kLaw0 129 rfl) 2 rfl ?_
  refine wg_aload_n C (dget kLaw0 130 rfl) 0 rfl ?_
  refine wg_iload_n C (dget kLaw0 131 rfl) 3 rfl ?_
  refine wg_iconst (v := nI 1) C (dget kLaw0 132 rfl) (by decide) ?_
  refine wg_iadd C (dget kLaw0 133 rfl) ?_
  refine wg_sld C hs hbl (vin_law 1 (by omega) hL) (dget kLaw0 134 rfl) ?_
  refine wg_aload_n C (dget kLaw0 135 rfl) 0 rfl ?_
  refine wg_iload_n C (dget kLaw0 136 rfl) 3 rfl ?_
  refine wg_iconst (v := nI 2) C (dget kLaw0 137 rfl) (by decide) ?_
  refine wg_iadd C (dget kLaw0 138 rfl) ?_
  refine wg_sld C hs hbl (vin_law 2 (by omega) hL) (dget kLaw0 139 rfl) ?_
  refine wg_callV (Mc := mX9_duck) (o := 71) (ci := 9) (As := [.int (xs (nI i + nI 1).toNatClampNeg), .int (xs (nI i + nI 2).toNatClampNeg)]) (rest := [.int r1]) C hX hG cfL_38 cv_X9_duck rfl rfl ⟨(Nat.le_of_ble_eq_true rfl), (Nat.le_of_ble_eq_true rfl)⟩ rfl rfl (Nat.le_of_ble_eq_true rfl) ⟨(Nat.le_of_ble_eq_true rfl), (Nat.le_of_ble_eq_true rfl)⟩ (dget kLaw0 140 rfl) (tX9_duck hq1) (fun v τ2 hv => ?_)
  obtain ⟨r2, rfl, hq2⟩ := hv
  refine wl_st (st' := [.int r2, .int r1]) rfl ?_
  exact wg_icmp_eq (tgt := 1326) C (dget kLaw0 141 rfl) (by decide) (fun _ => nx τ2 hq2.2) (fun h => absurd hq2.1 h)
theorem lwc_6 (W0 : LWc G p s m c b L xs) (hi : i + 6 ≤ L) (hI : Inv σ) (nx : ∀ τ, Inv τ → WG p l e room_1 s m #[Value.ref b] below meth c G.2 (fun q => s.heap.size ≤ q) 4 (lw_Z below #[Value.ref b] s) 1326 [(0, .ref b), (1, .ref (G.1 0)), (2, .ref (G.1 71)), (3, .int (nI i))] [] (wl G τ) 600000 7302250) : WG p l e room_1 s m #[Value.ref b] below meth c G.2 (fun q => s.heap.size ≤ q) 4 (lw_Z below #[Value.ref b] s) 358 [(0, .ref b), (1, .ref (G.1 0)), (2, .ref (G.1 71)), (3, .int (nI i))] [] (wl G σ) 600000 7302250 := by
  obtain ⟨C, hX, hG, hs, hbl, hL⟩ := W0
  refine wg_aload_n C (dget kLaw0 144 rfl) 1 rfl ?_
  refine wg_aload_n C (dget kLaw0 145 rfl) 0 rfl ?_
  refine wg_iload_n C (dget kLaw0 146 rfl) 3 rfl ?_
  refine wg_iconst (v := nI 1) C (dget kLaw0 147 rfl) (by decide) ?_
  refine wg_iadd C (dget kLaw0 148 rfl) ?_
  refine wg_sld C hs hbl (vin_law 1 (by omega) hL) (dget kLaw0 149 rfl) ?_
  refine wg_aload_n C (dget kLaw0 150 rfl) 0 rfl ?_
  refine wg_iload_n C (dget kLaw0 151 rfl) 3 rfl ?_
  refine wg_iconst (v := nI 2) C (dget kLaw0 152 rfl) (by decide) ?_
  refine wg_iadd C (dget kLaw0 153 rfl) ?_
  refine wg_sld C hs hbl (vin_law 2 (by omega) hL) (dget kLaw0 154 rfl) ?_
  refine wg_callV (Mc := mX8_shot) (o := 0) (ci := 8) (As := [.int (xs (nI i + nI 1).toNatClampNeg), .int (xs (nI i + nI 2).toNatClampNeg)]) (rest := []) C hX hG cfL_39 cv_X8_shot rfl rfl ⟨(Nat.le_of_ble_eq_true rfl), (Nat.le_of_ble_eq_true rfl)⟩ rfl rfl (Nat.le_of_ble_eq_true rfl) ⟨(Nat.le_of_ble_eq_true rfl), (Nat.le_of_ble_eq_true rfl)⟩ (dget kLaw0 155 rfl) (tX8_shot (st_shot hI (post := fun a b τ => a = b ∧ Inv τ) (fun a τ h => ⟨rfl, h⟩))) (fun v τ1 hv => ?_)
  obtain ⟨r1, rfl, hq1⟩ := hv
  refine wl_st (st' := [.int r1]) rfl ?_
  refine wg_aload_n C (dget kLaw0 156 rfl) 2 rfl ?_
  refine wg_aload_n C (dget kLaw0 157 rfl) 0 rfl ?_
  refine wg_iload_n C (dget kLaw0 158 rfl) 3 rfl ?_
  refine wg_iconst (v := nI 1) C (dget kLaw0 159 rfl) (by decide) ?_
  refine wg_iadd C (dget kLaw0 160 rfl) ?_
  refine wg_sld C hs hbl (vin_law 1 (by omega) hL) (dget kLaw0 161 rfl) ?_
  refine wg_aload_n C (dget kLaw0 162 rfl) 0 rfl ?_
  refine wg_iload_n C (dget kLaw0 163 rfl) 3 rfl ?_
  refine wg_iconst (v := nI 2) C (dget kLaw0 164 rfl) (by decide) ?_
  refine wg_iadd C (dget kLaw0 165 rfl) ?_
  refine wg_sld C hs hbl (vin_law 2 (by omega) hL) (dget kLaw0 166 rfl) ?_
  refine wg_callV (Mc := mX9_shot) (o := 71) (ci := 9) (As := [.int (xs (nI i + nI 1).toNatClampNeg), .int (xs (nI i + nI 2).toNatClampNeg)]) (rest := [.int r1]) C hX hG cfL_42 cv_X9_shot rfl rfl ⟨(Nat.le_of_ble_eq_true rfl), (Nat.le_of_ble_eq_true rfl)⟩ rfl rfl (Nat.le_of_ble_eq_true rfl) ⟨(Nat.le_of_ble_eq_true rfl), (Nat.le_of_ble_eq_true rfl)⟩ (dget kLaw0 167 rfl) (tX9_shot hq1) (fun v τ2 hv => ?_)
  obtain ⟨r2, rfl, hq2⟩ := hv
  refine wl_st (st' := [.int r2, .int r1]) rfl ?_
  exact wg_icmp_eq (tgt := 1326) C (dget kLaw0 168 rfl) (by decide) (fun _ => nx τ2 hq2.2) (fun h => absurd hq2.1 h)
theorem lwc_7 (W0 : LWc G p s m c b L xs) (hi : i + 6 ≤ L) (hI : Inv σ) (nx : ∀ τ, Inv τ → WG p l e room_1 s m #[Value.ref b] below meth c G.2 (fun q => s.heap.size ≤ q) 4 (lw_Z below #[Value.ref b] s) 1326 [(0, .ref b), (1, .ref (G.1 0)), (2, .ref (G.1 71)), (3, .int (nI i))] [] (wl G τ) 600000 7302250) : WG p l e room_1 s m #[Value.ref b] below meth c G.2 (fun q => s.heap.size ≤ q) 4 (lw_Z below #[Value.ref b] s) 391 [(0, .ref b), (1, .ref (G.1 0)), (2, .ref (G.1 71)), (3, .int (nI i))] [] (wl G σ) 600000 7302250 := by
  obtain ⟨C, hX, hG, hs, hbl, hL⟩ := W0
  refine wg_aload_n C (dget kLaw0 171 rfl) 1 rfl ?_
  refine wg_aload_n C (dget kLaw0 172 rfl) 0 rfl ?_
  refine wg_iload_n C (dget kLaw0 173 rfl) 3 rfl ?_
  refine wg_iconst (v := nI 1) C (dget kLaw0 174 rfl) (by decide) ?_
  refine wg_iadd C (dget kLaw0 175 rfl) ?_
  refine wg_sld C hs hbl (vin_law 1 (by omega) hL) (dget kLaw0 176 rfl) ?_
  refine wg_aload_n C (dget kLaw0 177 rfl) 0 rfl ?_
  refine wg_iload_n C (dget kLaw0 178 rfl) 3 rfl ?_
  refine wg_iconst (v := nI 2) C (dget kLaw0 179 rfl) (by decide) ?_
  refine wg_iadd C (dget kLaw0 180 rfl) ?_
  refine wg_sld C hs hbl (vin_law 2 (by omega) hL) (dget kLaw0 181 rfl) ?_
  refine wg_callV (Mc := mX8_rifle) (o := 0) (ci := 8) (As := [.int (xs (nI i + nI 1).toNatClampNeg), .int (xs (nI i + nI 2).toNatClampNeg)]) (rest := []) C hX hG cfL_43 cv_X8_rifle rfl rfl ⟨(Nat.le_of_ble_eq_true rfl), (Nat.le_of_ble_eq_true rfl)⟩ rfl rfl (Nat.le_of_ble_eq_true rfl) ⟨(Nat.le_of_ble_eq_true rfl), (Nat.le_of_ble_eq_true rfl)⟩ (dget kLaw0 182 rfl) (tX8_rifle (st_rifle hI (post := fun a b τ => a = b ∧ Inv τ) (fun a τ h => ⟨rfl, h⟩))) (fun v τ1 hv => ?_)
  obtain ⟨r1, rfl, hq1⟩ := hv
  refine wl_st (st' := [.int r1]) rfl ?_
  refine wg_aload_n C (dget kLaw0 183 rfl) 2 rfl ?_
  refine wg_aload_n C (dget kLaw0 184 rfl) 0 rfl ?_
  refine wg_iload_n C (dget kLaw0 185 rfl) 3 rfl ?_
  refine wg_iconst (v := nI 1) C (dget kLaw0 186 rfl) (by decide) ?_
  refine wg_iadd C (dget kLaw0 187 rfl) ?_
  refine wg_sld C hs hbl (vin_law 1 (by omega) hL) (dget kLaw0 188 rfl) ?_
  refine wg_aload_n C (dget kLaw0 189 rfl) 0 rfl ?_
  refine wg_iload_n C (dget kLaw0 190 rfl) 3 rfl ?_
  refine wg_iconst (v := nI 2) C (dget kLaw0 191 rfl) (by decide) ?_
  refine wg_iadd C (dget kLaw0 192 rfl) ?_
  refine wg_sld C hs hbl (vin_law 2 (by omega) hL) (dget kLaw0 193 rfl) ?_
  refine wg_callV (Mc := mX9_rifle) (o := 71) (ci := 9) (As := [.int (xs (nI i + nI 1).toNatClampNeg), .int (xs (nI i + nI 2).toNatClampNeg)]) (rest := [.int r1]) C hX hG cfL_46 cv_X9_rifle rfl rfl ⟨(Nat.le_of_ble_eq_true rfl), (Nat.le_of_ble_eq_true rfl)⟩ rfl rfl (Nat.le_of_ble_eq_true rfl) ⟨(Nat.le_of_ble_eq_true rfl), (Nat.le_of_ble_eq_true rfl)⟩ (dget kLaw0 194 rfl) (tX9_rifle hq1) (fun v τ2 hv => ?_)
  obtain ⟨r2, rfl, hq2⟩ := hv
  refine wl_st (st' := [.int r2, .int r1]) rfl ?_
  exact wg_icmp_eq (tgt := 1326) C (dget kLaw0 195 rfl) (by decide) (fun _ => nx τ2 hq2.2) (fun h => absurd hq2.1 h)
theorem lwc_8 (W0 : LWc G p s m c b L xs) (hi : i + 6 ≤ L) (hI : Inv σ) (nx : ∀ τ, Inv τ → WG p l e room_1 s m #[Value.ref b] below meth c G.2 (fun q => s.heap.size ≤ q) 4 (lw_Z below #[Value.ref b] s) 1326 [(0, .ref b), (1, .ref (G.1 0)), (2, .ref (G.1 71)), (3, .int (nI i))] [] (wl G τ) 600000 7302250) : WG p l e room_1 s m #[Value.ref b] below meth c G.2 (fun q => s.heap.size ≤ q) 4 (lw_Z below #[Value.ref b] s) 424 [(0, .ref b), (1, .ref (G.1 0)), (2, .ref (G.1 71)), (3, .int (nI i))] [] (wl G σ) 600000 7302250 := by
  obtain ⟨C, hX, hG, hs, hbl, hL⟩ := W0
  refine wg_aload_n C (dget kLaw0 198 rfl) 1 rfl ?_
  refine wg_aload_n C (dget kLaw0 199 rfl) 0 rfl ?_
  refine wg_iload_n C (dget kLaw0 200 rfl) 3 rfl ?_
  refine wg_iconst (v := nI 1) C (dget kLaw0 201 rfl) (by decide) ?_
  refine wg_iadd C (dget kLaw0 202 rfl) ?_
  refine wg_sld C hs hbl (vin_law 1 (by omega) hL) (dget kLaw0 203 rfl) ?_
  refine wg_aload_n C (dget kLaw0 204 rfl) 0 rfl ?_
  refine wg_iload_n C (dget kLaw0 205 rfl) 3 rfl ?_
  refine wg_iconst (v := nI 2) C (dget kLaw0 206 rfl) (by decide) ?_
  refine wg_iadd C (dget kLaw0 207 rfl) ?_
  refine wg_sld C hs hbl (vin_law 2 (by omega) hL) (dget kLaw0 208 rfl) ?_
  refine wg_aload_n C (dget kLaw0 209 rfl) 0 rfl ?_
  refine wg_iload_n C (dget kLaw0 210 rfl) 3 rfl ?_
  refine wg_iconst (v := nI 3) C (dget kLaw0 211 rfl) (by decide) ?_
  refine wg_iadd C (dget kLaw0 212 rfl) ?_
  refine wg_sld C hs hbl (vin_law 3 (by omega) hL) (dget kLaw0 213 rfl) ?_
  refine wg_callV (Mc := mX8_event) (o := 0) (ci := 8) (As := [.int (xs (nI i + nI 1).toNatClampNeg), .int (xs (nI i + nI 2).toNatClampNeg), .int (xs (nI i + nI 3).toNatClampNeg)]) (rest := []) C hX hG cfL_47 cv_X8_event rfl rfl ⟨(Nat.le_of_ble_eq_true rfl), (Nat.le_of_ble_eq_true rfl)⟩ rfl rfl (Nat.le_of_ble_eq_true rfl) ⟨(Nat.le_of_ble_eq_true rfl), (Nat.le_of_ble_eq_true rfl)⟩ (dget kLaw0 214 rfl) (tX8_event (st_event hI (post := fun a b τ => a = b ∧ Inv τ) (fun a τ h => ⟨rfl, h⟩))) (fun v τ1 hv => ?_)
  obtain ⟨r1, rfl, hq1⟩ := hv
  refine wl_st (st' := [.int r1]) rfl ?_
  refine wg_aload_n C (dget kLaw0 215 rfl) 2 rfl ?_
  refine wg_aload_n C (dget kLaw0 216 rfl) 0 rfl ?_
  refine wg_iload_n C (dget kLaw0 217 rfl) 3 rfl ?_
  refine wg_iconst (v := nI 1) C (dget kLaw0 218 rfl) (by decide) ?_
  refine wg_iadd C (dget kLaw0 219 rfl) ?_
  refine wg_sld C hs hbl (vin_law 1 (by omega) hL) (dget kLaw0 220 rfl) ?_
  refine wg_aload_n C (dget kLaw0 221 rfl) 0 rfl ?_
  refine wg_iload_n C (dget kLaw0 222 rfl) 3 rfl ?_
  refine wg_iconst (v := nI 2) C (dget kLaw0 223 rfl) (by decide) ?_
  refine wg_iadd C (dget kLaw0 224 rfl) ?_
  refine wg_sld C hs hbl (vin_law 2 (by omega) hL) (dget kLaw0 225 rfl) ?_
  refine wg_aload_n C (dget kLaw0 226 rfl) 0 rfl ?_
  refine wg_iload_n C (dget kLaw0 227 rfl) 3 rfl ?_
  refine wg_iconst (v := nI 3) C (dget kLaw0 228 rfl) (by decide) ?_
  refine wg_iadd C (dget kLaw0 229 rfl) ?_
  refine wg_sld C hs hbl (vin_law 3 (by omega) hL) (dget kLaw0 230 rfl) ?_
  refine wg_callV (Mc := mX9_event) (o := 71) (ci := 9) (As := [.int (xs (nI i + nI 1).toNatClampNeg), .int (xs (nI i + nI 2).toNatClampNeg), .int (xs (nI i + nI 3).toNatClampNeg)]) (rest := [.int r1]) C hX hG cfL_51 cv_X9_event rfl rfl ⟨(Nat.le_of_ble_eq_true rfl), (Nat.le_of_ble_eq_true rfl)⟩ rfl rfl (Nat.le_of_ble_eq_true rfl) ⟨(Nat.le_of_ble_eq_true rfl), (Nat.le_of_ble_eq_true rfl)⟩ (dget kLaw0 231 rfl) (tX9_event hq1) (fun v τ2 hv => ?_)
  obtain ⟨r2, rfl, hq2⟩ := hv
  refine wl_st (st' := [.int r2, .int r1]) rfl ?_
  exact wg_icmp_eq (tgt := 1326) C (dget kLaw0 232 rfl) (by decide) (fun _ => nx τ2 hq2.2) (fun h => absurd hq2.1 h)
theorem lwc_9 (W0 : LWc G p s m c b L xs) (hi : i + 6 ≤ L) (hI : Inv σ) (nx : ∀ τ, Inv τ → WG p l e room_1 s m #[Value.ref b] below meth c G.2 (fun q => s.heap.size ≤ q) 4 (lw_Z below #[Value.ref b] s) 1326 [(0, .ref b), (1, .ref (G.1 0)), (2, .ref (G.1 71)), (3, .int (nI i))] [] (wl G τ) 600000 7302250) : WG p l e room_1 s m #[Value.ref b] below meth c G.2 (fun q => s.heap.size ≤ q) 4 (lw_Z below #[Value.ref b] s) 467 [(0, .ref b), (1, .ref (G.1 0)), (2, .ref (G.1 71)), (3, .int (nI i))] [] (wl G σ) 600000 7302250 := by
  obtain ⟨C, hX, hG, hs, hbl, hL⟩ := W0
  refine wg_aload_n C (dget kLaw0 235 rfl) 1 rfl ?_
  refine wg_callV (Mc := mX8_back) (o := 0) (ci := 8) (As := []) (rest := []) C hX hG cfL_52 cv_X8_back rfl rfl ⟨(Nat.le_of_ble_eq_true rfl), (Nat.le_of_ble_eq_true rfl)⟩ rfl rfl (Nat.le_of_ble_eq_true rfl) ⟨(Nat.le_of_ble_eq_true rfl), (Nat.le_of_ble_eq_true rfl)⟩ (dget kLaw0 236 rfl) (tX8_back (st_back hI (post := fun a b τ => a = b ∧ Inv τ) (fun a τ h => ⟨rfl, h⟩))) (fun v τ1 hv => ?_)
  obtain ⟨r1, rfl, hq1⟩ := hv
  refine wl_st (st' := [.int r1]) rfl ?_
  refine wg_aload_n C (dget kLaw0 237 rfl) 2 rfl ?_
  refine wg_callV (Mc := mX9_back) (o := 71) (ci := 9) (As := []) (rest := [.int r1]) C hX hG cfL_56 cv_X9_back rfl rfl ⟨(Nat.le_of_ble_eq_true rfl), (Nat.le_of_ble_eq_true rfl)⟩ rfl rfl (Nat.le_of_ble_eq_true rfl) ⟨(Nat.le_of_ble_eq_true rfl), (Nat.le_of_ble_eq_true rfl)⟩ (dget kLaw0 238 rfl) (tX9_back hq1) (fun v τ2 hv => ?_)
  obtain ⟨r2, rfl, hq2⟩ := hv
  refine wl_st (st' := [.int r2, .int r1]) rfl ?_
  exact wg_icmp_eq (tgt := 1326) C (dget kLaw0 239 rfl) (by decide) (fun _ => nx τ2 hq2.2) (fun h => absurd hq2.1 h)
theorem lwc_10 (W0 : LWc G p s m c b L xs) (hi : i + 6 ≤ L) (hI : Inv σ) (nx : ∀ τ, Inv τ → WG p l e room_1 s m #[Value.ref b] below meth c G.2 (fun q => s.heap.size ≤ q) 4 (lw_Z below #[Value.ref b] s) 1326 [(0, .ref b), (1, .ref (G.1 0)), (2, .ref (G.1 71)), (3, .int (nI i))] [] (wl G τ) 600000 7302250) : WG p l e room_1 s m #[Value.ref b] below meth c G.2 (fun q => s.heap.size ≤ q) 4 (lw_Z below #[Value.ref b] s) 480 [(0, .ref b), (1, .ref (G.1 0)), (2, .ref (G.1 71)), (3, .int (nI i))] [] (wl G σ) 600000 7302250 := by
  obtain ⟨C, hX, hG, hs, hbl, hL⟩ := W0
  refine wg_aload_n C (dget kLaw0 242 rfl) 1 rfl ?_
  refine wg_aload_n C (dget kLaw0 243 rfl) 0 rfl ?_
  refine wg_iload_n C (dget kLaw0 244 rfl) 3 rfl ?_
  refine wg_iconst (v := nI 1) C (dget kLaw0 245 rfl) (by decide) ?_
  refine wg_iadd C (dget kLaw0 246 rfl) ?_
  refine wg_sld C hs hbl (vin_law 1 (by omega) hL) (dget kLaw0 247 rfl) ?_
  refine wg_callV (Mc := mX8_read) (o := 0) (ci := 8) (As := [.int (xs (nI i + nI 1).toNatClampNeg)]) (rest := []) C hX hG cfL_57 cv_X8_read rfl rfl ⟨(Nat.le_of_ble_eq_true rfl), (Nat.le_of_ble_eq_true rfl)⟩ rfl rfl (Nat.le_of_ble_eq_true rfl) ⟨(Nat.le_of_ble_eq_true rfl), (Nat.le_of_ble_eq_true rfl)⟩ (dget kLaw0 248 rfl) (tX8_read (st_read hI (post := fun a b τ => a = b ∧ Inv τ) (fun a τ h => ⟨rfl, h⟩))) (fun v τ1 hv => ?_)
  obtain ⟨r1, rfl, hq1⟩ := hv
  refine wl_st (st' := [.int r1]) rfl ?_
  refine wg_aload_n C (dget kLaw0 249 rfl) 2 rfl ?_
  refine wg_aload_n C (dget kLaw1 0 rfl) 0 rfl ?_
  refine wg_iload_n C (dget kLaw1 1 rfl) 3 rfl ?_
  refine wg_iconst (v := nI 1) C (dget kLaw1 2 rfl) (by decide) ?_
  refine wg_iadd C (dget kLaw1 3 rfl) ?_
  refine wg_sld C hs hbl (vin_law 1 (by omega) hL) (dget kLaw1 4 rfl) ?_
  refine wg_callV (Mc := mX9_read) (o := 71) (ci := 9) (As := [.int (xs (nI i + nI 1).toNatClampNeg)]) (rest := [.int r1]) C hX hG cfL_60 cv_X9_read rfl rfl ⟨(Nat.le_of_ble_eq_true rfl), (Nat.le_of_ble_eq_true rfl)⟩ rfl rfl (Nat.le_of_ble_eq_true rfl) ⟨(Nat.le_of_ble_eq_true rfl), (Nat.le_of_ble_eq_true rfl)⟩ (dget kLaw1 5 rfl) (tX9_read hq1) (fun v τ2 hv => ?_)
  obtain ⟨r2, rfl, hq2⟩ := hv
  refine wl_st (st' := [.int r2, .int r1]) rfl ?_
  exact wg_icmp_eq (tgt := 1326) C (dget kLaw1 6 rfl) (by decide) (fun _ => nx τ2 hq2.2) (fun h => absurd hq2.1 h)
theorem lwc_11 (W0 : LWc G p s m c b L xs) (hi : i + 6 ≤ L) (hI : Inv σ) (nx : ∀ τ, Inv τ → WG p l e room_1 s m #[Value.ref b] below meth c G.2 (fun q => s.heap.size ≤ q) 4 (lw_Z below #[Value.ref b] s) 1326 [(0, .ref b), (1, .ref (G.1 0)), (2, .ref (G.1 71)), (3, .int (nI i))] [] (wl G τ) 600000 7302250) : WG p l e room_1 s m #[Value.ref b] below meth c G.2 (fun q => s.heap.size ≤ q) 4 (lw_Z below #[Value.ref b] s) 503 [(0, .ref b), (1, .ref (G.1 0)), (2, .ref (G.1 71)), (3, .int (nI i))] [] (wl G σ) 600000 7302250 := by
  obtain ⟨C, hX, hG, hs, hbl, hL⟩ := W0
  refine wg_aload_n C (dget kLaw1 9 rfl) 1 rfl ?_
  refine wg_aload_n C (dget kLaw1 10 rfl) 0 rfl ?_
  refine wg_iload_n C (dget kLaw1 11 rfl) 3 rfl ?_
  refine wg_iconst (v := nI 1) C (dget kLaw1 12 rfl) (by decide) ?_
  refine wg_iadd C (dget kLaw1 13 rfl) ?_
  refine wg_sld C hs hbl (vin_law 1 (by omega) hL) (dget kLaw1 14 rfl) ?_
  refine wg_aload_n C (dget kLaw1 15 rfl) 0 rfl ?_
  refine wg_iload_n C (dget kLaw1 16 rfl) 3 rfl ?_
  refine wg_iconst (v := nI 2) C (dget kLaw1 17 rfl) (by decide) ?_
  refine wg_iadd C (dget kLaw1 18 rfl) ?_
  refine wg_sld C hs hbl (vin_law 2 (by omega) hL) (dget kLaw1 19 rfl) ?_
  refine wg_aload_n C (dget kLaw1 20 rfl) 0 rfl ?_
  refine wg_iload_n C (dget kLaw1 21 rfl) 3 rfl ?_
  refine wg_iconst (v := nI 3) C (dget kLaw1 22 rfl) (by decide) ?_
  refine wg_iadd C (dget kLaw1 23 rfl) ?_
  refine wg_sld C hs hbl (vin_law 3 (by omega) hL) (dget kLaw1 24 rfl) ?_
  refine wg_callV (Mc := mX8_at) (o := 0) (ci := 8) (As := [.int (xs (nI i + nI 1).toNatClampNeg), .int (xs (nI i + nI 2).toNatClampNeg), .int (xs (nI i + nI 3).toNatClampNeg)]) (rest := []) C hX hG cfL_61 cv_X8_at rfl rfl ⟨(Nat.le_of_ble_eq_true rfl), (Nat.le_of_ble_eq_true rfl)⟩ rfl rfl (Nat.le_of_ble_eq_true rfl) ⟨(Nat.le_of_ble_eq_true rfl), (Nat.le_of_ble_eq_true rfl)⟩ (dget kLaw1 25 rfl) (tX8_at (st_at hI (post := fun a b τ => a = b ∧ Inv τ) (fun a τ h => ⟨rfl, h⟩))) (fun v τ1 hv => ?_)
  obtain ⟨r1, rfl, hq1⟩ := hv
  refine wl_st (st' := [.int r1]) rfl ?_
  refine wg_aload_n C (dget kLaw1 26 rfl) 2 rfl ?_
  refine wg_aload_n C (dget kLaw1 27 rfl) 0 rfl ?_
  refine wg_iload_n C (dget kLaw1 28 rfl) 3 rfl ?_
  refine wg_iconst (v := nI 1) C (dget kLaw1 29 rfl) (by decide) ?_
  refine wg_iadd C (dget kLaw1 30 rfl) ?_
  refine wg_sld C hs hbl (vin_law 1 (by omega) hL) (dget kLaw1 31 rfl) ?_
  refine wg_aload_n C (dget kLaw1 32 rfl) 0 rfl ?_
  refine wg_iload_n C (dget kLaw1 33 rfl) 3 rfl ?_
  refine wg_iconst (v := nI 2) C (dget kLaw1 34 rfl) (by decide) ?_
  refine wg_iadd C (dget kLaw1 35 rfl) ?_
  refine wg_sld C hs hbl (vin_law 2 (by omega) hL) (dget kLaw1 36 rfl) ?_
  refine wg_aload_n C (dget kLaw1 37 rfl) 0 rfl ?_
  refine wg_iload_n C (dget kLaw1 38 rfl) 3 rfl ?_
  refine wg_iconst (v := nI 3) C (dget kLaw1 39 rfl) (by decide) ?_
  refine wg_iadd C (dget kLaw1 40 rfl) ?_
  refine wg_sld C hs hbl (vin_law 3 (by omega) hL) (dget kLaw1 41 rfl) ?_
  refine wg_callV (Mc := mX9_at) (o := 71) (ci := 9) (As := [.int (xs (nI i + nI 1).toNatClampNeg), .int (xs (nI i + nI 2).toNatClampNeg), .int (xs (nI i + nI 3).toNatClampNeg)]) (rest := [.int r1]) C hX hG cfL_64 cv_X9_at rfl rfl ⟨(Nat.le_of_ble_eq_true rfl), (Nat.le_of_ble_eq_true rfl)⟩ rfl rfl (Nat.le_of_ble_eq_true rfl) ⟨(Nat.le_of_ble_eq_true rfl), (Nat.le_of_ble_eq_true rfl)⟩ (dget kLaw1 42 rfl) (tX9_at hq1) (fun v τ2 hv => ?_)
  obtain ⟨r2, rfl, hq2⟩ := hv
  refine wl_st (st' := [.int r2, .int r1]) rfl ?_
  exact wg_icmp_eq (tgt := 1326) C (dget kLaw1 43 rfl) (by decide) (fun _ => nx τ2 hq2.2) (fun h => absurd hq2.1 h)
theorem lwc_12 (W0 : LWc G p s m c b L xs) (hi : i + 6 ≤ L) (hI : Inv σ) (nx : ∀ τ, Inv τ → WG p l e room_1 s m #[Value.ref b] below meth c G.2 (fun q => s.heap.size ≤ q) 4 (lw_Z below #[Value.ref b] s) 1326 [(0, .ref b), (1, .ref (G.1 0)), (2, .ref (G.1 71)), (3, .int (nI i))] [] (wl G τ) 600000 7302250) : WG p l e room_1 s m #[Value.ref b] below meth c G.2 (fun q => s.heap.size ≤ q) 4 (lw_Z below #[Value.ref b] s) 546 [(0, .ref b), (1, .ref (G.1 0)), (2, .ref (G.1 71)), (3, .int (nI i))] [] (wl G σ) 600000 7302250 := by
  obtain ⟨C, hX, hG, hs, hbl, hL⟩ := W0
  refine wg_aload_n C (dget kLaw1 46 rfl) 1 rfl ?_
  refine wg_aload_n C (dget kLaw1 47 rfl) 0 rfl ?_
  refine wg_iload_n C (dget kLaw1 48 rfl) 3 rfl ?_
  refine wg_iconst (v := nI 1) C (dget kLaw1 49 rfl) (by decide) ?_
  refine wg_iadd C (dget kLaw1 50 rfl) ?_
  refine wg_sld C hs hbl (vin_law 1 (by omega) hL) (dget kLaw1 51 rfl) ?_
  refine wg_aload_n C (dget kLaw1 52 rfl) 0 rfl ?_
  refine wg_iload_n C (dget kLaw1 53 rfl) 3 rfl ?_
  refine wg_iconst (v := nI 2) C (dget kLaw1 54 rfl) (by decide) ?_
  refine wg_iadd C (dget kLaw1 55 rfl) ?_
  refine wg_sld C hs hbl (vin_law 2 (by omega) hL) (dget kLaw1 56 rfl) ?_
  refine wg_aload_n C (dget kLaw1 57 rfl) 0 rfl ?_
  refine wg_iload_n C (dget kLaw1 58 rfl) 3 rfl ?_
  refine wg_iconst (v := nI 3) C (dget kLaw1 59 rfl) (by decide) ?_
  refine wg_iadd C (dget kLaw1 60 rfl) ?_
  refine wg_sld C hs hbl (vin_law 3 (by omega) hL) (dget kLaw1 61 rfl) ?_
  refine wg_callV (Mc := mX8_sees) (o := 0) (ci := 8) (As := [.int (xs (nI i + nI 1).toNatClampNeg), .int (xs (nI i + nI 2).toNatClampNeg), .int (xs (nI i + nI 3).toNatClampNeg)]) (rest := []) C hX hG cfL_65 cv_X8_sees rfl rfl ⟨(Nat.le_of_ble_eq_true rfl), (Nat.le_of_ble_eq_true rfl)⟩ rfl rfl (Nat.le_of_ble_eq_true rfl) ⟨(Nat.le_of_ble_eq_true rfl), (Nat.le_of_ble_eq_true rfl)⟩ (dget kLaw1 62 rfl) (tX8_sees (st_sees hI (post := fun a b τ => a = b ∧ Inv τ) (fun a τ h => ⟨rfl, h⟩))) (fun v τ1 hv => ?_)
  obtain ⟨r1, rfl, hq1⟩ := hv
  refine wl_st (st' := [.int r1]) rfl ?_
  refine wg_aload_n C (dget kLaw1 63 rfl) 2 rfl ?_
  refine wg_aload_n C (dget kLaw1 64 rfl) 0 rfl ?_
  refine wg_iload_n C (dget kLaw1 65 rfl) 3 rfl ?_
  refine wg_iconst (v := nI 1) C (dget kLaw1 66 rfl) (by decide) ?_
  refine wg_iadd C (dget kLaw1 67 rfl) ?_
  refine wg_sld C hs hbl (vin_law 1 (by omega) hL) (dget kLaw1 68 rfl) ?_
  refine wg_aload_n C (dget kLaw1 69 rfl) 0 rfl ?_
  refine wg_iload_n C (dget kLaw1 70 rfl) 3 rfl ?_
  refine wg_iconst (v := nI 2) C (dget kLaw1 71 rfl) (by decide) ?_
  refine wg_iadd C (dget kLaw1 72 rfl) ?_
  refine wg_sld C hs hbl (vin_law 2 (by omega) hL) (dget kLaw1 73 rfl) ?_
  refine wg_aload_n C (dget kLaw1 74 rfl) 0 rfl ?_
  refine wg_iload_n C (dget kLaw1 75 rfl) 3 rfl ?_
  refine wg_iconst (v := nI 3) C (dget kLaw1 76 rfl) (by decide) ?_
  refine wg_iadd C (dget kLaw1 77 rfl) ?_
  refine wg_sld C hs hbl (vin_law 3 (by omega) hL) (dget kLaw1 78 rfl) ?_
  refine wg_callV (Mc := mX9_sees) (o := 71) (ci := 9) (As := [.int (xs (nI i + nI 1).toNatClampNeg), .int (xs (nI i + nI 2).toNatClampNeg), .int (xs (nI i + nI 3).toNatClampNeg)]) (rest := [.int r1]) C hX hG cfL_68 cv_X9_sees rfl rfl ⟨(Nat.le_of_ble_eq_true rfl), (Nat.le_of_ble_eq_true rfl)⟩ rfl rfl (Nat.le_of_ble_eq_true rfl) ⟨(Nat.le_of_ble_eq_true rfl), (Nat.le_of_ble_eq_true rfl)⟩ (dget kLaw1 79 rfl) (tX9_sees hq1) (fun v τ2 hv => ?_)
  obtain ⟨r2, rfl, hq2⟩ := hv
  refine wl_st (st' := [.int r2, .int r1]) rfl ?_
  exact wg_icmp_eq (tgt := 1326) C (dget kLaw1 80 rfl) (by decide) (fun _ => nx τ2 hq2.2) (fun h => absurd hq2.1 h)
theorem lwc_13 (W0 : LWc G p s m c b L xs) (hi : i + 6 ≤ L) (hI : Inv σ) (nx : ∀ τ, Inv τ → WG p l e room_1 s m #[Value.ref b] below meth c G.2 (fun q => s.heap.size ≤ q) 4 (lw_Z below #[Value.ref b] s) 1326 [(0, .ref b), (1, .ref (G.1 0)), (2, .ref (G.1 71)), (3, .int (nI i))] [] (wl G τ) 600000 7302250) : WG p l e room_1 s m #[Value.ref b] below meth c G.2 (fun q => s.heap.size ≤ q) 4 (lw_Z below #[Value.ref b] s) 589 [(0, .ref b), (1, .ref (G.1 0)), (2, .ref (G.1 71)), (3, .int (nI i))] [] (wl G σ) 600000 7302250 := by
  obtain ⟨C, hX, hG, hs, hbl, hL⟩ := W0
  refine wg_aload_n C (dget kLaw1 83 rfl) 1 rfl ?_
  refine wg_aload_n C (dget kLaw1 84 rfl) 0 rfl ?_
  refine wg_iload_n C (dget kLaw1 85 rfl) 3 rfl ?_
  refine wg_iconst (v := nI 1) C (dget kLaw1 86 rfl) (by decide) ?_
  refine wg_iadd C (dget kLaw1 87 rfl) ?_
  refine wg_sld C hs hbl (vin_law 1 (by omega) hL) (dget kLaw1 88 rfl) ?_
  refine wg_callV (Mc := mX8_down) (o := 0) (ci := 8) (As := [.int (xs (nI i + nI 1).toNatClampNeg)]) (rest := []) C hX hG cfL_69 cv_X8_down rfl rfl ⟨(Nat.le_of_ble_eq_true rfl), (Nat.le_of_ble_eq_true rfl)⟩ rfl rfl (Nat.le_of_ble_eq_true rfl) ⟨(Nat.le_of_ble_eq_true rfl), (Nat.le_of_ble_eq_true rfl)⟩ (dget kLaw1 89 rfl) (tX8_down (st_down hI (post := fun a b τ => a = b ∧ Inv τ) (fun a τ h => ⟨rfl, h⟩))) (fun v τ1 hv => ?_)
  obtain ⟨r1, rfl, hq1⟩ := hv
  refine wl_st (st' := [.int r1]) rfl ?_
  refine wg_aload_n C (dget kLaw1 90 rfl) 2 rfl ?_
  refine wg_aload_n C (dget kLaw1 91 rfl) 0 rfl ?_
  refine wg_iload_n C (dget kLaw1 92 rfl) 3 rfl ?_
  refine wg_iconst (v := nI 1) C (dget kLaw1 93 rfl) (by decide) ?_
  refine wg_iadd C (dget kLaw1 94 rfl) ?_
  refine wg_sld C hs hbl (vin_law 1 (by omega) hL) (dget kLaw1 95 rfl) ?_
  refine wg_callV (Mc := mX9_down) (o := 71) (ci := 9) (As := [.int (xs (nI i + nI 1).toNatClampNeg)]) (rest := [.int r1]) C hX hG cfL_72 cv_X9_down rfl rfl ⟨(Nat.le_of_ble_eq_true rfl), (Nat.le_of_ble_eq_true rfl)⟩ rfl rfl (Nat.le_of_ble_eq_true rfl) ⟨(Nat.le_of_ble_eq_true rfl), (Nat.le_of_ble_eq_true rfl)⟩ (dget kLaw1 96 rfl) (tX9_down hq1) (fun v τ2 hv => ?_)
  obtain ⟨r2, rfl, hq2⟩ := hv
  refine wl_st (st' := [.int r2, .int r1]) rfl ?_
  exact wg_icmp_eq (tgt := 1326) C (dget kLaw1 97 rfl) (by decide) (fun _ => nx τ2 hq2.2) (fun h => absurd hq2.1 h)
theorem lwc_14 (W0 : LWc G p s m c b L xs) (hi : i + 6 ≤ L) (hI : Inv σ) (nx : ∀ τ, Inv τ → WG p l e room_1 s m #[Value.ref b] below meth c G.2 (fun q => s.heap.size ≤ q) 4 (lw_Z below #[Value.ref b] s) 1326 [(0, .ref b), (1, .ref (G.1 0)), (2, .ref (G.1 71)), (3, .int (nI i))] [] (wl G τ) 600000 7302250) : WG p l e room_1 s m #[Value.ref b] below meth c G.2 (fun q => s.heap.size ≤ q) 4 (lw_Z below #[Value.ref b] s) 612 [(0, .ref b), (1, .ref (G.1 0)), (2, .ref (G.1 71)), (3, .int (nI i))] [] (wl G σ) 600000 7302250 := by
  obtain ⟨C, hX, hG, hs, hbl, hL⟩ := W0
  refine wg_aload_n C (dget kLaw1 100 rfl) 1 rfl ?_
  refine wg_aload_n C (dget kLaw1 101 rfl) 0 rfl ?_
  refine wg_iload_n C (dget kLaw1 102 rfl) 3 rfl ?_
  refine wg_iconst (v := nI 1) C (dget kLaw1 103 rfl) (by decide) ?_
  refine wg_iadd C (dget kLaw1 104 rfl) ?_
  refine wg_sld C hs hbl (vin_law 1 (by omega) hL) (dget kLaw1 105 rfl) ?_
  refine wg_aload_n C (dget kLaw1 106 rfl) 0 rfl ?_
  refine wg_iload_n C (dget kLaw1 107 rfl) 3 rfl ?_
  refine wg_iconst (v := nI 2) C (dget kLaw1 108 rfl) (by decide) ?_
  refine wg_iadd C (dget kLaw1 109 rfl) ?_
  refine wg_sld C hs hbl (vin_law 2 (by omega) hL) (dget kLaw1 110 rfl) ?_
  refine wg_callV (Mc := mX8_hits) (o := 0) (ci := 8) (As := [.int (xs (nI i + nI 1).toNatClampNeg), .int (xs (nI i + nI 2).toNatClampNeg)]) (rest := []) C hX hG cfL_73 cv_X8_hits rfl rfl ⟨(Nat.le_of_ble_eq_true rfl), (Nat.le_of_ble_eq_true rfl)⟩ rfl rfl (Nat.le_of_ble_eq_true rfl) ⟨(Nat.le_of_ble_eq_true rfl), (Nat.le_of_ble_eq_true rfl)⟩ (dget kLaw1 111 rfl) (tX8_hits (st_hits hI (post := fun a b τ => a = b ∧ Inv τ) (fun a τ h => ⟨rfl, h⟩))) (fun v τ1 hv => ?_)
  obtain ⟨r1, rfl, hq1⟩ := hv
  refine wl_st (st' := [.int r1]) rfl ?_
  refine wg_aload_n C (dget kLaw1 112 rfl) 2 rfl ?_
  refine wg_aload_n C (dget kLaw1 113 rfl) 0 rfl ?_
  refine wg_iload_n C (dget kLaw1 114 rfl) 3 rfl ?_
  refine wg_iconst (v := nI 1) C (dget kLaw1 115 rfl) (by decide) ?_
  refine wg_iadd C (dget kLaw1 116 rfl) ?_
  refine wg_sld C hs hbl (vin_law 1 (by omega) hL) (dget kLaw1 117 rfl) ?_
  refine wg_aload_n C (dget kLaw1 118 rfl) 0 rfl ?_
  refine wg_iload_n C (dget kLaw1 119 rfl) 3 rfl ?_
  refine wg_iconst (v := nI 2) C (dget kLaw1 120 rfl) (by decide) ?_
  refine wg_iadd C (dget kLaw1 121 rfl) ?_
  refine wg_sld C hs hbl (vin_law 2 (by omega) hL) (dget kLaw1 122 rfl) ?_
  refine wg_callV (Mc := mX9_hits) (o := 71) (ci := 9) (As := [.int (xs (nI i + nI 1).toNatClampNeg), .int (xs (nI i + nI 2).toNatClampNeg)]) (rest := [.int r1]) C hX hG cfL_76 cv_X9_hits rfl rfl ⟨(Nat.le_of_ble_eq_true rfl), (Nat.le_of_ble_eq_true rfl)⟩ rfl rfl (Nat.le_of_ble_eq_true rfl) ⟨(Nat.le_of_ble_eq_true rfl), (Nat.le_of_ble_eq_true rfl)⟩ (dget kLaw1 123 rfl) (tX9_hits hq1) (fun v τ2 hv => ?_)
  obtain ⟨r2, rfl, hq2⟩ := hv
  refine wl_st (st' := [.int r2, .int r1]) rfl ?_
  exact wg_icmp_eq (tgt := 1326) C (dget kLaw1 124 rfl) (by decide) (fun _ => nx τ2 hq2.2) (fun h => absurd hq2.1 h)
theorem lwc_15 (W0 : LWc G p s m c b L xs) (hi : i + 6 ≤ L) (hI : Inv σ) (nx : ∀ τ, Inv τ → WG p l e room_1 s m #[Value.ref b] below meth c G.2 (fun q => s.heap.size ≤ q) 4 (lw_Z below #[Value.ref b] s) 1326 [(0, .ref b), (1, .ref (G.1 0)), (2, .ref (G.1 71)), (3, .int (nI i))] [] (wl G τ) 600000 7302250) : WG p l e room_1 s m #[Value.ref b] below meth c G.2 (fun q => s.heap.size ≤ q) 4 (lw_Z below #[Value.ref b] s) 645 [(0, .ref b), (1, .ref (G.1 0)), (2, .ref (G.1 71)), (3, .int (nI i))] [] (wl G σ) 600000 7302250 := by
  obtain ⟨C, hX, hG, hs, hbl, hL⟩ := W0
  refine wg_aload_n C (dget kLaw1 127 rfl) 1 rfl ?_
  refine wg_aload_n C (dget kLaw1 128 rfl) 0 rfl ?_
  refine wg_iload_n C (dget kLaw1 129 rfl) 3 rfl ?_
  refine wg_iconst (v := nI 1) C (dget kLaw1 130 rfl) (by decide) ?_
  refine wg_iadd C (dget kLaw1 131 rfl) ?_
  refine wg_sld C hs hbl (vin_law 1 (by omega) hL) (dget kLaw1 132 rfl) ?_
  refine wg_callV (Mc := mX8_sum) (o := 0) (ci := 8) (As := [.int (xs (nI i + nI 1).toNatClampNeg)]) (rest := []) C hX hG cfL_77 cv_X8_sum rfl rfl ⟨(Nat.le_of_ble_eq_true rfl), (Nat.le_of_ble_eq_true rfl)⟩ rfl rfl (Nat.le_of_ble_eq_true rfl) ⟨(Nat.le_of_ble_eq_true rfl), (Nat.le_of_ble_eq_true rfl)⟩ (dget kLaw1 133 rfl) (tX8_sum (st_sum hI (post := fun a b τ => a = b ∧ Inv τ) (fun a τ h => ⟨rfl, h⟩))) (fun v τ1 hv => ?_)
  obtain ⟨r1, rfl, hq1⟩ := hv
  refine wl_st (st' := [.int r1]) rfl ?_
  refine wg_aload_n C (dget kLaw1 134 rfl) 2 rfl ?_
  refine wg_aload_n C (dget kLaw1 135 rfl) 0 rfl ?_
  refine wg_iload_n C (dget kLaw1 136 rfl) 3 rfl ?_
  refine wg_iconst (v := nI 1) C (dget kLaw1 137 rfl) (by decide) ?_
  refine wg_iadd C (dget kLaw1 138 rfl) ?_
  refine wg_sld C hs hbl (vin_law 1 (by omega) hL) (dget kLaw1 139 rfl) ?_
  refine wg_callV (Mc := mX9_sum) (o := 71) (ci := 9) (As := [.int (xs (nI i + nI 1).toNatClampNeg)]) (rest := [.int r1]) C hX hG cfL_80 cv_X9_sum rfl rfl ⟨(Nat.le_of_ble_eq_true rfl), (Nat.le_of_ble_eq_true rfl)⟩ rfl rfl (Nat.le_of_ble_eq_true rfl) ⟨(Nat.le_of_ble_eq_true rfl), (Nat.le_of_ble_eq_true rfl)⟩ (dget kLaw1 140 rfl) (tX9_sum hq1) (fun v τ2 hv => ?_)
  obtain ⟨r2, rfl, hq2⟩ := hv
  refine wl_st (st' := [.int r2, .int r1]) rfl ?_
  exact wg_icmp_eq (tgt := 1326) C (dget kLaw1 141 rfl) (by decide) (fun _ => nx τ2 hq2.2) (fun h => absurd hq2.1 h)
theorem lwc_16 (W0 : LWc G p s m c b L xs) (hi : i + 6 ≤ L) (hI : Inv σ) (nx : ∀ τ, Inv τ → WG p l e room_1 s m #[Value.ref b] below meth c G.2 (fun q => s.heap.size ≤ q) 4 (lw_Z below #[Value.ref b] s) 1326 [(0, .ref b), (1, .ref (G.1 0)), (2, .ref (G.1 71)), (3, .int (nI i))] [] (wl G τ) 600000 7302250) : WG p l e room_1 s m #[Value.ref b] below meth c G.2 (fun q => s.heap.size ≤ q) 4 (lw_Z below #[Value.ref b] s) 668 [(0, .ref b), (1, .ref (G.1 0)), (2, .ref (G.1 71)), (3, .int (nI i))] [] (wl G σ) 600000 7302250 := by
  obtain ⟨C, hX, hG, hs, hbl, hL⟩ := W0
  refine wg_aload_n C (dget kLaw1 144 rfl) 1 rfl ?_
  refine wg_aload_n C (dget kLaw1 145 rfl) 0 rfl ?_
  refine wg_iload_n C (dget kLaw1 146 rfl) 3 rfl ?_
  refine wg_iconst (v := nI 1) C (dget kLaw1 147 rfl) (by decide) ?_
  refine wg_iadd C (dget kLaw1 148 rfl) ?_
  refine wg_sld C hs hbl (vin_law 1 (by omega) hL) (dget kLaw1 149 rfl) ?_
  refine wg_callV (Mc := mX8_run) (o := 0) (ci := 8) (As := [.int (xs (nI i + nI 1).toNatClampNeg)]) (rest := []) C hX hG cfL_81 cv_X8_run rfl rfl ⟨(Nat.le_of_ble_eq_true rfl), (Nat.le_of_ble_eq_true rfl)⟩ rfl rfl (Nat.le_of_ble_eq_true rfl) ⟨(Nat.le_of_ble_eq_true rfl), (Nat.le_of_ble_eq_true rfl)⟩ (dget kLaw1 150 rfl) (tX8_run (st_run hI (post := fun a b τ => a = b ∧ Inv τ) (fun a τ h => ⟨rfl, h⟩))) (fun v τ1 hv => ?_)
  obtain ⟨r1, rfl, hq1⟩ := hv
  refine wl_st (st' := [.int r1]) rfl ?_
  refine wg_aload_n C (dget kLaw1 151 rfl) 2 rfl ?_
  refine wg_aload_n C (dget kLaw1 152 rfl) 0 rfl ?_
  refine wg_iload_n C (dget kLaw1 153 rfl) 3 rfl ?_
  refine wg_iconst (v := nI 1) C (dget kLaw1 154 rfl) (by decide) ?_
  refine wg_iadd C (dget kLaw1 155 rfl) ?_
  refine wg_sld C hs hbl (vin_law 1 (by omega) hL) (dget kLaw1 156 rfl) ?_
  refine wg_callV (Mc := mX9_run) (o := 71) (ci := 9) (As := [.int (xs (nI i + nI 1).toNatClampNeg)]) (rest := [.int r1]) C hX hG cfL_84 cv_X9_run rfl rfl ⟨(Nat.le_of_ble_eq_true rfl), (Nat.le_of_ble_eq_true rfl)⟩ rfl rfl (Nat.le_of_ble_eq_true rfl) ⟨(Nat.le_of_ble_eq_true rfl), (Nat.le_of_ble_eq_true rfl)⟩ (dget kLaw1 157 rfl) (tX9_run hq1) (fun v τ2 hv => ?_)
  obtain ⟨r2, rfl, hq2⟩ := hv
  refine wl_st (st' := [.int r2, .int r1]) rfl ?_
  exact wg_icmp_eq (tgt := 1326) C (dget kLaw1 158 rfl) (by decide) (fun _ => nx τ2 hq2.2) (fun h => absurd hq2.1 h)
theorem lwc_17 (W0 : LWc G p s m c b L xs) (hi : i + 6 ≤ L) (hI : Inv σ) (nx : ∀ τ, Inv τ → WG p l e room_1 s m #[Value.ref b] below meth c G.2 (fun q => s.heap.size ≤ q) 4 (lw_Z below #[Value.ref b] s) 1326 [(0, .ref b), (1, .ref (G.1 0)), (2, .ref (G.1 71)), (3, .int (nI i))] [] (wl G τ) 600000 7302250) : WG p l e room_1 s m #[Value.ref b] below meth c G.2 (fun q => s.heap.size ≤ q) 4 (lw_Z below #[Value.ref b] s) 691 [(0, .ref b), (1, .ref (G.1 0)), (2, .ref (G.1 71)), (3, .int (nI i))] [] (wl G σ) 600000 7302250 := by
  obtain ⟨C, hX, hG, hs, hbl, hL⟩ := W0
  refine wg_aload_n C (dget kLaw1 161 rfl) 1 rfl ?_
  refine wg_callV (Mc := mX8_easy) (o := 0) (ci := 8) (As := []) (rest := []) C hX hG cfL_85 cv_X8_easy rfl rfl ⟨(Nat.le_of_ble_eq_true rfl), (Nat.le_of_ble_eq_true rfl)⟩ rfl rfl (Nat.le_of_ble_eq_true rfl) ⟨(Nat.le_of_ble_eq_true rfl), (Nat.le_of_ble_eq_true rfl)⟩ (dget kLaw1 162 rfl) (tX8_easy (st_easy hI (post := fun a b τ => a = b ∧ Inv τ) (fun a τ h => ⟨rfl, h⟩))) (fun v τ1 hv => ?_)
  obtain ⟨r1, rfl, hq1⟩ := hv
  refine wl_st (st' := [.int r1]) rfl ?_
  refine wg_aload_n C (dget kLaw1 163 rfl) 2 rfl ?_
  refine wg_callV (Mc := mX9_easy) (o := 71) (ci := 9) (As := []) (rest := [.int r1]) C hX hG cfL_88 cv_X9_easy rfl rfl ⟨(Nat.le_of_ble_eq_true rfl), (Nat.le_of_ble_eq_true rfl)⟩ rfl rfl (Nat.le_of_ble_eq_true rfl) ⟨(Nat.le_of_ble_eq_true rfl), (Nat.le_of_ble_eq_true rfl)⟩ (dget kLaw1 164 rfl) (tX9_easy hq1) (fun v τ2 hv => ?_)
  obtain ⟨r2, rfl, hq2⟩ := hv
  refine wl_st (st' := [.int r2, .int r1]) rfl ?_
  exact wg_icmp_eq (tgt := 1326) C (dget kLaw1 165 rfl) (by decide) (fun _ => nx τ2 hq2.2) (fun h => absurd hq2.1 h)
theorem lwc_18 (W0 : LWc G p s m c b L xs) (hi : i + 6 ≤ L) (hI : Inv σ) (nx : ∀ τ, Inv τ → WG p l e room_1 s m #[Value.ref b] below meth c G.2 (fun q => s.heap.size ≤ q) 4 (lw_Z below #[Value.ref b] s) 1326 [(0, .ref b), (1, .ref (G.1 0)), (2, .ref (G.1 71)), (3, .int (nI i))] [] (wl G τ) 600000 7302250) : WG p l e room_1 s m #[Value.ref b] below meth c G.2 (fun q => s.heap.size ≤ q) 4 (lw_Z below #[Value.ref b] s) 704 [(0, .ref b), (1, .ref (G.1 0)), (2, .ref (G.1 71)), (3, .int (nI i))] [] (wl G σ) 600000 7302250 := by
  obtain ⟨C, hX, hG, hs, hbl, hL⟩ := W0
  refine wg_aload_n C (dget kLaw1 168 rfl) 1 rfl ?_
  refine wg_callV (Mc := mX8_safe) (o := 0) (ci := 8) (As := []) (rest := []) C hX hG cfL_89 cv_X8_safe rfl rfl ⟨(Nat.le_of_ble_eq_true rfl), (Nat.le_of_ble_eq_true rfl)⟩ rfl rfl (Nat.le_of_ble_eq_true rfl) ⟨(Nat.le_of_ble_eq_true rfl), (Nat.le_of_ble_eq_true rfl)⟩ (dget kLaw1 169 rfl) (tX8_safe (st_safe hI (post := fun a b τ => a = b ∧ Inv τ) (fun a τ h => ⟨rfl, h⟩))) (fun v τ1 hv => ?_)
  obtain ⟨r1, rfl, hq1⟩ := hv
  refine wl_st (st' := [.int r1]) rfl ?_
  refine wg_aload_n C (dget kLaw1 170 rfl) 2 rfl ?_
  refine wg_callV (Mc := mX9_safe) (o := 71) (ci := 9) (As := []) (rest := [.int r1]) C hX hG cfL_92 cv_X9_safe rfl rfl ⟨(Nat.le_of_ble_eq_true rfl), (Nat.le_of_ble_eq_true rfl)⟩ rfl rfl (Nat.le_of_ble_eq_true rfl) ⟨(Nat.le_of_ble_eq_true rfl), (Nat.le_of_ble_eq_true rfl)⟩ (dget kLaw1 171 rfl) (tX9_safe hq1) (fun v τ2 hv => ?_)
  obtain ⟨r2, rfl, hq2⟩ := hv
  refine wl_st (st' := [.int r2, .int r1]) rfl ?_
  exact wg_icmp_eq (tgt := 1326) C (dget kLaw1 172 rfl) (by decide) (fun _ => nx τ2 hq2.2) (fun h => absurd hq2.1 h)
theorem lwc_19 (W0 : LWc G p s m c b L xs) (hi : i + 6 ≤ L) (hI : Inv σ) (nx : ∀ τ, Inv τ → WG p l e room_1 s m #[Value.ref b] below meth c G.2 (fun q => s.heap.size ≤ q) 4 (lw_Z below #[Value.ref b] s) 1326 [(0, .ref b), (1, .ref (G.1 0)), (2, .ref (G.1 71)), (3, .int (nI i))] [] (wl G τ) 600000 7302250) : WG p l e room_1 s m #[Value.ref b] below meth c G.2 (fun q => s.heap.size ≤ q) 4 (lw_Z below #[Value.ref b] s) 717 [(0, .ref b), (1, .ref (G.1 0)), (2, .ref (G.1 71)), (3, .int (nI i))] [] (wl G σ) 600000 7302250 := by
  obtain ⟨C, hX, hG, hs, hbl, hL⟩ := W0
  refine wg_aload_n C (dget kLaw1 175 rfl) 1 rfl ?_
  refine wg_aload_n C (dget kLaw1 176 rfl) 0 rfl ?_
  refine wg_iload_n C (dget kLaw1 177 rfl) 3 rfl ?_
  refine wg_iconst (v := nI 1) C (dget kLaw1 178 rfl) (by decide) ?_
  refine wg_iadd C (dget kLaw1 179 rfl) ?_
  refine wg_sld C hs hbl (vin_law 1 (by omega) hL) (dget kLaw1 180 rfl) ?_
  refine wg_aload_n C (dget kLaw1 181 rfl) 0 rfl ?_
  refine wg_iload_n C (dget kLaw1 182 rfl) 3 rfl ?_
  refine wg_iconst (v := nI 2) C (dget kLaw1 183 rfl) (by decide) ?_
  refine wg_iadd C (dget kLaw1 184 rfl) ?_
  refine wg_sld C hs hbl (vin_law 2 (by omega) hL) (dget kLaw1 185 rfl) ?_
  refine wg_callV (Mc := mX8_aim) (o := 0) (ci := 8) (As := [.int (xs (nI i + nI 1).toNatClampNeg), .int (xs (nI i + nI 2).toNatClampNeg)]) (rest := []) C hX hG cfL_93 cv_X8_aim rfl rfl ⟨(Nat.le_of_ble_eq_true rfl), (Nat.le_of_ble_eq_true rfl)⟩ rfl rfl (Nat.le_of_ble_eq_true rfl) ⟨(Nat.le_of_ble_eq_true rfl), (Nat.le_of_ble_eq_true rfl)⟩ (dget kLaw1 186 rfl) (tX8_aim (st_aim hI (post := fun a b τ => a = b ∧ Inv τ) (fun a τ h => ⟨rfl, h⟩))) (fun v τ1 hv => ?_)
  obtain ⟨r1, rfl, hq1⟩ := hv
  refine wl_st (st' := [.int r1]) rfl ?_
  refine wg_aload_n C (dget kLaw1 187 rfl) 2 rfl ?_
  refine wg_aload_n C (dget kLaw1 188 rfl) 0 rfl ?_
  refine wg_iload_n C (dget kLaw1 189 rfl) 3 rfl ?_
  refine wg_iconst (v := nI 1) C (dget kLaw1 190 rfl) (by decide) ?_
  refine wg_iadd C (dget kLaw1 191 rfl) ?_
  refine wg_sld C hs hbl (vin_law 1 (by omega) hL) (dget kLaw1 192 rfl) ?_
  refine wg_aload_n C (dget kLaw1 193 rfl) 0 rfl ?_
  refine wg_iload_n C (dget kLaw1 194 rfl) 3 rfl ?_
  refine wg_iconst (v := nI 2) C (dget kLaw1 195 rfl) (by decide) ?_
  refine wg_iadd C (dget kLaw1 196 rfl) ?_
  refine wg_sld C hs hbl (vin_law 2 (by omega) hL) (dget kLaw1 197 rfl) ?_
  refine wg_callV (Mc := mX9_aim) (o := 71) (ci := 9) (As := [.int (xs (nI i + nI 1).toNatClampNeg), .int (xs (nI i + nI 2).toNatClampNeg)]) (rest := [.int r1]) C hX hG cfL_96 cv_X9_aim rfl rfl ⟨(Nat.le_of_ble_eq_true rfl), (Nat.le_of_ble_eq_true rfl)⟩ rfl rfl (Nat.le_of_ble_eq_true rfl) ⟨(Nat.le_of_ble_eq_true rfl), (Nat.le_of_ble_eq_true rfl)⟩ (dget kLaw1 198 rfl) (tX9_aim hq1) (fun v τ2 hv => ?_)
  obtain ⟨r2, rfl, hq2⟩ := hv
  refine wl_st (st' := [.int r2, .int r1]) rfl ?_
  exact wg_icmp_eq (tgt := 1326) C (dget kLaw1 199 rfl) (by decide) (fun _ => nx τ2 hq2.2) (fun h => absurd hq2.1 h)
theorem lwc_20 (W0 : LWc G p s m c b L xs) (hi : i + 6 ≤ L) (hI : Inv σ) (nx : ∀ τ, Inv τ → WG p l e room_1 s m #[Value.ref b] below meth c G.2 (fun q => s.heap.size ≤ q) 4 (lw_Z below #[Value.ref b] s) 1326 [(0, .ref b), (1, .ref (G.1 0)), (2, .ref (G.1 71)), (3, .int (nI i))] [] (wl G τ) 600000 7302250) : WG p l e room_1 s m #[Value.ref b] below meth c G.2 (fun q => s.heap.size ≤ q) 4 (lw_Z below #[Value.ref b] s) 750 [(0, .ref b), (1, .ref (G.1 0)), (2, .ref (G.1 71)), (3, .int (nI i))] [] (wl G σ) 600000 7302250 := by
  obtain ⟨C, hX, hG, hs, hbl, hL⟩ := W0
  refine wg_aload_n C (dget kLaw1 202 rfl) 1 rfl ?_
  refine wg_aload_n C (dget kLaw1 203 rfl) 0 rfl ?_
  refine wg_iload_n C (dget kLaw1 204 rfl) 3 rfl ?_
  refine wg_iconst (v := nI 1) C (dget kLaw1 205 rfl) (by decide) ?_
  refine wg_iadd C (dget kLaw1 206 rfl) ?_
  refine wg_sld C hs hbl (vin_law 1 (by omega) hL) (dget kLaw1 207 rfl) ?_
  refine wg_aload_n C (dget kLaw1 208 rfl) 0 rfl ?_
  refine wg_iload_n C (dget kLaw1 209 rfl) 3 rfl ?_
  refine wg_iconst (v := nI 2) C (dget kLaw1 210 rfl) (by decide) ?_
  refine wg_iadd C (dget kLaw1 211 rfl) ?_
  refine wg_sld C hs hbl (vin_law 2 (by omega) hL) (dget kLaw1 212 rfl) ?_
  refine wg_callV (Mc := mX8_fire) (o := 0) (ci := 8) (As := [.int (xs (nI i + nI 1).toNatClampNeg), .int (xs (nI i + nI 2).toNatClampNeg)]) (rest := []) C hX hG cfL_97 cv_X8_fire rfl rfl ⟨(Nat.le_of_ble_eq_true rfl), (Nat.le_of_ble_eq_true rfl)⟩ rfl rfl (Nat.le_of_ble_eq_true rfl) ⟨(Nat.le_of_ble_eq_true rfl), (Nat.le_of_ble_eq_true rfl)⟩ (dget kLaw1 213 rfl) (tX8_fire (st_fire hI (post := fun a b τ => a = b ∧ Inv τ) (fun a τ h => ⟨rfl, h⟩))) (fun v τ1 hv => ?_)
  obtain ⟨r1, rfl, hq1⟩ := hv
  refine wl_st (st' := [.int r1]) rfl ?_
  refine wg_aload_n C (dget kLaw1 214 rfl) 2 rfl ?_
  refine wg_aload_n C (dget kLaw1 215 rfl) 0 rfl ?_
  refine wg_iload_n C (dget kLaw1 216 rfl) 3 rfl ?_
  refine wg_iconst (v := nI 1) C (dget kLaw1 217 rfl) (by decide) ?_
  refine wg_iadd C (dget kLaw1 218 rfl) ?_
  refine wg_sld C hs hbl (vin_law 1 (by omega) hL) (dget kLaw1 219 rfl) ?_
  refine wg_aload_n C (dget kLaw1 220 rfl) 0 rfl ?_
  refine wg_iload_n C (dget kLaw1 221 rfl) 3 rfl ?_
  refine wg_iconst (v := nI 2) C (dget kLaw1 222 rfl) (by decide) ?_
  refine wg_iadd C (dget kLaw1 223 rfl) ?_
  refine wg_sld C hs hbl (vin_law 2 (by omega) hL) (dget kLaw1 224 rfl) ?_
  refine wg_callV (Mc := mX9_fire) (o := 71) (ci := 9) (As := [.int (xs (nI i + nI 1).toNatClampNeg), .int (xs (nI i + nI 2).toNatClampNeg)]) (rest := [.int r1]) C hX hG cfL_100 cv_X9_fire rfl rfl ⟨(Nat.le_of_ble_eq_true rfl), (Nat.le_of_ble_eq_true rfl)⟩ rfl rfl (Nat.le_of_ble_eq_true rfl) ⟨(Nat.le_of_ble_eq_true rfl), (Nat.le_of_ble_eq_true rfl)⟩ (dget kLaw1 225 rfl) (tX9_fire hq1) (fun v τ2 hv => ?_)
  obtain ⟨r2, rfl, hq2⟩ := hv
  refine wl_st (st' := [.int r2, .int r1]) rfl ?_
  exact wg_icmp_eq (tgt := 1326) C (dget kLaw1 226 rfl) (by decide) (fun _ => nx τ2 hq2.2) (fun h => absurd hq2.1 h)
theorem lwc_21 (W0 : LWc G p s m c b L xs) (hi : i + 6 ≤ L) (hI : Inv σ) (nx : ∀ τ, Inv τ → WG p l e room_1 s m #[Value.ref b] below meth c G.2 (fun q => s.heap.size ≤ q) 4 (lw_Z below #[Value.ref b] s) 1326 [(0, .ref b), (1, .ref (G.1 0)), (2, .ref (G.1 71)), (3, .int (nI i))] [] (wl G τ) 600000 7302250) : WG p l e room_1 s m #[Value.ref b] below meth c G.2 (fun q => s.heap.size ≤ q) 4 (lw_Z below #[Value.ref b] s) 783 [(0, .ref b), (1, .ref (G.1 0)), (2, .ref (G.1 71)), (3, .int (nI i))] [] (wl G σ) 600000 7302250 := by
  obtain ⟨C, hX, hG, hs, hbl, hL⟩ := W0
  refine wg_aload_n C (dget kLaw1 229 rfl) 1 rfl ?_
  refine wg_aload_n C (dget kLaw1 230 rfl) 0 rfl ?_
  refine wg_iload_n C (dget kLaw1 231 rfl) 3 rfl ?_
  refine wg_iconst (v := nI 1) C (dget kLaw1 232 rfl) (by decide) ?_
  refine wg_iadd C (dget kLaw1 233 rfl) ?_
  refine wg_sld C hs hbl (vin_law 1 (by omega) hL) (dget kLaw1 234 rfl) ?_
  refine wg_callV (Mc := mX8_mend) (o := 0) (ci := 8) (As := [.int (xs (nI i + nI 1).toNatClampNeg)]) (rest := []) C hX hG cfL_101 cv_X8_mend rfl rfl ⟨(Nat.le_of_ble_eq_true rfl), (Nat.le_of_ble_eq_true rfl)⟩ rfl rfl (Nat.le_of_ble_eq_true rfl) ⟨(Nat.le_of_ble_eq_true rfl), (Nat.le_of_ble_eq_true rfl)⟩ (dget kLaw1 235 rfl) (tX8_mend (st_mend hI (post := fun a b τ => a = b ∧ Inv τ) (fun a τ h => ⟨rfl, h⟩))) (fun v τ1 hv => ?_)
  obtain ⟨r1, rfl, hq1⟩ := hv
  refine wl_st (st' := [.int r1]) rfl ?_
  refine wg_aload_n C (dget kLaw1 236 rfl) 2 rfl ?_
  refine wg_aload_n C (dget kLaw1 237 rfl) 0 rfl ?_
  refine wg_iload_n C (dget kLaw1 238 rfl) 3 rfl ?_
  refine wg_iconst (v := nI 1) C (dget kLaw1 239 rfl) (by decide) ?_
  refine wg_iadd C (dget kLaw1 240 rfl) ?_
  refine wg_sld C hs hbl (vin_law 1 (by omega) hL) (dget kLaw1 241 rfl) ?_
  refine wg_callV (Mc := mX9_mend) (o := 71) (ci := 9) (As := [.int (xs (nI i + nI 1).toNatClampNeg)]) (rest := [.int r1]) C hX hG cfL_104 cv_X9_mend rfl rfl ⟨(Nat.le_of_ble_eq_true rfl), (Nat.le_of_ble_eq_true rfl)⟩ rfl rfl (Nat.le_of_ble_eq_true rfl) ⟨(Nat.le_of_ble_eq_true rfl), (Nat.le_of_ble_eq_true rfl)⟩ (dget kLaw1 242 rfl) (tX9_mend hq1) (fun v τ2 hv => ?_)
  obtain ⟨r2, rfl, hq2⟩ := hv
  refine wl_st (st' := [.int r2, .int r1]) rfl ?_
  exact wg_icmp_eq (tgt := 1326) C (dget kLaw1 243 rfl) (by decide) (fun _ => nx τ2 hq2.2) (fun h => absurd hq2.1 h)
theorem lwc_22 (W0 : LWc G p s m c b L xs) (hi : i + 6 ≤ L) (hI : Inv σ) (nx : ∀ τ, Inv τ → WG p l e room_1 s m #[Value.ref b] below meth c G.2 (fun q => s.heap.size ≤ q) 4 (lw_Z below #[Value.ref b] s) 1326 [(0, .ref b), (1, .ref (G.1 0)), (2, .ref (G.1 71)), (3, .int (nI i))] [] (wl G τ) 600000 7302250) : WG p l e room_1 s m #[Value.ref b] below meth c G.2 (fun q => s.heap.size ≤ q) 4 (lw_Z below #[Value.ref b] s) 806 [(0, .ref b), (1, .ref (G.1 0)), (2, .ref (G.1 71)), (3, .int (nI i))] [] (wl G σ) 600000 7302250 := by
  obtain ⟨C, hX, hG, hs, hbl, hL⟩ := W0
  refine wg_aload_n C (dget kLaw1 246 rfl) 1 rfl ?_
  refine wg_aload_n C (dget kLaw1 247 rfl) 0 rfl ?_
  refine wg_iload_n C (dget kLaw1 248 rfl) 3 rfl ?_
  refine wg_iconst (v := nI 1) C (dget kLaw1 249 rfl) (by decide) ?_
  refine wg_iadd C (dget kLaw2 0 rfl) ?_
  refine wg_sld C hs hbl (vin_law 1 (by omega) hL) (dget kLaw2 1 rfl) ?_
  refine wg_callV (Mc := mX8_spare) (o := 0) (ci := 8) (As := [.int (xs (nI i + nI 1).toNatClampNeg)]) (rest := []) C hX hG cfL_105 cv_X8_spare rfl rfl ⟨(Nat.le_of_ble_eq_true rfl), (Nat.le_of_ble_eq_true rfl)⟩ rfl rfl (Nat.le_of_ble_eq_true rfl) ⟨(Nat.le_of_ble_eq_true rfl), (Nat.le_of_ble_eq_true rfl)⟩ (dget kLaw2 2 rfl) (tX8_spare (st_spare hI (post := fun a b τ => a = b ∧ Inv τ) (fun a τ h => ⟨rfl, h⟩))) (fun v τ1 hv => ?_)
  obtain ⟨r1, rfl, hq1⟩ := hv
  refine wl_st (st' := [.int r1]) rfl ?_
  refine wg_aload_n C (dget kLaw2 3 rfl) 2 rfl ?_
  refine wg_aload_n C (dget kLaw2 4 rfl) 0 rfl ?_
  refine wg_iload_n C (dget kLaw2 5 rfl) 3 rfl ?_
  refine wg_iconst (v := nI 1) C (dget kLaw2 6 rfl) (by decide) ?_
  refine wg_iadd C (dget kLaw2 7 rfl) ?_
  refine wg_sld C hs hbl (vin_law 1 (by omega) hL) (dget kLaw2 8 rfl) ?_
  refine wg_callV (Mc := mX9_spare) (o := 71) (ci := 9) (As := [.int (xs (nI i + nI 1).toNatClampNeg)]) (rest := [.int r1]) C hX hG cfL_108 cv_X9_spare rfl rfl ⟨(Nat.le_of_ble_eq_true rfl), (Nat.le_of_ble_eq_true rfl)⟩ rfl rfl (Nat.le_of_ble_eq_true rfl) ⟨(Nat.le_of_ble_eq_true rfl), (Nat.le_of_ble_eq_true rfl)⟩ (dget kLaw2 9 rfl) (tX9_spare hq1) (fun v τ2 hv => ?_)
  obtain ⟨r2, rfl, hq2⟩ := hv
  refine wl_st (st' := [.int r2, .int r1]) rfl ?_
  exact wg_icmp_eq (tgt := 1326) C (dget kLaw2 10 rfl) (by decide) (fun _ => nx τ2 hq2.2) (fun h => absurd hq2.1 h)
theorem lwc_23 (W0 : LWc G p s m c b L xs) (hi : i + 6 ≤ L) (hI : Inv σ) (nx : ∀ τ, Inv τ → WG p l e room_1 s m #[Value.ref b] below meth c G.2 (fun q => s.heap.size ≤ q) 4 (lw_Z below #[Value.ref b] s) 1326 [(0, .ref b), (1, .ref (G.1 0)), (2, .ref (G.1 71)), (3, .int (nI i))] [] (wl G τ) 600000 7302250) : WG p l e room_1 s m #[Value.ref b] below meth c G.2 (fun q => s.heap.size ≤ q) 4 (lw_Z below #[Value.ref b] s) 829 [(0, .ref b), (1, .ref (G.1 0)), (2, .ref (G.1 71)), (3, .int (nI i))] [] (wl G σ) 600000 7302250 := by
  obtain ⟨C, hX, hG, hs, hbl, hL⟩ := W0
  refine wg_aload_n C (dget kLaw2 13 rfl) 1 rfl ?_
  refine wg_aload_n C (dget kLaw2 14 rfl) 0 rfl ?_
  refine wg_iload_n C (dget kLaw2 15 rfl) 3 rfl ?_
  refine wg_iconst (v := nI 1) C (dget kLaw2 16 rfl) (by decide) ?_
  refine wg_iadd C (dget kLaw2 17 rfl) ?_
  refine wg_sld C hs hbl (vin_law 1 (by omega) hL) (dget kLaw2 18 rfl) ?_
  refine wg_aload_n C (dget kLaw2 19 rfl) 0 rfl ?_
  refine wg_iload_n C (dget kLaw2 20 rfl) 3 rfl ?_
  refine wg_iconst (v := nI 2) C (dget kLaw2 21 rfl) (by decide) ?_
  refine wg_iadd C (dget kLaw2 22 rfl) ?_
  refine wg_sld C hs hbl (vin_law 2 (by omega) hL) (dget kLaw2 23 rfl) ?_
  refine wg_aload_n C (dget kLaw2 24 rfl) 0 rfl ?_
  refine wg_iload_n C (dget kLaw2 25 rfl) 3 rfl ?_
  refine wg_iconst (v := nI 3) C (dget kLaw2 26 rfl) (by decide) ?_
  refine wg_iadd C (dget kLaw2 27 rfl) ?_
  refine wg_sld C hs hbl (vin_law 3 (by omega) hL) (dget kLaw2 28 rfl) ?_
  refine wg_callV (Mc := mX8_seen) (o := 0) (ci := 8) (As := [.int (xs (nI i + nI 1).toNatClampNeg), .int (xs (nI i + nI 2).toNatClampNeg), .int (xs (nI i + nI 3).toNatClampNeg)]) (rest := []) C hX hG cfL_109 cv_X8_seen rfl rfl ⟨(Nat.le_of_ble_eq_true rfl), (Nat.le_of_ble_eq_true rfl)⟩ rfl rfl (Nat.le_of_ble_eq_true rfl) ⟨(Nat.le_of_ble_eq_true rfl), (Nat.le_of_ble_eq_true rfl)⟩ (dget kLaw2 29 rfl) (tX8_seen (st_seen hI (post := fun a b τ => a = b ∧ Inv τ) (fun a τ h => ⟨rfl, h⟩))) (fun v τ1 hv => ?_)
  obtain ⟨r1, rfl, hq1⟩ := hv
  refine wl_st (st' := [.int r1]) rfl ?_
  refine wg_aload_n C (dget kLaw2 30 rfl) 2 rfl ?_
  refine wg_aload_n C (dget kLaw2 31 rfl) 0 rfl ?_
  refine wg_iload_n C (dget kLaw2 32 rfl) 3 rfl ?_
  refine wg_iconst (v := nI 1) C (dget kLaw2 33 rfl) (by decide) ?_
  refine wg_iadd C (dget kLaw2 34 rfl) ?_
  refine wg_sld C hs hbl (vin_law 1 (by omega) hL) (dget kLaw2 35 rfl) ?_
  refine wg_aload_n C (dget kLaw2 36 rfl) 0 rfl ?_
  refine wg_iload_n C (dget kLaw2 37 rfl) 3 rfl ?_
  refine wg_iconst (v := nI 2) C (dget kLaw2 38 rfl) (by decide) ?_
  refine wg_iadd C (dget kLaw2 39 rfl) ?_
  refine wg_sld C hs hbl (vin_law 2 (by omega) hL) (dget kLaw2 40 rfl) ?_
  refine wg_aload_n C (dget kLaw2 41 rfl) 0 rfl ?_
  refine wg_iload_n C (dget kLaw2 42 rfl) 3 rfl ?_
  refine wg_iconst (v := nI 3) C (dget kLaw2 43 rfl) (by decide) ?_
  refine wg_iadd C (dget kLaw2 44 rfl) ?_
  refine wg_sld C hs hbl (vin_law 3 (by omega) hL) (dget kLaw2 45 rfl) ?_
  refine wg_callV (Mc := mX9_seen) (o := 71) (ci := 9) (As := [.int (xs (nI i + nI 1).toNatClampNeg), .int (xs (nI i + nI 2).toNatClampNeg), .int (xs (nI i + nI 3).toNatClampNeg)]) (rest := [.int r1]) C hX hG cfL_112 cv_X9_seen rfl rfl ⟨(Nat.le_of_ble_eq_true rfl), (Nat.le_of_ble_eq_true rfl)⟩ rfl rfl (Nat.le_of_ble_eq_true rfl) ⟨(Nat.le_of_ble_eq_true rfl), (Nat.le_of_ble_eq_true rfl)⟩ (dget kLaw2 46 rfl) (tX9_seen hq1) (fun v τ2 hv => ?_)
  obtain ⟨r2, rfl, hq2⟩ := hv
  refine wl_st (st' := [.int r2, .int r1]) rfl ?_
  exact wg_icmp_eq (tgt := 1326) C (dget kLaw2 47 rfl) (by decide) (fun _ => nx τ2 hq2.2) (fun h => absurd hq2.1 h)
theorem lwc_24 (W0 : LWc G p s m c b L xs) (hi : i + 6 ≤ L) (hI : Inv σ) (nx : ∀ τ, Inv τ → WG p l e room_1 s m #[Value.ref b] below meth c G.2 (fun q => s.heap.size ≤ q) 4 (lw_Z below #[Value.ref b] s) 1326 [(0, .ref b), (1, .ref (G.1 0)), (2, .ref (G.1 71)), (3, .int (nI i))] [] (wl G τ) 600000 7302250) : WG p l e room_1 s m #[Value.ref b] below meth c G.2 (fun q => s.heap.size ≤ q) 4 (lw_Z below #[Value.ref b] s) 872 [(0, .ref b), (1, .ref (G.1 0)), (2, .ref (G.1 71)), (3, .int (nI i))] [] (wl G σ) 600000 7302250 := by
  obtain ⟨C, hX, hG, hs, hbl, hL⟩ := W0
  refine wg_aload_n C (dget kLaw2 50 rfl) 1 rfl ?_
  refine wg_callV (Mc := mX8_forget) (o := 0) (ci := 8) (As := []) (rest := []) C hX hG cfL_113 cv_X8_forget rfl rfl ⟨(Nat.le_of_ble_eq_true rfl), (Nat.le_of_ble_eq_true rfl)⟩ rfl rfl (Nat.le_of_ble_eq_true rfl) ⟨(Nat.le_of_ble_eq_true rfl), (Nat.le_of_ble_eq_true rfl)⟩ (dget kLaw2 51 rfl) (tX8_forget (st_forget hI (post := fun a b τ => a = b ∧ Inv τ) (fun a τ h => ⟨rfl, h⟩))) (fun v τ1 hv => ?_)
  obtain ⟨r1, rfl, hq1⟩ := hv
  refine wl_st (st' := [.int r1]) rfl ?_
  refine wg_aload_n C (dget kLaw2 52 rfl) 2 rfl ?_
  refine wg_callV (Mc := mX9_forget) (o := 71) (ci := 9) (As := []) (rest := [.int r1]) C hX hG cfL_116 cv_X9_forget rfl rfl ⟨(Nat.le_of_ble_eq_true rfl), (Nat.le_of_ble_eq_true rfl)⟩ rfl rfl (Nat.le_of_ble_eq_true rfl) ⟨(Nat.le_of_ble_eq_true rfl), (Nat.le_of_ble_eq_true rfl)⟩ (dget kLaw2 53 rfl) (tX9_forget hq1) (fun v τ2 hv => ?_)
  obtain ⟨r2, rfl, hq2⟩ := hv
  refine wl_st (st' := [.int r2, .int r1]) rfl ?_
  exact wg_icmp_eq (tgt := 1326) C (dget kLaw2 54 rfl) (by decide) (fun _ => nx τ2 hq2.2) (fun h => absurd hq2.1 h)
theorem lwc_25 (W0 : LWc G p s m c b L xs) (hi : i + 6 ≤ L) (hI : Inv σ) (nx : ∀ τ, Inv τ → WG p l e room_1 s m #[Value.ref b] below meth c G.2 (fun q => s.heap.size ≤ q) 4 (lw_Z below #[Value.ref b] s) 1326 [(0, .ref b), (1, .ref (G.1 0)), (2, .ref (G.1 71)), (3, .int (nI i))] [] (wl G τ) 600000 7302250) : WG p l e room_1 s m #[Value.ref b] below meth c G.2 (fun q => s.heap.size ≤ q) 4 (lw_Z below #[Value.ref b] s) 885 [(0, .ref b), (1, .ref (G.1 0)), (2, .ref (G.1 71)), (3, .int (nI i))] [] (wl G σ) 600000 7302250 := by
  obtain ⟨C, hX, hG, hs, hbl, hL⟩ := W0
  refine wg_aload_n C (dget kLaw2 57 rfl) 1 rfl ?_
  refine wg_aload_n C (dget kLaw2 58 rfl) 0 rfl ?_
  refine wg_iload_n C (dget kLaw2 59 rfl) 3 rfl ?_
  refine wg_iconst (v := nI 1) C (dget kLaw2 60 rfl) (by decide) ?_
  refine wg_iadd C (dget kLaw2 61 rfl) ?_
  refine wg_sld C hs hbl (vin_law 1 (by omega) hL) (dget kLaw2 62 rfl) ?_
  refine wg_callV (Mc := mX8_might) (o := 0) (ci := 8) (As := [.int (xs (nI i + nI 1).toNatClampNeg)]) (rest := []) C hX hG cfL_117 cv_X8_might rfl rfl ⟨(Nat.le_of_ble_eq_true rfl), (Nat.le_of_ble_eq_true rfl)⟩ rfl rfl (Nat.le_of_ble_eq_true rfl) ⟨(Nat.le_of_ble_eq_true rfl), (Nat.le_of_ble_eq_true rfl)⟩ (dget kLaw2 63 rfl) (tX8_might (st_might hI (post := fun a b τ => a = b ∧ Inv τ) (fun a τ h => ⟨rfl, h⟩))) (fun v τ1 hv => ?_)
  obtain ⟨r1, rfl, hq1⟩ := hv
  refine wl_st (st' := [.int r1]) rfl ?_
  refine wg_aload_n C (dget kLaw2 64 rfl) 2 rfl ?_
  refine wg_aload_n C (dget kLaw2 65 rfl) 0 rfl ?_
  refine wg_iload_n C (dget kLaw2 66 rfl) 3 rfl ?_
  refine wg_iconst (v := nI 1) C (dget kLaw2 67 rfl) (by decide) ?_
  refine wg_iadd C (dget kLaw2 68 rfl) ?_
  refine wg_sld C hs hbl (vin_law 1 (by omega) hL) (dget kLaw2 69 rfl) ?_
  refine wg_callV (Mc := mX9_might) (o := 71) (ci := 9) (As := [.int (xs (nI i + nI 1).toNatClampNeg)]) (rest := [.int r1]) C hX hG cfL_120 cv_X9_might rfl rfl ⟨(Nat.le_of_ble_eq_true rfl), (Nat.le_of_ble_eq_true rfl)⟩ rfl rfl (Nat.le_of_ble_eq_true rfl) ⟨(Nat.le_of_ble_eq_true rfl), (Nat.le_of_ble_eq_true rfl)⟩ (dget kLaw2 70 rfl) (tX9_might hq1) (fun v τ2 hv => ?_)
  obtain ⟨r2, rfl, hq2⟩ := hv
  refine wl_st (st' := [.int r2, .int r1]) rfl ?_
  exact wg_icmp_eq (tgt := 1326) C (dget kLaw2 71 rfl) (by decide) (fun _ => nx τ2 hq2.2) (fun h => absurd hq2.1 h)
theorem lwc_26 (W0 : LWc G p s m c b L xs) (hi : i + 6 ≤ L) (hI : Inv σ) (nx : ∀ τ, Inv τ → WG p l e room_1 s m #[Value.ref b] below meth c G.2 (fun q => s.heap.size ≤ q) 4 (lw_Z below #[Value.ref b] s) 1326 [(0, .ref b), (1, .ref (G.1 0)), (2, .ref (G.1 71)), (3, .int (nI i))] [] (wl G τ) 600000 7302250) : WG p l e room_1 s m #[Value.ref b] below meth c G.2 (fun q => s.heap.size ≤ q) 4 (lw_Z below #[Value.ref b] s) 908 [(0, .ref b), (1, .ref (G.1 0)), (2, .ref (G.1 71)), (3, .int (nI i))] [] (wl G σ) 600000 7302250 := by
  obtain ⟨C, hX, hG, hs, hbl, hL⟩ := W0
  refine wg_aload_n C (dget kLaw2 74 rfl) 1 rfl ?_
  refine wg_aload_n C (dget kLaw2 75 rfl) 0 rfl ?_
  refine wg_iload_n C (dget kLaw2 76 rfl) 3 rfl ?_
  refine wg_iconst (v := nI 1) C (dget kLaw2 77 rfl) (by decide) ?_
  refine wg_iadd C (dget kLaw2 78 rfl) ?_
  refine wg_sld C hs hbl (vin_law 1 (by omega) hL) (dget kLaw2 79 rfl) ?_
  refine wg_callV (Mc := mX8_kind) (o := 0) (ci := 8) (As := [.int (xs (nI i + nI 1).toNatClampNeg)]) (rest := []) C hX hG cfL_121 cv_X8_kind rfl rfl ⟨(Nat.le_of_ble_eq_true rfl), (Nat.le_of_ble_eq_true rfl)⟩ rfl rfl (Nat.le_of_ble_eq_true rfl) ⟨(Nat.le_of_ble_eq_true rfl), (Nat.le_of_ble_eq_true rfl)⟩ (dget kLaw2 80 rfl) (tX8_kind (st_kind hI (post := fun a b τ => a = b ∧ Inv τ) (fun a τ h => ⟨rfl, h⟩))) (fun v τ1 hv => ?_)
  obtain ⟨r1, rfl, hq1⟩ := hv
  refine wl_st (st' := [.int r1]) rfl ?_
  refine wg_aload_n C (dget kLaw2 81 rfl) 2 rfl ?_
  refine wg_aload_n C (dget kLaw2 82 rfl) 0 rfl ?_
  refine wg_iload_n C (dget kLaw2 83 rfl) 3 rfl ?_
  refine wg_iconst (v := nI 1) C (dget kLaw2 84 rfl) (by decide) ?_
  refine wg_iadd C (dget kLaw2 85 rfl) ?_
  refine wg_sld C hs hbl (vin_law 1 (by omega) hL) (dget kLaw2 86 rfl) ?_
  refine wg_callV (Mc := mX9_kind) (o := 71) (ci := 9) (As := [.int (xs (nI i + nI 1).toNatClampNeg)]) (rest := [.int r1]) C hX hG cfL_124 cv_X9_kind rfl rfl ⟨(Nat.le_of_ble_eq_true rfl), (Nat.le_of_ble_eq_true rfl)⟩ rfl rfl (Nat.le_of_ble_eq_true rfl) ⟨(Nat.le_of_ble_eq_true rfl), (Nat.le_of_ble_eq_true rfl)⟩ (dget kLaw2 87 rfl) (tX9_kind hq1) (fun v τ2 hv => ?_)
  obtain ⟨r2, rfl, hq2⟩ := hv
  refine wl_st (st' := [.int r2, .int r1]) rfl ?_
  exact wg_icmp_eq (tgt := 1326) C (dget kLaw2 88 rfl) (by decide) (fun _ => nx τ2 hq2.2) (fun h => absurd hq2.1 h)
theorem lwc_27 (W0 : LWc G p s m c b L xs) (hi : i + 6 ≤ L) (hI : Inv σ) (nx : ∀ τ, Inv τ → WG p l e room_1 s m #[Value.ref b] below meth c G.2 (fun q => s.heap.size ≤ q) 4 (lw_Z below #[Value.ref b] s) 1326 [(0, .ref b), (1, .ref (G.1 0)), (2, .ref (G.1 71)), (3, .int (nI i))] [] (wl G τ) 600000 7302250) : WG p l e room_1 s m #[Value.ref b] below meth c G.2 (fun q => s.heap.size ≤ q) 4 (lw_Z below #[Value.ref b] s) 931 [(0, .ref b), (1, .ref (G.1 0)), (2, .ref (G.1 71)), (3, .int (nI i))] [] (wl G σ) 600000 7302250 := by
  obtain ⟨C, hX, hG, hs, hbl, hL⟩ := W0
  refine wg_aload_n C (dget kLaw2 91 rfl) 1 rfl ?_
  refine wg_callV (Mc := mX8_ask) (o := 0) (ci := 8) (As := []) (rest := []) C hX hG cfL_125 cv_X8_ask rfl rfl ⟨(Nat.le_of_ble_eq_true rfl), (Nat.le_of_ble_eq_true rfl)⟩ rfl rfl (Nat.le_of_ble_eq_true rfl) ⟨(Nat.le_of_ble_eq_true rfl), (Nat.le_of_ble_eq_true rfl)⟩ (dget kLaw2 92 rfl) (tX8_ask (st_ask hI (post := fun a b τ => a = b ∧ Inv τ) (fun a τ h => ⟨rfl, h⟩))) (fun v τ1 hv => ?_)
  obtain ⟨r1, rfl, hq1⟩ := hv
  refine wl_st (st' := [.int r1]) rfl ?_
  refine wg_aload_n C (dget kLaw2 93 rfl) 2 rfl ?_
  refine wg_callV (Mc := mX9_ask) (o := 71) (ci := 9) (As := []) (rest := [.int r1]) C hX hG cfL_128 cv_X9_ask rfl rfl ⟨(Nat.le_of_ble_eq_true rfl), (Nat.le_of_ble_eq_true rfl)⟩ rfl rfl (Nat.le_of_ble_eq_true rfl) ⟨(Nat.le_of_ble_eq_true rfl), (Nat.le_of_ble_eq_true rfl)⟩ (dget kLaw2 94 rfl) (tX9_ask hq1) (fun v τ2 hv => ?_)
  obtain ⟨r2, rfl, hq2⟩ := hv
  refine wl_st (st' := [.int r2, .int r1]) rfl ?_
  exact wg_icmp_eq (tgt := 1326) C (dget kLaw2 95 rfl) (by decide) (fun _ => nx τ2 hq2.2) (fun h => absurd hq2.1 h)
theorem lwc_28 (W0 : LWc G p s m c b L xs) (hi : i + 6 ≤ L) (hI : Inv σ) (nx : ∀ τ, Inv τ → WG p l e room_1 s m #[Value.ref b] below meth c G.2 (fun q => s.heap.size ≤ q) 4 (lw_Z below #[Value.ref b] s) 1326 [(0, .ref b), (1, .ref (G.1 0)), (2, .ref (G.1 71)), (3, .int (nI i))] [] (wl G τ) 600000 7302250) : WG p l e room_1 s m #[Value.ref b] below meth c G.2 (fun q => s.heap.size ≤ q) 4 (lw_Z below #[Value.ref b] s) 944 [(0, .ref b), (1, .ref (G.1 0)), (2, .ref (G.1 71)), (3, .int (nI i))] [] (wl G σ) 600000 7302250 := by
  obtain ⟨C, hX, hG, hs, hbl, hL⟩ := W0
  refine wg_aload_n C (dget kLaw2 98 rfl) 1 rfl ?_
  refine wg_aload_n C (dget kLaw2 99 rfl) 0 rfl ?_
  refine wg_iload_n C (dget kLaw2 100 rfl) 3 rfl ?_
  refine wg_iconst (v := nI 1) C (dget kLaw2 101 rfl) (by decide) ?_
  refine wg_iadd C (dget kLaw2 102 rfl) ?_
  refine wg_sld C hs hbl (vin_law 1 (by omega) hL) (dget kLaw2 103 rfl) ?_
  refine wg_aload_n C (dget kLaw2 104 rfl) 0 rfl ?_
  refine wg_iload_n C (dget kLaw2 105 rfl) 3 rfl ?_
  refine wg_iconst (v := nI 2) C (dget kLaw2 106 rfl) (by decide) ?_
  refine wg_iadd C (dget kLaw2 107 rfl) ?_
  refine wg_sld C hs hbl (vin_law 2 (by omega) hL) (dget kLaw2 108 rfl) ?_
  refine wg_aload_n C (dget kLaw2 109 rfl) 0 rfl ?_
  refine wg_iload_n C (dget kLaw2 110 rfl) 3 rfl ?_
  refine wg_iconst (v := nI 3) C (dget kLaw2 111 rfl) (by decide) ?_
  refine wg_iadd C (dget kLaw2 112 rfl) ?_
  refine wg_sld C hs hbl (vin_law 3 (by omega) hL) (dget kLaw2 113 rfl) ?_
  refine wg_callV (Mc := mX8_chance) (o := 0) (ci := 8) (As := [.int (xs (nI i + nI 1).toNatClampNeg), .int (xs (nI i + nI 2).toNatClampNeg), .int (xs (nI i + nI 3).toNatClampNeg)]) (rest := []) C hX hG cfL_129 cv_X8_chance rfl rfl ⟨(Nat.le_of_ble_eq_true rfl), (Nat.le_of_ble_eq_true rfl)⟩ rfl rfl (Nat.le_of_ble_eq_true rfl) ⟨(Nat.le_of_ble_eq_true rfl), (Nat.le_of_ble_eq_true rfl)⟩ (dget kLaw2 114 rfl) (tX8_chance (st_chance hI (post := fun a b τ => a = b ∧ Inv τ) (fun a τ h => ⟨rfl, h⟩))) (fun v τ1 hv => ?_)
  obtain ⟨r1, rfl, hq1⟩ := hv
  refine wl_st (st' := [.long r1]) rfl ?_
  refine wg_aload_n C (dget kLaw2 115 rfl) 2 rfl ?_
  refine wg_aload_n C (dget kLaw2 116 rfl) 0 rfl ?_
  refine wg_iload_n C (dget kLaw2 117 rfl) 3 rfl ?_
  refine wg_iconst (v := nI 1) C (dget kLaw2 118 rfl) (by decide) ?_
  refine wg_iadd C (dget kLaw2 119 rfl) ?_
  refine wg_sld C hs hbl (vin_law 1 (by omega) hL) (dget kLaw2 120 rfl) ?_
  refine wg_aload_n C (dget kLaw2 121 rfl) 0 rfl ?_
  refine wg_iload_n C (dget kLaw2 122 rfl) 3 rfl ?_
  refine wg_iconst (v := nI 2) C (dget kLaw2 123 rfl) (by decide) ?_
  refine wg_iadd C (dget kLaw2 124 rfl) ?_
  refine wg_sld C hs hbl (vin_law 2 (by omega) hL) (dget kLaw2 125 rfl) ?_
  refine wg_aload_n C (dget kLaw2 126 rfl) 0 rfl ?_
  refine wg_iload_n C (dget kLaw2 127 rfl) 3 rfl ?_
  refine wg_iconst (v := nI 3) C (dget kLaw2 128 rfl) (by decide) ?_
  refine wg_iadd C (dget kLaw2 129 rfl) ?_
  refine wg_sld C hs hbl (vin_law 3 (by omega) hL) (dget kLaw2 130 rfl) ?_
  refine wg_callV (Mc := mX9_chance) (o := 71) (ci := 9) (As := [.int (xs (nI i + nI 1).toNatClampNeg), .int (xs (nI i + nI 2).toNatClampNeg), .int (xs (nI i + nI 3).toNatClampNeg)]) (rest := [.long r1]) C hX hG cfL_133 cv_X9_chance rfl rfl ⟨(Nat.le_of_ble_eq_true rfl), (Nat.le_of_ble_eq_true rfl)⟩ rfl rfl (Nat.le_of_ble_eq_true rfl) ⟨(Nat.le_of_ble_eq_true rfl), (Nat.le_of_ble_eq_true rfl)⟩ (dget kLaw2 131 rfl) (tX9_chance hq1) (fun v τ2 hv => ?_)
  obtain ⟨r2, rfl, hq2⟩ := hv
  refine wl_st (st' := [.long r2, .long r1]) rfl ?_
  refine wg_lcmp C (dget kLaw2 132 rfl) ?_
  exact wg_if_eq (tgt := 1326) C (dget kLaw2 133 rfl) (by decide) (fun _ => nx τ2 hq2.2) (fun h => absurd (by rw [hq2.1]; exact lg_self _) h)
theorem lwc_29 (W0 : LWc G p s m c b L xs) (hi : i + 6 ≤ L) (hI : Inv σ) (nx : ∀ τ, Inv τ → WG p l e room_1 s m #[Value.ref b] below meth c G.2 (fun q => s.heap.size ≤ q) 4 (lw_Z below #[Value.ref b] s) 1326 [(0, .ref b), (1, .ref (G.1 0)), (2, .ref (G.1 71)), (3, .int (nI i))] [] (wl G τ) 600000 7302250) : WG p l e room_1 s m #[Value.ref b] below meth c G.2 (fun q => s.heap.size ≤ q) 4 (lw_Z below #[Value.ref b] s) 988 [(0, .ref b), (1, .ref (G.1 0)), (2, .ref (G.1 71)), (3, .int (nI i))] [] (wl G σ) 600000 7302250 := by
  obtain ⟨C, hX, hG, hs, hbl, hL⟩ := W0
  refine wg_aload_n C (dget kLaw2 136 rfl) 1 rfl ?_
  refine wg_aload_n C (dget kLaw2 137 rfl) 0 rfl ?_
  refine wg_iload_n C (dget kLaw2 138 rfl) 3 rfl ?_
  refine wg_iconst (v := nI 1) C (dget kLaw2 139 rfl) (by decide) ?_
  refine wg_iadd C (dget kLaw2 140 rfl) ?_
  refine wg_sld C hs hbl (vin_law 1 (by omega) hL) (dget kLaw2 141 rfl) ?_
  refine wg_aload_n C (dget kLaw2 142 rfl) 0 rfl ?_
  refine wg_iload_n C (dget kLaw2 143 rfl) 3 rfl ?_
  refine wg_iconst (v := nI 2) C (dget kLaw2 144 rfl) (by decide) ?_
  refine wg_iadd C (dget kLaw2 145 rfl) ?_
  refine wg_sld C hs hbl (vin_law 2 (by omega) hL) (dget kLaw2 146 rfl) ?_
  refine wg_aload_n C (dget kLaw2 147 rfl) 0 rfl ?_
  refine wg_iload_n C (dget kLaw2 148 rfl) 3 rfl ?_
  refine wg_iconst (v := nI 3) C (dget kLaw2 149 rfl) (by decide) ?_
  refine wg_iadd C (dget kLaw2 150 rfl) ?_
  refine wg_sld C hs hbl (vin_law 3 (by omega) hL) (dget kLaw2 151 rfl) ?_
  refine wg_callV (Mc := mX8_fairs) (o := 0) (ci := 8) (As := [.int (xs (nI i + nI 1).toNatClampNeg), .int (xs (nI i + nI 2).toNatClampNeg), .int (xs (nI i + nI 3).toNatClampNeg)]) (rest := []) C hX hG cfL_134 cv_X8_fairs rfl rfl ⟨(Nat.le_of_ble_eq_true rfl), (Nat.le_of_ble_eq_true rfl)⟩ rfl rfl (Nat.le_of_ble_eq_true rfl) ⟨(Nat.le_of_ble_eq_true rfl), (Nat.le_of_ble_eq_true rfl)⟩ (dget kLaw2 152 rfl) (tX8_fairs (st_fairs hI (post := fun a b τ => a = b ∧ Inv τ) (fun a τ h => ⟨rfl, h⟩))) (fun v τ1 hv => ?_)
  obtain ⟨r1, rfl, hq1⟩ := hv
  refine wl_st (st' := [.int r1]) rfl ?_
  refine wg_aload_n C (dget kLaw2 153 rfl) 2 rfl ?_
  refine wg_aload_n C (dget kLaw2 154 rfl) 0 rfl ?_
  refine wg_iload_n C (dget kLaw2 155 rfl) 3 rfl ?_
  refine wg_iconst (v := nI 1) C (dget kLaw2 156 rfl) (by decide) ?_
  refine wg_iadd C (dget kLaw2 157 rfl) ?_
  refine wg_sld C hs hbl (vin_law 1 (by omega) hL) (dget kLaw2 158 rfl) ?_
  refine wg_aload_n C (dget kLaw2 159 rfl) 0 rfl ?_
  refine wg_iload_n C (dget kLaw2 160 rfl) 3 rfl ?_
  refine wg_iconst (v := nI 2) C (dget kLaw2 161 rfl) (by decide) ?_
  refine wg_iadd C (dget kLaw2 162 rfl) ?_
  refine wg_sld C hs hbl (vin_law 2 (by omega) hL) (dget kLaw2 163 rfl) ?_
  refine wg_aload_n C (dget kLaw2 164 rfl) 0 rfl ?_
  refine wg_iload_n C (dget kLaw2 165 rfl) 3 rfl ?_
  refine wg_iconst (v := nI 3) C (dget kLaw2 166 rfl) (by decide) ?_
  refine wg_iadd C (dget kLaw2 167 rfl) ?_
  refine wg_sld C hs hbl (vin_law 3 (by omega) hL) (dget kLaw2 168 rfl) ?_
  refine wg_callV (Mc := mX9_fairs) (o := 71) (ci := 9) (As := [.int (xs (nI i + nI 1).toNatClampNeg), .int (xs (nI i + nI 2).toNatClampNeg), .int (xs (nI i + nI 3).toNatClampNeg)]) (rest := [.int r1]) C hX hG cfL_137 cv_X9_fairs rfl rfl ⟨(Nat.le_of_ble_eq_true rfl), (Nat.le_of_ble_eq_true rfl)⟩ rfl rfl (Nat.le_of_ble_eq_true rfl) ⟨(Nat.le_of_ble_eq_true rfl), (Nat.le_of_ble_eq_true rfl)⟩ (dget kLaw2 169 rfl) (tX9_fairs hq1) (fun v τ2 hv => ?_)
  obtain ⟨r2, rfl, hq2⟩ := hv
  refine wl_st (st' := [.int r2, .int r1]) rfl ?_
  exact wg_icmp_eq (tgt := 1326) C (dget kLaw2 170 rfl) (by decide) (fun _ => nx τ2 hq2.2) (fun h => absurd hq2.1 h)
theorem lwc_30 (W0 : LWc G p s m c b L xs) (hi : i + 6 ≤ L) (hI : Inv σ) (nx : ∀ τ, Inv τ → WG p l e room_1 s m #[Value.ref b] below meth c G.2 (fun q => s.heap.size ≤ q) 4 (lw_Z below #[Value.ref b] s) 1326 [(0, .ref b), (1, .ref (G.1 0)), (2, .ref (G.1 71)), (3, .int (nI i))] [] (wl G τ) 600000 7302250) : WG p l e room_1 s m #[Value.ref b] below meth c G.2 (fun q => s.heap.size ≤ q) 4 (lw_Z below #[Value.ref b] s) 1031 [(0, .ref b), (1, .ref (G.1 0)), (2, .ref (G.1 71)), (3, .int (nI i))] [] (wl G σ) 600000 7302250 := by
  obtain ⟨C, hX, hG, hs, hbl, hL⟩ := W0
  refine wg_aload_n C (dget kLaw2 173 rfl) 1 rfl ?_
  refine wg_aload_n C (dget kLaw2 174 rfl) 0 rfl ?_
  refine wg_iload_n C (dget kLaw2 175 rfl) 3 rfl ?_
  refine wg_iconst (v := nI 1) C (dget kLaw2 176 rfl) (by decide) ?_
  refine wg_iadd C (dget kLaw2 177 rfl) ?_
  refine wg_sld C hs hbl (vin_law 1 (by omega) hL) (dget kLaw2 178 rfl) ?_
  refine wg_aload_n C (dget kLaw2 179 rfl) 0 rfl ?_
  refine wg_iload_n C (dget kLaw2 180 rfl) 3 rfl ?_
  refine wg_iconst (v := nI 2) C (dget kLaw2 181 rfl) (by decide) ?_
  refine wg_iadd C (dget kLaw2 182 rfl) ?_
  refine wg_sld C hs hbl (vin_law 2 (by omega) hL) (dget kLaw2 183 rfl) ?_
  refine wg_aload_n C (dget kLaw2 184 rfl) 0 rfl ?_
  refine wg_iload_n C (dget kLaw2 185 rfl) 3 rfl ?_
  refine wg_iconst (v := nI 3) C (dget kLaw2 186 rfl) (by decide) ?_
  refine wg_iadd C (dget kLaw2 187 rfl) ?_
  refine wg_sld C hs hbl (vin_law 3 (by omega) hL) (dget kLaw2 188 rfl) ?_
  refine wg_callV (Mc := mX8_sheet) (o := 0) (ci := 8) (As := [.int (xs (nI i + nI 1).toNatClampNeg), .int (xs (nI i + nI 2).toNatClampNeg), .int (xs (nI i + nI 3).toNatClampNeg)]) (rest := []) C hX hG cfL_138 cv_X8_sheet rfl rfl ⟨(Nat.le_of_ble_eq_true rfl), (Nat.le_of_ble_eq_true rfl)⟩ rfl rfl (Nat.le_of_ble_eq_true rfl) ⟨(Nat.le_of_ble_eq_true rfl), (Nat.le_of_ble_eq_true rfl)⟩ (dget kLaw2 189 rfl) (tX8_sheet (st_sheet hI (post := fun a b τ => a = b ∧ Inv τ) (fun a τ h => ⟨rfl, h⟩))) (fun v τ1 hv => ?_)
  obtain ⟨r1, rfl, hq1⟩ := hv
  refine wl_st (st' := [.int r1]) rfl ?_
  refine wg_aload_n C (dget kLaw2 190 rfl) 2 rfl ?_
  refine wg_aload_n C (dget kLaw2 191 rfl) 0 rfl ?_
  refine wg_iload_n C (dget kLaw2 192 rfl) 3 rfl ?_
  refine wg_iconst (v := nI 1) C (dget kLaw2 193 rfl) (by decide) ?_
  refine wg_iadd C (dget kLaw2 194 rfl) ?_
  refine wg_sld C hs hbl (vin_law 1 (by omega) hL) (dget kLaw2 195 rfl) ?_
  refine wg_aload_n C (dget kLaw2 196 rfl) 0 rfl ?_
  refine wg_iload_n C (dget kLaw2 197 rfl) 3 rfl ?_
  refine wg_iconst (v := nI 2) C (dget kLaw2 198 rfl) (by decide) ?_
  refine wg_iadd C (dget kLaw2 199 rfl) ?_
  refine wg_sld C hs hbl (vin_law 2 (by omega) hL) (dget kLaw2 200 rfl) ?_
  refine wg_aload_n C (dget kLaw2 201 rfl) 0 rfl ?_
  refine wg_iload_n C (dget kLaw2 202 rfl) 3 rfl ?_
  refine wg_iconst (v := nI 3) C (dget kLaw2 203 rfl) (by decide) ?_
  refine wg_iadd C (dget kLaw2 204 rfl) ?_
  refine wg_sld C hs hbl (vin_law 3 (by omega) hL) (dget kLaw2 205 rfl) ?_
  refine wg_callV (Mc := mX9_sheet) (o := 71) (ci := 9) (As := [.int (xs (nI i + nI 1).toNatClampNeg), .int (xs (nI i + nI 2).toNatClampNeg), .int (xs (nI i + nI 3).toNatClampNeg)]) (rest := [.int r1]) C hX hG cfL_141 cv_X9_sheet rfl rfl ⟨(Nat.le_of_ble_eq_true rfl), (Nat.le_of_ble_eq_true rfl)⟩ rfl rfl (Nat.le_of_ble_eq_true rfl) ⟨(Nat.le_of_ble_eq_true rfl), (Nat.le_of_ble_eq_true rfl)⟩ (dget kLaw2 206 rfl) (tX9_sheet hq1) (fun v τ2 hv => ?_)
  obtain ⟨r2, rfl, hq2⟩ := hv
  refine wl_st (st' := [.int r2, .int r1]) rfl ?_
  exact wg_icmp_eq (tgt := 1326) C (dget kLaw2 207 rfl) (by decide) (fun _ => nx τ2 hq2.2) (fun h => absurd hq2.1 h)
theorem lwc_31 (W0 : LWc G p s m c b L xs) (hi : i + 6 ≤ L) (hI : Inv σ) (nx : ∀ τ, Inv τ → WG p l e room_1 s m #[Value.ref b] below meth c G.2 (fun q => s.heap.size ≤ q) 4 (lw_Z below #[Value.ref b] s) 1326 [(0, .ref b), (1, .ref (G.1 0)), (2, .ref (G.1 71)), (3, .int (nI i))] [] (wl G τ) 600000 7302250) : WG p l e room_1 s m #[Value.ref b] below meth c G.2 (fun q => s.heap.size ≤ q) 4 (lw_Z below #[Value.ref b] s) 1074 [(0, .ref b), (1, .ref (G.1 0)), (2, .ref (G.1 71)), (3, .int (nI i))] [] (wl G σ) 600000 7302250 := by
  obtain ⟨C, hX, hG, hs, hbl, hL⟩ := W0
  refine wg_aload_n C (dget kLaw2 210 rfl) 1 rfl ?_
  refine wg_aload_n C (dget kLaw2 211 rfl) 0 rfl ?_
  refine wg_iload_n C (dget kLaw2 212 rfl) 3 rfl ?_
  refine wg_iconst (v := nI 1) C (dget kLaw2 213 rfl) (by decide) ?_
  refine wg_iadd C (dget kLaw2 214 rfl) ?_
  refine wg_sld C hs hbl (vin_law 1 (by omega) hL) (dget kLaw2 215 rfl) ?_
  refine wg_callV (Mc := mX8_lose) (o := 0) (ci := 8) (As := [.int (xs (nI i + nI 1).toNatClampNeg)]) (rest := []) C hX hG cfL_142 cv_X8_lose rfl rfl ⟨(Nat.le_of_ble_eq_true rfl), (Nat.le_of_ble_eq_true rfl)⟩ rfl rfl (Nat.le_of_ble_eq_true rfl) ⟨(Nat.le_of_ble_eq_true rfl), (Nat.le_of_ble_eq_true rfl)⟩ (dget kLaw2 216 rfl) (tX8_lose (st_lose hI (post := fun a b τ => a = b ∧ Inv τ) (fun a τ h => ⟨rfl, h⟩))) (fun v τ1 hv => ?_)
  obtain ⟨r1, rfl, hq1⟩ := hv
  refine wl_st (st' := [.int r1]) rfl ?_
  refine wg_aload_n C (dget kLaw2 217 rfl) 2 rfl ?_
  refine wg_aload_n C (dget kLaw2 218 rfl) 0 rfl ?_
  refine wg_iload_n C (dget kLaw2 219 rfl) 3 rfl ?_
  refine wg_iconst (v := nI 1) C (dget kLaw2 220 rfl) (by decide) ?_
  refine wg_iadd C (dget kLaw2 221 rfl) ?_
  refine wg_sld C hs hbl (vin_law 1 (by omega) hL) (dget kLaw2 222 rfl) ?_
  refine wg_callV (Mc := mX9_lose) (o := 71) (ci := 9) (As := [.int (xs (nI i + nI 1).toNatClampNeg)]) (rest := [.int r1]) C hX hG cfL_145 cv_X9_lose rfl rfl ⟨(Nat.le_of_ble_eq_true rfl), (Nat.le_of_ble_eq_true rfl)⟩ rfl rfl (Nat.le_of_ble_eq_true rfl) ⟨(Nat.le_of_ble_eq_true rfl), (Nat.le_of_ble_eq_true rfl)⟩ (dget kLaw2 223 rfl) (tX9_lose hq1) (fun v τ2 hv => ?_)
  obtain ⟨r2, rfl, hq2⟩ := hv
  refine wl_st (st' := [.int r2, .int r1]) rfl ?_
  exact wg_icmp_eq (tgt := 1326) C (dget kLaw2 224 rfl) (by decide) (fun _ => nx τ2 hq2.2) (fun h => absurd hq2.1 h)
theorem lwc_32 (W0 : LWc G p s m c b L xs) (hi : i + 6 ≤ L) (hI : Inv σ) (nx : ∀ τ, Inv τ → WG p l e room_1 s m #[Value.ref b] below meth c G.2 (fun q => s.heap.size ≤ q) 4 (lw_Z below #[Value.ref b] s) 1326 [(0, .ref b), (1, .ref (G.1 0)), (2, .ref (G.1 71)), (3, .int (nI i))] [] (wl G τ) 600000 7302250) : WG p l e room_1 s m #[Value.ref b] below meth c G.2 (fun q => s.heap.size ≤ q) 4 (lw_Z below #[Value.ref b] s) 1097 [(0, .ref b), (1, .ref (G.1 0)), (2, .ref (G.1 71)), (3, .int (nI i))] [] (wl G σ) 600000 7302250 := by
  obtain ⟨C, hX, hG, hs, hbl, hL⟩ := W0
  refine wg_aload_n C (dget kLaw2 227 rfl) 1 rfl ?_
  refine wg_aload_n C (dget kLaw2 228 rfl) 0 rfl ?_
  refine wg_iload_n C (dget kLaw2 229 rfl) 3 rfl ?_
  refine wg_iconst (v := nI 1) C (dget kLaw2 230 rfl) (by decide) ?_
  refine wg_iadd C (dget kLaw2 231 rfl) ?_
  refine wg_sld C hs hbl (vin_law 1 (by omega) hL) (dget kLaw2 232 rfl) ?_
  refine wg_aload_n C (dget kLaw2 233 rfl) 0 rfl ?_
  refine wg_iload_n C (dget kLaw2 234 rfl) 3 rfl ?_
  refine wg_iconst (v := nI 2) C (dget kLaw2 235 rfl) (by decide) ?_
  refine wg_iadd C (dget kLaw2 236 rfl) ?_
  refine wg_sld C hs hbl (vin_law 2 (by omega) hL) (dget kLaw2 237 rfl) ?_
  refine wg_aload_n C (dget kLaw2 238 rfl) 0 rfl ?_
  refine wg_iload_n C (dget kLaw2 239 rfl) 3 rfl ?_
  refine wg_iconst (v := nI 3) C (dget kLaw2 240 rfl) (by decide) ?_
  refine wg_iadd C (dget kLaw2 241 rfl) ?_
  refine wg_sld C hs hbl (vin_law 3 (by omega) hL) (dget kLaw2 242 rfl) ?_
  refine wg_aload_n C (dget kLaw2 243 rfl) 0 rfl ?_
  refine wg_iload_n C (dget kLaw2 244 rfl) 3 rfl ?_
  refine wg_iconst (v := nI 4) C (dget kLaw2 245 rfl) (by decide) ?_
  refine wg_iadd C (dget kLaw2 246 rfl) ?_
  refine wg_sld C hs hbl (vin_law 4 (by omega) hL) (dget kLaw2 247 rfl) ?_
  refine wg_callV (Mc := mX8_lay) (o := 0) (ci := 8) (As := [.int (xs (nI i + nI 1).toNatClampNeg), .int (xs (nI i + nI 2).toNatClampNeg), .int (xs (nI i + nI 3).toNatClampNeg), .int (xs (nI i + nI 4).toNatClampNeg)]) (rest := []) C hX hG cfL_146 cv_X8_lay rfl rfl ⟨(Nat.le_of_ble_eq_true rfl), (Nat.le_of_ble_eq_true rfl)⟩ rfl rfl (Nat.le_of_ble_eq_true rfl) ⟨(Nat.le_of_ble_eq_true rfl), (Nat.le_of_ble_eq_true rfl)⟩ (dget kLaw2 248 rfl) (tX8_lay (st_lay hI (post := fun a b τ => a = b ∧ Inv τ) (fun a τ h => ⟨rfl, h⟩))) (fun v τ1 hv => ?_)
  obtain ⟨r1, rfl, hq1⟩ := hv
  refine wl_st (st' := [.int r1]) rfl ?_
  refine wg_aload_n C (dget kLaw2 249 rfl) 2 rfl ?_
  refine wg_aload_n C (dget kLaw3 0 rfl) 0 rfl ?_
  refine wg_iload_n C (dget kLaw3 1 rfl) 3 rfl ?_
  refine wg_iconst (v := nI 1) C (dget kLaw3 2 rfl) (by decide) ?_
  refine wg_iadd C (dget kLaw3 3 rfl) ?_
  refine wg_sld C hs hbl (vin_law 1 (by omega) hL) (dget kLaw3 4 rfl) ?_
  refine wg_aload_n C (dget kLaw3 5 rfl) 0 rfl ?_
  refine wg_iload_n C (dget kLaw3 6 rfl) 3 rfl ?_
  refine wg_iconst (v := nI 2) C (dget kLaw3 7 rfl) (by decide) ?_
  refine wg_iadd C (dget kLaw3 8 rfl) ?_
  refine wg_sld C hs hbl (vin_law 2 (by omega) hL) (dget kLaw3 9 rfl) ?_
  refine wg_aload_n C (dget kLaw3 10 rfl) 0 rfl ?_
  refine wg_iload_n C (dget kLaw3 11 rfl) 3 rfl ?_
  refine wg_iconst (v := nI 3) C (dget kLaw3 12 rfl) (by decide) ?_
  refine wg_iadd C (dget kLaw3 13 rfl) ?_
  refine wg_sld C hs hbl (vin_law 3 (by omega) hL) (dget kLaw3 14 rfl) ?_
  refine wg_aload_n C (dget kLaw3 15 rfl) 0 rfl ?_
  refine wg_iload_n C (dget kLaw3 16 rfl) 3 rfl ?_
  refine wg_iconst (v := nI 4) C (dget kLaw3 17 rfl) (by decide) ?_
  refine wg_iadd C (dget kLaw3 18 rfl) ?_
  refine wg_sld C hs hbl (vin_law 4 (by omega) hL) (dget kLaw3 19 rfl) ?_
  refine wg_callV (Mc := mX9_lay) (o := 71) (ci := 9) (As := [.int (xs (nI i + nI 1).toNatClampNeg), .int (xs (nI i + nI 2).toNatClampNeg), .int (xs (nI i + nI 3).toNatClampNeg), .int (xs (nI i + nI 4).toNatClampNeg)]) (rest := [.int r1]) C hX hG cfL_150 cv_X9_lay rfl rfl ⟨(Nat.le_of_ble_eq_true rfl), (Nat.le_of_ble_eq_true rfl)⟩ rfl rfl (Nat.le_of_ble_eq_true rfl) ⟨(Nat.le_of_ble_eq_true rfl), (Nat.le_of_ble_eq_true rfl)⟩ (dget kLaw3 20 rfl) (tX9_lay hq1) (fun v τ2 hv => ?_)
  obtain ⟨r2, rfl, hq2⟩ := hv
  refine wl_st (st' := [.int r2, .int r1]) rfl ?_
  exact wg_icmp_eq (tgt := 1326) C (dget kLaw3 21 rfl) (by decide) (fun _ => nx τ2 hq2.2) (fun h => absurd hq2.1 h)
theorem lwc_33 (W0 : LWc G p s m c b L xs) (hi : i + 6 ≤ L) (hI : Inv σ) (nx : ∀ τ, Inv τ → WG p l e room_1 s m #[Value.ref b] below meth c G.2 (fun q => s.heap.size ≤ q) 4 (lw_Z below #[Value.ref b] s) 1326 [(0, .ref b), (1, .ref (G.1 0)), (2, .ref (G.1 71)), (3, .int (nI i))] [] (wl G τ) 600000 7302250) : WG p l e room_1 s m #[Value.ref b] below meth c G.2 (fun q => s.heap.size ≤ q) 4 (lw_Z below #[Value.ref b] s) 1150 [(0, .ref b), (1, .ref (G.1 0)), (2, .ref (G.1 71)), (3, .int (nI i))] [] (wl G σ) 600000 7302250 := by
  obtain ⟨C, hX, hG, hs, hbl, hL⟩ := W0
  refine wg_aload_n C (dget kLaw3 24 rfl) 1 rfl ?_
  refine wg_aload_n C (dget kLaw3 25 rfl) 0 rfl ?_
  refine wg_iload_n C (dget kLaw3 26 rfl) 3 rfl ?_
  refine wg_iconst (v := nI 1) C (dget kLaw3 27 rfl) (by decide) ?_
  refine wg_iadd C (dget kLaw3 28 rfl) ?_
  refine wg_sld C hs hbl (vin_law 1 (by omega) hL) (dget kLaw3 29 rfl) ?_
  refine wg_aload_n C (dget kLaw3 30 rfl) 0 rfl ?_
  refine wg_iload_n C (dget kLaw3 31 rfl) 3 rfl ?_
  refine wg_iconst (v := nI 2) C (dget kLaw3 32 rfl) (by decide) ?_
  refine wg_iadd C (dget kLaw3 33 rfl) ?_
  refine wg_sld C hs hbl (vin_law 2 (by omega) hL) (dget kLaw3 34 rfl) ?_
  refine wg_aload_n C (dget kLaw3 35 rfl) 0 rfl ?_
  refine wg_iload_n C (dget kLaw3 36 rfl) 3 rfl ?_
  refine wg_iconst (v := nI 3) C (dget kLaw3 37 rfl) (by decide) ?_
  refine wg_iadd C (dget kLaw3 38 rfl) ?_
  refine wg_sld C hs hbl (vin_law 3 (by omega) hL) (dget kLaw3 39 rfl) ?_
  refine wg_callV (Mc := mX8_get) (o := 0) (ci := 8) (As := [.int (xs (nI i + nI 1).toNatClampNeg), .int (xs (nI i + nI 2).toNatClampNeg), .int (xs (nI i + nI 3).toNatClampNeg)]) (rest := []) C hX hG cfL_151 cv_X8_get rfl rfl ⟨(Nat.le_of_ble_eq_true rfl), (Nat.le_of_ble_eq_true rfl)⟩ rfl rfl (Nat.le_of_ble_eq_true rfl) ⟨(Nat.le_of_ble_eq_true rfl), (Nat.le_of_ble_eq_true rfl)⟩ (dget kLaw3 40 rfl) (tX8_get (st_get hI (post := fun a b τ => a = b ∧ Inv τ) (fun a τ h => ⟨rfl, h⟩))) (fun v τ1 hv => ?_)
  obtain ⟨r1, rfl, hq1⟩ := hv
  refine wl_st (st' := [.int r1]) rfl ?_
  refine wg_aload_n C (dget kLaw3 41 rfl) 2 rfl ?_
  refine wg_aload_n C (dget kLaw3 42 rfl) 0 rfl ?_
  refine wg_iload_n C (dget kLaw3 43 rfl) 3 rfl ?_
  refine wg_iconst (v := nI 1) C (dget kLaw3 44 rfl) (by decide) ?_
  refine wg_iadd C (dget kLaw3 45 rfl) ?_
  refine wg_sld C hs hbl (vin_law 1 (by omega) hL) (dget kLaw3 46 rfl) ?_
  refine wg_aload_n C (dget kLaw3 47 rfl) 0 rfl ?_
  refine wg_iload_n C (dget kLaw3 48 rfl) 3 rfl ?_
  refine wg_iconst (v := nI 2) C (dget kLaw3 49 rfl) (by decide) ?_
  refine wg_iadd C (dget kLaw3 50 rfl) ?_
  refine wg_sld C hs hbl (vin_law 2 (by omega) hL) (dget kLaw3 51 rfl) ?_
  refine wg_aload_n C (dget kLaw3 52 rfl) 0 rfl ?_
  refine wg_iload_n C (dget kLaw3 53 rfl) 3 rfl ?_
  refine wg_iconst (v := nI 3) C (dget kLaw3 54 rfl) (by decide) ?_
  refine wg_iadd C (dget kLaw3 55 rfl) ?_
  refine wg_sld C hs hbl (vin_law 3 (by omega) hL) (dget kLaw3 56 rfl) ?_
  refine wg_callV (Mc := mX9_get) (o := 71) (ci := 9) (As := [.int (xs (nI i + nI 1).toNatClampNeg), .int (xs (nI i + nI 2).toNatClampNeg), .int (xs (nI i + nI 3).toNatClampNeg)]) (rest := [.int r1]) C hX hG cfL_154 cv_X9_get rfl rfl ⟨(Nat.le_of_ble_eq_true rfl), (Nat.le_of_ble_eq_true rfl)⟩ rfl rfl (Nat.le_of_ble_eq_true rfl) ⟨(Nat.le_of_ble_eq_true rfl), (Nat.le_of_ble_eq_true rfl)⟩ (dget kLaw3 57 rfl) (tX9_get hq1) (fun v τ2 hv => ?_)
  obtain ⟨r2, rfl, hq2⟩ := hv
  refine wl_st (st' := [.int r2, .int r1]) rfl ?_
  exact wg_icmp_eq (tgt := 1326) C (dget kLaw3 58 rfl) (by decide) (fun _ => nx τ2 hq2.2) (fun h => absurd hq2.1 h)
theorem lwc_34 (W0 : LWc G p s m c b L xs) (hi : i + 6 ≤ L) (hI : Inv σ) (nx : ∀ τ, Inv τ → WG p l e room_1 s m #[Value.ref b] below meth c G.2 (fun q => s.heap.size ≤ q) 4 (lw_Z below #[Value.ref b] s) 1326 [(0, .ref b), (1, .ref (G.1 0)), (2, .ref (G.1 71)), (3, .int (nI i))] [] (wl G τ) 600000 7302250) : WG p l e room_1 s m #[Value.ref b] below meth c G.2 (fun q => s.heap.size ≤ q) 4 (lw_Z below #[Value.ref b] s) 1193 [(0, .ref b), (1, .ref (G.1 0)), (2, .ref (G.1 71)), (3, .int (nI i))] [] (wl G σ) 600000 7302250 := by
  obtain ⟨C, hX, hG, hs, hbl, hL⟩ := W0
  refine wg_aload_n C (dget kLaw3 61 rfl) 1 rfl ?_
  refine wg_aload_n C (dget kLaw3 62 rfl) 0 rfl ?_
  refine wg_iload_n C (dget kLaw3 63 rfl) 3 rfl ?_
  refine wg_iconst (v := nI 1) C (dget kLaw3 64 rfl) (by decide) ?_
  refine wg_iadd C (dget kLaw3 65 rfl) ?_
  refine wg_sld C hs hbl (vin_law 1 (by omega) hL) (dget kLaw3 66 rfl) ?_
  refine wg_aload_n C (dget kLaw3 67 rfl) 0 rfl ?_
  refine wg_iload_n C (dget kLaw3 68 rfl) 3 rfl ?_
  refine wg_iconst (v := nI 2) C (dget kLaw3 69 rfl) (by decide) ?_
  refine wg_iadd C (dget kLaw3 70 rfl) ?_
  refine wg_sld C hs hbl (vin_law 2 (by omega) hL) (dget kLaw3 71 rfl) ?_
  refine wg_aload_n C (dget kLaw3 72 rfl) 0 rfl ?_
  refine wg_iload_n C (dget kLaw3 73 rfl) 3 rfl ?_
  refine wg_iconst (v := nI 3) C (dget kLaw3 74 rfl) (by decide) ?_
  refine wg_iadd C (dget kLaw3 75 rfl) ?_
  refine wg_sld C hs hbl (vin_law 3 (by omega) hL) (dget kLaw3 76 rfl) ?_
  refine wg_aload_n C (dget kLaw3 77 rfl) 0 rfl ?_
  refine wg_iload_n C (dget kLaw3 78 rfl) 3 rfl ?_
  refine wg_iconst (v := nI 4) C (dget kLaw3 79 rfl) (by decide) ?_
  refine wg_iadd C (dget kLaw3 80 rfl) ?_
  refine wg_sld C hs hbl (vin_law 4 (by omega) hL) (dget kLaw3 81 rfl) ?_
  refine wg_aload_n C (dget kLaw3 82 rfl) 0 rfl ?_
  refine wg_iload_n C (dget kLaw3 83 rfl) 3 rfl ?_
  refine wg_iconst (v := nI 5) C (dget kLaw3 84 rfl) (by decide) ?_
  refine wg_iadd C (dget kLaw3 85 rfl) ?_
  refine wg_sld C hs hbl (vin_law 5 (by omega) hL) (dget kLaw3 86 rfl) ?_
  refine wg_callV (Mc := mX8_copy) (o := 0) (ci := 8) (As := [.int (xs (nI i + nI 1).toNatClampNeg), .int (xs (nI i + nI 2).toNatClampNeg), .int (xs (nI i + nI 3).toNatClampNeg), .int (xs (nI i + nI 4).toNatClampNeg), .int (xs (nI i + nI 5).toNatClampNeg)]) (rest := []) C hX hG cfL_155 cv_X8_copy rfl rfl ⟨(Nat.le_of_ble_eq_true rfl), (Nat.le_of_ble_eq_true rfl)⟩ rfl rfl (Nat.le_of_ble_eq_true rfl) ⟨(Nat.le_of_ble_eq_true rfl), (Nat.le_of_ble_eq_true rfl)⟩ (dget kLaw3 87 rfl) (tX8_copy (st_copy hI (post := fun a b τ => a = b ∧ Inv τ) (fun a τ h => ⟨rfl, h⟩))) (fun v τ1 hv => ?_)
  obtain ⟨r1, rfl, hq1⟩ := hv
  refine wl_st (st' := [.int r1]) rfl ?_
  refine wg_aload_n C (dget kLaw3 88 rfl) 2 rfl ?_
  refine wg_aload_n C (dget kLaw3 89 rfl) 0 rfl ?_
  refine wg_iload_n C (dget kLaw3 90 rfl) 3 rfl ?_
  refine wg_iconst (v := nI 1) C (dget kLaw3 91 rfl) (by decide) ?_
  refine wg_iadd C (dget kLaw3 92 rfl) ?_
  refine wg_sld C hs hbl (vin_law 1 (by omega) hL) (dget kLaw3 93 rfl) ?_
  refine wg_aload_n C (dget kLaw3 94 rfl) 0 rfl ?_
  refine wg_iload_n C (dget kLaw3 95 rfl) 3 rfl ?_
  refine wg_iconst (v := nI 2) C (dget kLaw3 96 rfl) (by decide) ?_
  refine wg_iadd C (dget kLaw3 97 rfl) ?_
  refine wg_sld C hs hbl (vin_law 2 (by omega) hL) (dget kLaw3 98 rfl) ?_
  refine wg_aload_n C (dget kLaw3 99 rfl) 0 rfl ?_
  refine wg_iload_n C (dget kLaw3 100 rfl) 3 rfl ?_
  refine wg_iconst (v := nI 3) C (dget kLaw3 101 rfl) (by decide) ?_
  refine wg_iadd C (dget kLaw3 102 rfl) ?_
  refine wg_sld C hs hbl (vin_law 3 (by omega) hL) (dget kLaw3 103 rfl) ?_
  refine wg_aload_n C (dget kLaw3 104 rfl) 0 rfl ?_
  refine wg_iload_n C (dget kLaw3 105 rfl) 3 rfl ?_
  refine wg_iconst (v := nI 4) C (dget kLaw3 106 rfl) (by decide) ?_
  refine wg_iadd C (dget kLaw3 107 rfl) ?_
  refine wg_sld C hs hbl (vin_law 4 (by omega) hL) (dget kLaw3 108 rfl) ?_
  refine wg_aload_n C (dget kLaw3 109 rfl) 0 rfl ?_
  refine wg_iload_n C (dget kLaw3 110 rfl) 3 rfl ?_
  refine wg_iconst (v := nI 5) C (dget kLaw3 111 rfl) (by decide) ?_
  refine wg_iadd C (dget kLaw3 112 rfl) ?_
  refine wg_sld C hs hbl (vin_law 5 (by omega) hL) (dget kLaw3 113 rfl) ?_
  refine wg_callV (Mc := mX9_copy) (o := 71) (ci := 9) (As := [.int (xs (nI i + nI 1).toNatClampNeg), .int (xs (nI i + nI 2).toNatClampNeg), .int (xs (nI i + nI 3).toNatClampNeg), .int (xs (nI i + nI 4).toNatClampNeg), .int (xs (nI i + nI 5).toNatClampNeg)]) (rest := [.int r1]) C hX hG cfL_159 cv_X9_copy rfl rfl ⟨(Nat.le_of_ble_eq_true rfl), (Nat.le_of_ble_eq_true rfl)⟩ rfl rfl (Nat.le_of_ble_eq_true rfl) ⟨(Nat.le_of_ble_eq_true rfl), (Nat.le_of_ble_eq_true rfl)⟩ (dget kLaw3 114 rfl) (tX9_copy hq1) (fun v τ2 hv => ?_)
  obtain ⟨r2, rfl, hq2⟩ := hv
  refine wl_st (st' := [.int r2, .int r1]) rfl ?_
  exact wg_icmp_eq (tgt := 1326) C (dget kLaw3 115 rfl) (by decide) (fun _ => nx τ2 hq2.2) (fun h => absurd hq2.1 h)
theorem lwc_35 (W0 : LWc G p s m c b L xs) (hi : i + 6 ≤ L) (hI : Inv σ) (nx : ∀ τ, Inv τ → WG p l e room_1 s m #[Value.ref b] below meth c G.2 (fun q => s.heap.size ≤ q) 4 (lw_Z below #[Value.ref b] s) 1326 [(0, .ref b), (1, .ref (G.1 0)), (2, .ref (G.1 71)), (3, .int (nI i))] [] (wl G τ) 600000 7302250) : WG p l e room_1 s m #[Value.ref b] below meth c G.2 (fun q => s.heap.size ≤ q) 4 (lw_Z below #[Value.ref b] s) 1256 [(0, .ref b), (1, .ref (G.1 0)), (2, .ref (G.1 71)), (3, .int (nI i))] [] (wl G σ) 600000 7302250 := by
  obtain ⟨C, hX, hG, hs, hbl, hL⟩ := W0
  refine wg_aload_n C (dget kLaw3 118 rfl) 1 rfl ?_
  refine wg_aload_n C (dget kLaw3 119 rfl) 0 rfl ?_
  refine wg_iload_n C (dget kLaw3 120 rfl) 3 rfl ?_
  refine wg_iconst (v := nI 1) C (dget kLaw3 121 rfl) (by decide) ?_
  refine wg_iadd C (dget kLaw3 122 rfl) ?_
  refine wg_sld C hs hbl (vin_law 1 (by omega) hL) (dget kLaw3 123 rfl) ?_
  refine wg_aload_n C (dget kLaw3 124 rfl) 0 rfl ?_
  refine wg_iload_n C (dget kLaw3 125 rfl) 3 rfl ?_
  refine wg_iconst (v := nI 2) C (dget kLaw3 126 rfl) (by decide) ?_
  refine wg_iadd C (dget kLaw3 127 rfl) ?_
  refine wg_sld C hs hbl (vin_law 2 (by omega) hL) (dget kLaw3 128 rfl) ?_
  refine wg_callV (Mc := mX8_write) (o := 0) (ci := 8) (As := [.int (xs (nI i + nI 1).toNatClampNeg), .int (xs (nI i + nI 2).toNatClampNeg)]) (rest := []) C hX hG cfL_160 cv_X8_write rfl rfl ⟨(Nat.le_of_ble_eq_true rfl), (Nat.le_of_ble_eq_true rfl)⟩ rfl rfl (Nat.le_of_ble_eq_true rfl) ⟨(Nat.le_of_ble_eq_true rfl), (Nat.le_of_ble_eq_true rfl)⟩ (dget kLaw3 129 rfl) (tX8_write (st_write hI (post := fun a b τ => a = b ∧ Inv τ) (fun a τ h => ⟨rfl, h⟩))) (fun v τ1 hv => ?_)
  obtain ⟨r1, rfl, hq1⟩ := hv
  refine wl_st (st' := [.int r1]) rfl ?_
  refine wg_aload_n C (dget kLaw3 130 rfl) 2 rfl ?_
  refine wg_aload_n C (dget kLaw3 131 rfl) 0 rfl ?_
  refine wg_iload_n C (dget kLaw3 132 rfl) 3 rfl ?_
  refine wg_iconst (v := nI 1) C (dget kLaw3 133 rfl) (by decide) ?_
  refine wg_iadd C (dget kLaw3 134 rfl) ?_
  refine wg_sld C hs hbl (vin_law 1 (by omega) hL) (dget kLaw3 135 rfl) ?_
  refine wg_aload_n C (dget kLaw3 136 rfl) 0 rfl ?_
  refine wg_iload_n C (dget kLaw3 137 rfl) 3 rfl ?_
  refine wg_iconst (v := nI 2) C (dget kLaw3 138 rfl) (by decide) ?_
  refine wg_iadd C (dget kLaw3 139 rfl) ?_
  refine wg_sld C hs hbl (vin_law 2 (by omega) hL) (dget kLaw3 140 rfl) ?_
  refine wg_callV (Mc := mX9_write) (o := 71) (ci := 9) (As := [.int (xs (nI i + nI 1).toNatClampNeg), .int (xs (nI i + nI 2).toNatClampNeg)]) (rest := [.int r1]) C hX hG cfL_163 cv_X9_write rfl rfl ⟨(Nat.le_of_ble_eq_true rfl), (Nat.le_of_ble_eq_true rfl)⟩ rfl rfl (Nat.le_of_ble_eq_true rfl) ⟨(Nat.le_of_ble_eq_true rfl), (Nat.le_of_ble_eq_true rfl)⟩ (dget kLaw3 141 rfl) (tX9_write hq1) (fun v τ2 hv => ?_)
  obtain ⟨r2, rfl, hq2⟩ := hv
  refine wl_st (st' := [.int r2, .int r1]) rfl ?_
  exact wg_icmp_eq (tgt := 1326) C (dget kLaw3 142 rfl) (by decide) (fun _ => nx τ2 hq2.2) (fun h => absurd hq2.1 h)
theorem lwc_36 (W0 : LWc G p s m c b L xs) (hi : i + 6 ≤ L) (hI : Inv σ) (nx : ∀ τ, Inv τ → WG p l e room_1 s m #[Value.ref b] below meth c G.2 (fun q => s.heap.size ≤ q) 4 (lw_Z below #[Value.ref b] s) 1326 [(0, .ref b), (1, .ref (G.1 0)), (2, .ref (G.1 71)), (3, .int (nI i))] [] (wl G τ) 600000 7302250) : WG p l e room_1 s m #[Value.ref b] below meth c G.2 (fun q => s.heap.size ≤ q) 4 (lw_Z below #[Value.ref b] s) 1289 [(0, .ref b), (1, .ref (G.1 0)), (2, .ref (G.1 71)), (3, .int (nI i))] [] (wl G σ) 600000 7302250 := by
  obtain ⟨C, hX, hG, hs, hbl, hL⟩ := W0
  refine wg_aload_n C (dget kLaw3 145 rfl) 1 rfl ?_
  refine wg_aload_n C (dget kLaw3 146 rfl) 0 rfl ?_
  refine wg_iload_n C (dget kLaw3 147 rfl) 3 rfl ?_
  refine wg_iconst (v := nI 1) C (dget kLaw3 148 rfl) (by decide) ?_
  refine wg_iadd C (dget kLaw3 149 rfl) ?_
  refine wg_sld C hs hbl (vin_law 1 (by omega) hL) (dget kLaw3 150 rfl) ?_
  refine wg_callV (Mc := mX8_count) (o := 0) (ci := 8) (As := [.int (xs (nI i + nI 1).toNatClampNeg)]) (rest := []) C hX hG cfL_164 cv_X8_count rfl rfl ⟨(Nat.le_of_ble_eq_true rfl), (Nat.le_of_ble_eq_true rfl)⟩ rfl rfl (Nat.le_of_ble_eq_true rfl) ⟨(Nat.le_of_ble_eq_true rfl), (Nat.le_of_ble_eq_true rfl)⟩ (dget kLaw3 151 rfl) (tX8_count (st_count hI (post := fun a b τ => a = b ∧ Inv τ) (fun a τ h => ⟨rfl, h⟩))) (fun v τ1 hv => ?_)
  obtain ⟨r1, rfl, hq1⟩ := hv
  refine wl_st (st' := [.int r1]) rfl ?_
  refine wg_aload_n C (dget kLaw3 152 rfl) 2 rfl ?_
  refine wg_aload_n C (dget kLaw3 153 rfl) 0 rfl ?_
  refine wg_iload_n C (dget kLaw3 154 rfl) 3 rfl ?_
  refine wg_iconst (v := nI 1) C (dget kLaw3 155 rfl) (by decide) ?_
  refine wg_iadd C (dget kLaw3 156 rfl) ?_
  refine wg_sld C hs hbl (vin_law 1 (by omega) hL) (dget kLaw3 157 rfl) ?_
  refine wg_callV (Mc := mX9_count) (o := 71) (ci := 9) (As := [.int (xs (nI i + nI 1).toNatClampNeg)]) (rest := [.int r1]) C hX hG cfL_167 cv_X9_count rfl rfl ⟨(Nat.le_of_ble_eq_true rfl), (Nat.le_of_ble_eq_true rfl)⟩ rfl rfl (Nat.le_of_ble_eq_true rfl) ⟨(Nat.le_of_ble_eq_true rfl), (Nat.le_of_ble_eq_true rfl)⟩ (dget kLaw3 158 rfl) (tX9_count hq1) (fun v τ2 hv => ?_)
  obtain ⟨r2, rfl, hq2⟩ := hv
  refine wl_st (st' := [.int r2, .int r1]) rfl ?_
  exact wg_icmp_eq (tgt := 1326) C (dget kLaw3 159 rfl) (by decide) (fun _ => nx τ2 hq2.2) (fun h => absurd hq2.1 h)
theorem lwc_37 (W0 : LWc G p s m c b L xs) (hi : i + 6 ≤ L) (hI : Inv σ) (nx : ∀ τ, Inv τ → WG p l e room_1 s m #[Value.ref b] below meth c G.2 (fun q => s.heap.size ≤ q) 4 (lw_Z below #[Value.ref b] s) 1326 [(0, .ref b), (1, .ref (G.1 0)), (2, .ref (G.1 71)), (3, .int (nI i))] [] (wl G τ) 600000 7302250) : WG p l e room_1 s m #[Value.ref b] below meth c G.2 (fun q => s.heap.size ≤ q) 4 (lw_Z below #[Value.ref b] s) 1312 [(0, .ref b), (1, .ref (G.1 0)), (2, .ref (G.1 71)), (3, .int (nI i))] [] (wl G σ) 600000 7302250 := by
  obtain ⟨C, hX, hG, hs, hbl, hL⟩ := W0
  refine wg_aload_n C (dget kLaw3 162 rfl) 1 rfl ?_
  refine wg_callV (Mc := mX8_digest) (o := 0) (ci := 8) (As := []) (rest := []) C hX hG cfL_168 cv_X8_digest rfl rfl ⟨(Nat.le_of_ble_eq_true rfl), (Nat.le_of_ble_eq_true rfl)⟩ rfl rfl (Nat.le_of_ble_eq_true rfl) ⟨(Nat.le_of_ble_eq_true rfl), (Nat.le_of_ble_eq_true rfl)⟩ (dget kLaw3 163 rfl) (tX8_digest (st_digest hI (post := fun a b τ => a = b ∧ Inv τ) (fun a τ h => ⟨rfl, h⟩))) (fun v τ1 hv => ?_)
  obtain ⟨r1, rfl, hq1⟩ := hv
  refine wl_st (st' := [.long r1]) rfl ?_
  refine wg_aload_n C (dget kLaw3 164 rfl) 2 rfl ?_
  refine wg_callV (Mc := mX9_digest) (o := 71) (ci := 9) (As := []) (rest := [.long r1]) C hX hG cfL_172 cv_X9_digest rfl rfl ⟨(Nat.le_of_ble_eq_true rfl), (Nat.le_of_ble_eq_true rfl)⟩ rfl rfl (Nat.le_of_ble_eq_true rfl) ⟨(Nat.le_of_ble_eq_true rfl), (Nat.le_of_ble_eq_true rfl)⟩ (dget kLaw3 165 rfl) (tX9_digest hq1) (fun v τ2 hv => ?_)
  obtain ⟨r2, rfl, hq2⟩ := hv
  refine wl_st (st' := [.long r2, .long r1]) rfl ?_
  refine wg_lcmp C (dget kLaw3 166 rfl) ?_
  exact wg_if_eq (tgt := 1326) C (dget kLaw3 167 rfl) (by decide) (fun _ => nx τ2 hq2.2) (fun h => absurd (by rw [hq2.1]; exact lg_self _) h)
end LAWC
