/-! ===== the law's loop ===== -/
theorem gt_law {L i : Nat} (hi : i ≤ L) (hL : L ≤ 3072) (h : ¬ (Int32.ofNat L - 6 < nI i)) : i + 6 ≤ L := by
  rcases Nat.lt_or_ge L 6 with h6 | h6
  · exfalso
    apply h
    have h0 : Int32.ofNat L - 6 < 0 := by
      rcases (show L = 0 ∨ L = 1 ∨ L = 2 ∨ L = 3 ∨ L = 4 ∨ L = 5 by omega) with rfl | rfl | rfl | rfl | rfl | rfl <;> decide
    have h1 : (0 : Int32) ≤ nI i := nI_pos' (by omega)
    exact Int32.lt_of_lt_of_le h0 h1
  · obtain ⟨k, rfl⟩ : ∃ k, L = k + 6 := ⟨L - 6, by omega⟩
    have e : Int32.ofNat (k + 6) - 6 = nI k := by
      have h2 : Int32.ofNat (k + 6) = nI k + 6 := (nI_add k 6).symm
      rw [h2, Int32.add_sub_cancel]
    rw [e, nI_ltI (by omega) (by omega)] at h
    omega
section LAWL
variable {p : Program} {l : Launch} {e : Env} {s : State} {m : MethodId} {below : List Frame} {meth : Method} {c : Code} {G : GT} {b L : Nat} {xs : Nat → Int32}
set_option maxHeartbeats 4000000 in
set_option maxRecDepth 100000 in
/-- the switch: every word of the script leads to the next round -/
theorem law_switch {i : Nat} {σ : Hp} {x : Int32} (W0 : LWc G p s m c b L xs) (hi : i + 6 ≤ L) (hI : Inv σ) (nx : ∀ τ, Inv τ → WG p l e room_1 s m #[Value.ref b] below meth c G.2 (fun q => s.heap.size ≤ q) 4 (lw_Z below #[Value.ref b] s) 1326 [(0, .ref b), (1, .ref (G.1 0)), (2, .ref (G.1 71)), (3, .int (nI i))] [] (wl G τ) 600000 7302250) : WG p l e room_1 s m #[Value.ref b] below meth c G.2 (fun q => s.heap.size ≤ q) 4 (lw_Z below #[Value.ref b] s) 33 [(0, .ref b), (1, .ref (G.1 0)), (2, .ref (G.1 71)), (3, .int (nI i))] [.int x] (wl G σ) 600000 7302250 := by
  have C := W0.1
  by_cases hx : x.toInt < 0 ∨ 37 < x.toInt
  · exact wg_tabOut (tgt := 1326) C (dget kLaw0 21 rfl) hx (by decide) (nx σ hI)
  · have h1 : ¬ x < 0 := fun h => hx (Or.inl (Int32.lt_iff_toInt_lt.mp h))
    have h2 : x ≤ 37 := Int32.le_iff_toInt_le.mpr (by show x.toInt ≤ 37; omega)
    obtain ⟨j, hj, rfl⟩ := nI_of2 (M := 37) (n := 37) rfl h1 h2
    match j, hj with
    | 0, _ => exact wg_tabIn (off := 167) (tgt := 200) C (dget kLaw0 21 rfl) (by decide) (by decide) (by decide) (by decide) (lwc_0 W0 hi hI nx)
    | 1, _ => exact wg_tabIn (off := 200) (tgt := 233) C (dget kLaw0 21 rfl) (by decide) (by decide) (by decide) (by decide) (lwc_1 W0 hi hI nx)
    | 2, _ => exact wg_tabIn (off := 223) (tgt := 256) C (dget kLaw0 21 rfl) (by decide) (by decide) (by decide) (by decide) (lwc_2 W0 hi hI nx)
    | 3, _ => exact wg_tabIn (off := 246) (tgt := 279) C (dget kLaw0 21 rfl) (by decide) (by decide) (by decide) (by decide) (lwc_3 W0 hi hI nx)
    | 4, _ => exact wg_tabIn (off := 269) (tgt := 302) C (dget kLaw0 21 rfl) (by decide) (by decide) (by decide) (by decide) (lwc_4 W0 hi hI nx)
    | 5, _ => exact wg_tabIn (off := 292) (tgt := 325) C (dget kLaw0 21 rfl) (by decide) (by decide) (by decide) (by decide) (lwc_5 W0 hi hI nx)
    | 6, _ => exact wg_tabIn (off := 325) (tgt := 358) C (dget kLaw0 21 rfl) (by decide) (by decide) (by decide) (by decide) (lwc_6 W0 hi hI nx)
    | 7, _ => exact wg_tabIn (off := 358) (tgt := 391) C (dget kLaw0 21 rfl) (by decide) (by decide) (by decide) (by decide) (lwc_7 W0 hi hI nx)
    | 8, _ => exact wg_tabIn (off := 391) (tgt := 424) C (dget kLaw0 21 rfl) (by decide) (by decide) (by decide) (by decide) (lwc_8 W0 hi hI nx)
    | 9, _ => exact wg_tabIn (off := 434) (tgt := 467) C (dget kLaw0 21 rfl) (by decide) (by decide) (by decide) (by decide) (lwc_9 W0 hi hI nx)
    | 10, _ => exact wg_tabIn (off := 447) (tgt := 480) C (dget kLaw0 21 rfl) (by decide) (by decide) (by decide) (by decide) (lwc_10 W0 hi hI nx)
    | 11, _ => exact wg_tabIn (off := 470) (tgt := 503) C (dget kLaw0 21 rfl) (by decide) (by decide) (by decide) (by decide) (lwc_11 W0 hi hI nx)
    | 12, _ => exact wg_tabIn (off := 513) (tgt := 546) C (dget kLaw0 21 rfl) (by decide) (by decide) (by decide) (by decide) (lwc_12 W0 hi hI nx)
    | 13, _ => exact wg_tabIn (off := 556) (tgt := 589) C (dget kLaw0 21 rfl) (by decide) (by decide) (by decide) (by decide) (lwc_13 W0 hi hI nx)
    | 14, _ => exact wg_tabIn (off := 579) (tgt := 612) C (dget kLaw0 21 rfl) (by decide) (by decide) (by decide) (by decide) (lwc_14 W0 hi hI nx)
    | 15, _ => exact wg_tabIn (off := 612) (tgt := 645) C (dget kLaw0 21 rfl) (by decide) (by decide) (by decide) (by decide) (lwc_15 W0 hi hI nx)
    | 16, _ => exact wg_tabIn (off := 635) (tgt := 668) C (dget kLaw0 21 rfl) (by decide) (by decide) (by decide) (by decide) (lwc_16 W0 hi hI nx)
    | 17, _ => exact wg_tabIn (off := 658) (tgt := 691) C (dget kLaw0 21 rfl) (by decide) (by decide) (by decide) (by decide) (lwc_17 W0 hi hI nx)
    | 18, _ => exact wg_tabIn (off := 671) (tgt := 704) C (dget kLaw0 21 rfl) (by decide) (by decide) (by decide) (by decide) (lwc_18 W0 hi hI nx)
    | 19, _ => exact wg_tabIn (off := 684) (tgt := 717) C (dget kLaw0 21 rfl) (by decide) (by decide) (by decide) (by decide) (lwc_19 W0 hi hI nx)
    | 20, _ => exact wg_tabIn (off := 717) (tgt := 750) C (dget kLaw0 21 rfl) (by decide) (by decide) (by decide) (by decide) (lwc_20 W0 hi hI nx)
    | 21, _ => exact wg_tabIn (off := 750) (tgt := 783) C (dget kLaw0 21 rfl) (by decide) (by decide) (by decide) (by decide) (lwc_21 W0 hi hI nx)
    | 22, _ => exact wg_tabIn (off := 773) (tgt := 806) C (dget kLaw0 21 rfl) (by decide) (by decide) (by decide) (by decide) (lwc_22 W0 hi hI nx)
    | 23, _ => exact wg_tabIn (off := 796) (tgt := 829) C (dget kLaw0 21 rfl) (by decide) (by decide) (by decide) (by decide) (lwc_23 W0 hi hI nx)
    | 24, _ => exact wg_tabIn (off := 839) (tgt := 872) C (dget kLaw0 21 rfl) (by decide) (by decide) (by decide) (by decide) (lwc_24 W0 hi hI nx)
    | 25, _ => exact wg_tabIn (off := 852) (tgt := 885) C (dget kLaw0 21 rfl) (by decide) (by decide) (by decide) (by decide) (lwc_25 W0 hi hI nx)
    | 26, _ => exact wg_tabIn (off := 875) (tgt := 908) C (dget kLaw0 21 rfl) (by decide) (by decide) (by decide) (by decide) (lwc_26 W0 hi hI nx)
    | 27, _ => exact wg_tabIn (off := 898) (tgt := 931) C (dget kLaw0 21 rfl) (by decide) (by decide) (by decide) (by decide) (lwc_27 W0 hi hI nx)
    | 28, _ => exact wg_tabIn (off := 911) (tgt := 944) C (dget kLaw0 21 rfl) (by decide) (by decide) (by decide) (by decide) (lwc_28 W0 hi hI nx)
    | 29, _ => exact wg_tabIn (off := 955) (tgt := 988) C (dget kLaw0 21 rfl) (by decide) (by decide) (by decide) (by decide) (lwc_29 W0 hi hI nx)
    | 30, _ => exact wg_tabIn (off := 998) (tgt := 1031) C (dget kLaw0 21 rfl) (by decide) (by decide) (by decide) (by decide) (lwc_30 W0 hi hI nx)
    | 31, _ => exact wg_tabIn (off := 1041) (tgt := 1074) C (dget kLaw0 21 rfl) (by decide) (by decide) (by decide) (by decide) (lwc_31 W0 hi hI nx)
    | 32, _ => exact wg_tabIn (off := 1064) (tgt := 1097) C (dget kLaw0 21 rfl) (by decide) (by decide) (by decide) (by decide) (lwc_32 W0 hi hI nx)
    | 33, _ => exact wg_tabIn (off := 1117) (tgt := 1150) C (dget kLaw0 21 rfl) (by decide) (by decide) (by decide) (by decide) (lwc_33 W0 hi hI nx)
    | 34, _ => exact wg_tabIn (off := 1160) (tgt := 1193) C (dget kLaw0 21 rfl) (by decide) (by decide) (by decide) (by decide) (lwc_34 W0 hi hI nx)
    | 35, _ => exact wg_tabIn (off := 1223) (tgt := 1256) C (dget kLaw0 21 rfl) (by decide) (by decide) (by decide) (by decide) (lwc_35 W0 hi hI nx)
    | 36, _ => exact wg_tabIn (off := 1256) (tgt := 1289) C (dget kLaw0 21 rfl) (by decide) (by decide) (by decide) (by decide) (lwc_36 W0 hi hI nx)
    | 37, _ => exact wg_tabIn (off := 1279) (tgt := 1312) C (dget kLaw0 21 rfl) (by decide) (by decide) (by decide) (by decide) (lwc_37 W0 hi hI nx)
    | j + 38, hj => exact absurd hj (by omega)
set_option maxHeartbeats 4000000 in
set_option maxRecDepth 100000 in
theorem law_loop (hx : p.tables.exec = Jvm.exec) (hb : c.code = code) (hr : meth.sig.returnType = ret) (hlocks : meth.locks = false) (W0 : LWc G p s m c b L xs) : ∀ (n i : Nat) (σ : Hp), i ≤ L → L + 1 ≤ i + n → Inv σ → WG p l e room_1 s m #[Value.ref b] below meth c G.2 (fun q => s.heap.size ≤ q) 4 (lw_Z below #[Value.ref b] s) 18 [(0, .ref b), (1, .ref (G.1 0)), (2, .ref (G.1 71)), (3, .int (nI i))] [] (wl G σ) 600000 7302250 := by
  obtain ⟨C, hX, hG, hs, hbl, hL⟩ := id W0
  intro n
  induction n with
  | zero =>
    intro i σ h1 h2
    exact absurd h2 (by omega)
  | succ n ih =>
    intro i σ hi hin hI
    refine wg_iload_n C (dget kLaw0 10 rfl) 3 rfl ?_
    refine wg_aload_n C (dget kLaw0 11 rfl) 0 rfl ?_
    refine wg_slen C hs hbl (dget kLaw0 12 rfl) ?_
    refine wg_bipush (v := 6) C (dget kLaw0 13 rfl) (by decide) ?_
    refine wg_isub C (dget kLaw0 14 rfl) ?_
    refine wg_icmp_gt (tgt := 1332) C (dget kLaw0 15 rfl) (by decide) (fun h => ?_) (fun h => ?_)
    · refine wg_iconst (v := 1) C (dget kLaw3 172 rfl) (by decide) ?_
      exact wg_end hx hb hr hlocks (dget kLaw3 173 rfl)
    · have h6 : i + 6 ≤ L := gt_law hi hL h
      refine wg_aload_n C (dget kLaw0 16 rfl) 0 rfl ?_
      refine wg_iload_n C (dget kLaw0 17 rfl) 3 rfl ?_
      refine wg_sld C hs hbl (vp_in_nI (by omega) (by omega)) (dget kLaw0 18 rfl) ?_
      refine wg_bipush (v := 63) C (dget kLaw0 19 rfl) (by decide) ?_
      refine wg_iand C (dget kLaw0 20 rfl) ?_
      refine law_switch W0 h6 hI (fun τ hτ => ?_)
      refine wg_iinc (v := nI (i + 6)) (lv' := [(3, .int (nI (i + 6))), (0, .ref b), (1, .ref (G.1 0)), (2, .ref (G.1 71))]) C (dget kLaw3 170 rfl) 3 rfl (nI_add i 6) (by decide) rfl ?_
      refine wg_goto (tgt := 18) C (dget kLaw3 171 rfl) (by decide) ?_
      refine wg_sub [1, 2, 3, 0] rfl ?_
      exact ih (i + 6) τ h6 (by omega) hτ
end LAWL
set_option maxHeartbeats 4000000 in
set_option maxRecDepth 100000 in
/-- THE LAW, from its entry -/
theorem whole_start {p : Program} {e : Env} {s : State} {m : MethodId} {below : List Frame} {meth : Method} {c : Code} (l : Launch) (hflags : l.flags = flags0) {b L : Nat} {xs : Nat → Int32} (hL : L ≤ 3072) (C0 : lw_At p s m meth c b L xs) : W p l e room_1 s m #[Value.ref b] below meth c s.heap [] 0 0 (lw_Z below #[Value.ref b] s) (entryFrame m ([Value.ref b] : List Value).toArray 4) := by
  obtain ⟨hx, hb, hr, hml, hown, hts, hX, hbl, hlocks, hgv⟩ := C0
  obtain ⟨D, hK⟩ := dk_start hts
  obtain ⟨t, adK, adV, k1, k2, k3, k4, k5⟩ := kc_start hts hgv
  have C : CG D p s m c code 4 R_law (fun q => s.heap.size ≤ q) := ⟨hx, hb, hml, hown, hK, fun _ h => h⟩
  have hl := lv_entry ([.ref b]) (n := 4) (Nat.le_of_ble_eq_true rfl)
  rw [lg_entry_eq]
  generalize (lg_sl ([.ref b]) ++ List.replicate (4 - (lg_sl ([.ref b])).length) Slot.unset).toArray = ls at hl ⊢
  have hl : lv_has ls 4 [(0, .ref b)] := hl
  suffices h : WG p l e room_1 s m #[Value.ref b] below meth c D (fun q => s.heap.size ≤ q) 4 (lw_Z below #[Value.ref b] s) 0 [(0, .ref b)] [] [] 0 0 from h s.heap [] ls (fun k q h => by simp at h) ⟨fun i j p q h => by simp at h, fun k q h => by simp at h⟩ va_S.rf hl
  refine wg_new (ci := 8) (fs := fsX8) C clX8 (tin1 20 (by decide +kernel)) (tin1 21 (by decide +kernel)) (tin1 1 (by decide +kernel)) dfX8 (Nat.le_of_ble_eq_true rfl) (Nat.le_of_ble_eq_true rfl) (dget kLaw0 0 rfl) (fun q8 => ?_)
  refine wg_dup C (dget kLaw0 1 rfl) rfl ?_
  refine wg_init (ws := []) (Mc := mX8_init) (As := []) (b := q8) (rest := [.ref q8]) C cfL_9 (tin1 23 (by decide +kernel)) rfl rfl ⟨(Nat.le_of_ble_eq_true rfl), (Nat.le_of_ble_eq_true rfl)⟩ rfl rfl (Nat.le_of_ble_eq_true rfl) (dget kLaw0 2 rfl) cnX8 ⟨(Nat.le_of_ble_eq_true rfl), (Nat.le_of_ble_eq_true rfl)⟩ (fun w hw => ?_)
  obtain ⟨g8, hg8, rfl⟩ := hw
  subst hg8
  refine wg_astore_n (lv' := [(1, .ref (g8 0)), (0, .ref b)]) C (dget kLaw0 3 rfl) (by decide) rfl ?_
  refine wg_new (ci := 9) (fs := fsX9) C clX9 (tin4 238 (by decide +kernel)) (tin4 239 (by decide +kernel)) (tin1 10 (by decide +kernel)) dfX9 (Nat.le_of_ble_eq_true rfl) (Nat.le_of_ble_eq_true rfl) (dget kLaw0 4 rfl) (fun q9 => ?_)
  refine wg_dup C (dget kLaw0 5 rfl) rfl ?_
  refine wg_init (ws := [] ++ W8 D g8) (Mc := mX9_init) (As := []) (b := q9) (rest := [.ref q9]) C cfL_12 (tin5 1 (by decide +kernel)) rfl rfl ⟨(Nat.le_of_ble_eq_true rfl), (Nat.le_of_ble_eq_true rfl)⟩ rfl rfl (Nat.le_of_ble_eq_true rfl) (dget kLaw0 6 rfl) cnX9 ⟨(Nat.le_of_ble_eq_true rfl), (Nat.le_of_ble_eq_true rfl)⟩ (fun w hw => ?_)
  obtain ⟨g9, hg9, rfl⟩ := hw
  subst hg9
  refine wg_astore_n (lv' := [(2, .ref (g9 71)), (1, .ref (g8 0)), (0, .ref b)]) C (dget kLaw0 7 rfl) (by decide) rfl ?_
  refine wg_iconst (v := 0) C (dget kLaw0 8 rfl) (by decide) ?_
  refine wg_istore_n (lv' := [(3, .int 0), (2, .ref (g9 71)), (1, .ref (g8 0)), (0, .ref b)]) C (dget kLaw0 9 rfl) (by decide) rfl ?_
  refine wg_eq (wl_gm D g8 g9 (Gc t adK adV)) ?_
  refine wg_widen (ck' := 600000) (cn' := 7302250) (Nat.le_of_ble_eq_true rfl) (Nat.le_of_ble_eq_true rfl) ?_
  intro H locs ls hP hD hS hl
  obtain ⟨hC, hG⟩ := ctx_start hK k1 k2 k3 k4 k5 hD
  exact law_loop (G := (Gxx g8 g9 (Gc t adK adV), D)) hx hb hr hlocks ⟨C, hC, hG, hX, hbl, hL⟩ (L + 1) 0 s0 (Nat.zero_le L) (by omega) Inv0 H locs ls hP hD hS (lv_sub hl [3, 2, 1, 0] rfl)
