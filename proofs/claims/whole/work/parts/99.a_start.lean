/-! ===== the start: tables, constants, addresses ===== -/
theorem tbl_start {s : State} {a : Array Value} (hts : ∀ w ∈ lw_tbl, w.before a s = true) : TBl s := fun w hw => va_Nw.of (tb_on hw) (hts w (List.mem_filter.mp hw).1)
theorem arr_start {s : State} {a : Array Value} {ty : FieldType} (h : (Cond.arrayClass ty).before a s = true) : ∃ c, ArrOfT s c ty ∧ s.vm.findClass ("[" ++ ty.toString) = some c := by
  obtain ⟨c, k, comp, h1, h2, h3⟩ := Cond.arrayClass_spec h
  exact ⟨c, fun n z => ⟨fun k h => (by cases h), k, h2, comp, h3⟩, h1⟩
theorem arq_start {s : State} {C : String} (h : va_AO C s) : ∃ c, ArrOfT s c (.object C) ∧ va_RA s c (.object C) := by
  obtain ⟨comp, c, k, h1, h2, h3, h4, h5⟩ := Cond.arrayOver_spec h
  exact ⟨c, fun n z => ⟨fun k h => (by cases h), k, h3, comp, h4⟩, k, comp, h3, h4, h1, h5⟩
theorem dk_start {s : State} {a : Array Value} (hts : ∀ w ∈ lw_tbl, w.before a s = true) : ∃ D : DT, DK D s := by
  have hT := tbl_start hts
  have hw : ∀ w ∈ tb, w.before a s = true := fun w h => hT.use h
  obtain ⟨c0, i0, k0⟩ := u_known (C := RX0) (T := TX0) (N := 5) (n := 5) hw wiX0 (hw _ (tin1 96 (by decide +kernel)))
  obtain ⟨c1, i1, k1⟩ := u_known (C := RX1) (T := TX1) (N := 5) (n := 5) hw wiX1 (hw _ (tin1 72 (by decide +kernel)))
  obtain ⟨c2, i2, k2⟩ := u_known (C := RX2) (T := TX2) (N := 17) (n := 17) hw wiX2 (hw _ (tin1 120 (by decide +kernel)))
  obtain ⟨c3, i3, k3⟩ := u_known (C := RX3) (T := TX3) (N := 4) (n := 4) hw wiX3 (hw _ (tin1 213 (by decide +kernel)))
  obtain ⟨c4, i4, k4⟩ := u_known (C := RX4) (T := TX4) (N := 4) (n := 4) hw wiX4 (hw _ (tin2 28 (by decide +kernel)))
  obtain ⟨c5, i5, k5⟩ := u_known (C := RX5) (T := TX5) (N := 4) (n := 4) hw wiX5 (hw _ (tin1 126 (by decide +kernel)))
  obtain ⟨c6, i6, k6⟩ := u_known (C := RX6) (T := TX6) (N := 8) (n := 8) hw wiX6 (hw _ (tin1 31 (by decide +kernel)))
  obtain ⟨c7, i7, k7⟩ := u_known (C := RX7) (T := TX7) (N := 8) (n := 8) hw wiX7 (hw _ (tin1 234 (by decide +kernel)))
  obtain ⟨c8, i8, k8⟩ := u_known (C := RX8) (T := TX8) (N := 16) (n := 16) hw wiX8 (hw _ (tin1 21 (by decide +kernel)))
  obtain ⟨c9, i9, k9⟩ := u_known (C := RX9) (T := TX9) (N := 28) (n := 28) hw wiX9 (hw _ (tin4 239 (by decide +kernel)))
  obtain ⟨dC, dI, hKc⟩ : ∃ (dC : Nat → ClassId) (dI : Nat → Nat → Nat), ∀ (k : Nat) (q : vw_C), vwCl[k]? = some q → u_Kn s q.1 q.2.1 q.2.2 (dC k) (dI k) := by
    refine ⟨fun k => [c0, c1, c2, c3, c4, c5, c6, c7, c8, c9].getD k c0, fun k => [i0, i1, i2, i3, i4, i5, i6, i7, i8, i9].getD k i0, ?_⟩
    intro k q hq
    match k, hq with
    | 0, hq => cases hq; exact k0
    | 1, hq => cases hq; exact k1
    | 2, hq => cases hq; exact k2
    | 3, hq => cases hq; exact k3
    | 4, hq => cases hq; exact k4
    | 5, hq => cases hq; exact k5
    | 6, hq => cases hq; exact k6
    | 7, hq => cases hq; exact k7
    | 8, hq => cases hq; exact k8
    | 9, hq => cases hq; exact k9
    | k + 10, hq => simp [vwCl] at hq
  have hI : (Cond.arrayClass .int).before a s = true := hts _ (tinl1 70 (by decide +kernel))
  have hL : (Cond.arrayClass .long).before a s = true := hts _ (tinl1 211 (by decide +kernel))
  have hS : va_AO RX4 s := va_AO.of (hts _ (tinl1 233 (by decide +kernel)))
  have hX : va_AO RX7 s := va_AO.of (hts _ (tinl1 29 (by decide +kernel)))
  obtain ⟨cI, aI, fI⟩ := arr_start hI
  obtain ⟨cL, aL, fL⟩ := arr_start hL
  obtain ⟨cS, aS⟩ := arq_start hS
  obtain ⟨cX, aX⟩ := arq_start hX
  refine ⟨((dC, dI), fun k => [cI, cL, cS, cX].getD k cI), hT, ⟨hKc, ?_⟩, hI, hL, hS, hX⟩
  intro k q hk
  match k, hk with
  | 0, hk => cases hk; exact ⟨aI, fI⟩
  | 1, hk => cases hk; exact ⟨aL, fL⟩
  | 2, hk => cases hk; exact aS
  | 3, hk => cases hk; exact aX
  | k + 4, hk => simp at hk
def strT (i : Nat) : Term := Term.string RX7 (skL.getD i (0, "")).1
abbrev flG : List Cond := flatC (Jvm.Cond.and given_1 narrow_1)
set_option maxRecDepth 100000 in
theorem mg_el : ∀ j, j < 4 → Cond.eq (.elem (.static "TinDucks" "DIGEST_TICKS" "[I") (.int (Int32.ofNat j))) (.int (dtk j)) ∈ flG := by decide +kernel
set_option maxRecDepth 100000 in
theorem mg_ex : ∀ i, i < 8 → Cond.exactly (strT i) "java/lang/String" ∈ flG := by decide +kernel
set_option maxRecDepth 100000 in
theorem mg_co : ∀ i, i < 8 → Cond.eq (.field (strT i) "java/lang/String" "coder" "B") (.int 0) ∈ flG := by decide +kernel
set_option maxRecDepth 100000 in
theorem mg_ar : ∀ i, i < 8 → Cond.arrayOf (.field (strT i) "java/lang/String" "value" "[B") .byte ∈ flG := by decide +kernel
set_option maxRecDepth 100000 in
theorem mg_le : ∀ i, i < 8 → Cond.eq (.length (.field (strT i) "java/lang/String" "value" "[B")) (.int (Int32.ofNat (lnS.getD i 0))) ∈ flG := by decide +kernel
set_option maxRecDepth 100000 in
theorem mg_by : ∀ i, i < 8 → ∀ j, j < lnS.getD i 0 → Cond.eq (.elem (.field (strT i) "java/lang/String" "value" "[B") (.int (Int32.ofNat j))) (.int ((byS.getD i []).getD j 0)) ∈ flG := by decide +kernel
set_option maxRecDepth 100000 in
theorem mg_ne : ∀ i, i < 8 → ∀ j, j < 8 → i ≠ j → Cond.not (Cond.eq (strT i) (strT j)) ∈ flG ∨ Cond.not (Cond.eq (strT j) (strT i)) ∈ flG := by decide +kernel
theorem mg_sr : ∀ i, i < 8 → Cond.stringRef RX7 (skL.getD i (0, "")).1 (skL.getD i (0, "")).2 ∈ lw_tbl := by
  intro i hi
  match i, hi with
  | 0, _ => exact tinl2 146 (by decide +kernel)
  | 1, _ => exact tinl2 147 (by decide +kernel)
  | 2, _ => exact tinl2 148 (by decide +kernel)
  | 3, _ => exact tinl2 149 (by decide +kernel)
  | 4, _ => exact tinl2 150 (by decide +kernel)
  | 5, _ => exact tinl2 151 (by decide +kernel)
  | 6, _ => exact tinl2 152 (by decide +kernel)
  | 7, _ => exact tinl2 153 (by decide +kernel)
  | i + 8, hi => exact absurd hi (by omega)
theorem kc_start {s : State} {a : Array Value} (hts : ∀ w ∈ lw_tbl, w.before a s = true) (hg : (Jvm.Cond.and given_1 narrow_1).before a s = true) : ∃ (t : Nat) (adK adV : Nat → Nat), va_Z "TinDucks" "DIGEST_TICKS" "[I" (.ref t) (fun q => s.heap.size ≤ q) s s.heap ∧ va_T .int t 4 (fun j => .int (dtk j)) (fun q => s.heap.size ≤ q) s s.heap ∧ va_Z "java/lang/String" "COMPACT_STRINGS" "Z" (.int 1) (fun q => s.heap.size ≤ q) s s.heap ∧ (∀ i : Nat, i < 8 → vk_R RX7 (skL.getD i (0, "")).1 (skL.getD i (0, "")).2 (adK i) s) ∧ vk_S 8 lnS byS adK adV (fun q => s.heap.size ≤ q) s s.heap := by
  have hs := flat_of_before _ hg
  have hA : ∀ q : Nat, q < s.heap.size → ¬ s.heap.size ≤ q := fun q h => Nat.not_le.mpr h
  obtain ⟨t, ht, hT⟩ := va_Tof (N := 4) (f := fun j => .int (dtk j)) (A := fun q => s.heap.size ≤ q) (tm := .static "TinDucks" "DIGEST_TICKS" "[I") (ty := .int) (by decide) (hs _ (by decide +kernel)) (va_eqt (hs _ (by decide +kernel))) (fun j hj => va_eqt (hs _ (mg_el j hj))) hA
  obtain ⟨adK, adV, hS, hE⟩ := vk_Sof (N := 8) (tm := strT) (len := lnS) (byt := byS) (A := fun q => s.heap.size ≤ q) (by decide) (fun i hi => hs _ (mg_ex i hi)) (fun i hi => hs _ (mg_co i hi)) (fun i hi => hs _ (mg_ar i hi)) (fun i hi => hs _ (mg_le i hi)) (fun i hi j hj => hs _ (mg_by i hi j hj)) (fun i j hi hj hne => (mg_ne i hi j hj hne).imp (fun h => hs _ h) (fun h => hs _ h)) hA
  exact ⟨t, adK, adV, va_Zof (hts _ (tinl4 221 (by decide +kernel))) (hts _ (tinl1 1 (by decide +kernel))) ht hA, hT, va_Zof (hts _ (tinl2 167 (by decide +kernel))) (hts _ (tinl1 11 (by decide +kernel))) (va_eqi (hs _ (by decide +kernel))) hA, fun i hi => vk_R.of (A := a) (hts _ (mg_sr i hi)) (hE i hi), hS⟩
def Gc (t : Nat) (adK adV : Nat → Nat) : Nat → Nat := fun k => if k = 200 then t else if k < 230 then adK (k - 210) else adV (k - 230)
def Gxx (g8 g9 cs : Nat → Nat) : Nat → Nat := fun k => if k < 71 then g8 k else if k < 93 then g9 k else cs k
theorem rt1_lt : ∀ j, rt 1 j < 71
  | 0 => by decide
  | 1 => by decide
  | 2 => by decide
  | _ + 3 => (by decide : 0 < 71)
theorem rt51_lt : ∀ j, rt 51 j < 71
  | 0 => by decide
  | 1 => by decide
  | 2 => by decide
  | 3 => by decide
  | _ + 4 => (by decide : 0 < 71)
set_option maxHeartbeats 4000000 in
set_option maxRecDepth 100000 in
theorem wl_s0 (G : GT) : wl G s0 = W8 G.2 G.1 ++ W9 G.2 G.1 := rfl
theorem W8_gm (D : DT) (g8 g9 cs : Nat → Nat) : W8 D (Gxx g8 g9 cs) = W8 D g8 := by
  have h1 : (fun j => some (Gxx g8 g9 cs (rt 1 j))) = fun j => some (g8 (rt 1 j)) := by
    funext j
    rw [Gxx, if_pos (rt1_lt j)]
  have h2 : (fun j => some (Gxx g8 g9 cs (rt 51 j))) = fun j => some (g8 (rt 51 j)) := by
    funext j
    rw [Gxx, if_pos (rt51_lt j)]
  unfold W8
  rw [h1, h2]
  rfl
theorem W9_gm (D : DT) (g8 g9 cs : Nat → Nat) : W9 D (Gxx g8 g9 cs) = W9 D g9 := rfl
theorem wl_gm (D : DT) (g8 g9 cs : Nat → Nat) : ([] ++ W8 D g8) ++ W9 D g9 = wl (Gxx g8 g9 cs, D) s0 := by
  rw [wl_s0, W8_gm, W9_gm]
  rfl
theorem vk_S.same {N : Nat} {len : List Nat} {byt : List (List Int32)} {k1 v1 k2 v2 : Nat → Nat} {A : Nat → Prop} {U : State} {H : Heap} (h : vk_S N len byt k1 v1 A U H) (hk : ∀ i, i < N → k2 i = k1 i) (hv : ∀ i, i < N → v2 i = v1 i) : vk_S N len byt k2 v2 A U H := by
  refine ⟨fun i hi => ?_, fun i j hi hj e => h.2 i j hi hj (by rw [← hk i hi, ← hk j hj]; exact e)⟩
  rw [hk i hi, hv i hi]
  exact h.1 i hi
theorem ctx_start {s : State} {D : DT} {g8 g9 : Nat → Nat} {t : Nat} {adK adV : Nat → Nat} (hK : DK D s) (h1 : va_Z "TinDucks" "DIGEST_TICKS" "[I" (.ref t) (fun q => s.heap.size ≤ q) s s.heap) (h2 : va_T .int t 4 (fun j => .int (dtk j)) (fun q => s.heap.size ≤ q) s s.heap) (h3 : va_Z "java/lang/String" "COMPACT_STRINGS" "Z" (.int 1) (fun q => s.heap.size ≤ q) s s.heap) (h4 : ∀ i : Nat, i < 8 → vk_R RX7 (skL.getD i (0, "")).1 (skL.getD i (0, "")).2 (adK i) s) (h5 : vk_S 8 lnS byS adK adV (fun q => s.heap.size ≤ q) s s.heap)
    (hD : va_D (fun q => s.heap.size ≤ q) (wl (Gxx g8 g9 (Gc t adK adV), D) s0)) : Ctx (Gxx g8 g9 (Gc t adK adV), D) s ∧ ∀ q, AA (Gxx g8 g9 (Gc t adK adV), D) q → s.heap.size ≤ q := by
  have hG : ∀ q, AA (Gxx g8 g9 (Gc t adK adV), D) q → s.heap.size ≤ q := by
    rintro q ⟨k, hk, rfl⟩
    exact hD.2 k _ (wl_get hk)
  have ek : ∀ i, i < 8 → Gxx g8 g9 (Gc t adK adV) (210 + i) = adK i := by
    intro i hi
    rw [Gxx, if_neg (by omega), if_neg (by omega), Gc, if_neg (by omega), if_pos (by omega), Nat.add_sub_cancel_left]
  have ev : ∀ i, i < 8 → Gxx g8 g9 (Gc t adK adV) (230 + i) = adV i := by
    intro i hi
    rw [Gxx, if_neg (by omega), if_neg (by omega), Gc, if_neg (by omega), if_neg (by omega), Nat.add_sub_cancel_left]
  refine ⟨⟨fun i j hi hj e => hD.1 i j _ _ (wl_get hi) (wl_get hj) e, hK.1, hK.2.1, ?_⟩, hG⟩
  refine ⟨h1.narrow hG, h2.narrow hG, h3.narrow hG, fun i hi => ?_, (h5.narrow hG).same ek ev⟩
  show vk_R RX7 (skL.getD i (0, "")).1 (skL.getD i (0, "")).2 (Gxx g8 g9 (Gc t adK adV) (210 + i)) s
  rw [ek i hi]
  exact h4 i hi
