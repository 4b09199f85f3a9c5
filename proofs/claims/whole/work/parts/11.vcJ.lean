theorem CT.ofF {G : GT} {M : MT} {av : List Value} {σ : Hp} {Q : Option Value → Hp → Prop} (hpl : plainFor M.1 = true) (hav : (lg_sl av).length ≤ M.2.2.1) (h : WP G M 0 (lv_args 0 av) [] σ Q) : CT G M av σ Q := by
  intro l
  refine va_MetF (cc := M.2.1) (maxL := M.2.2.1) (ret := M.2.2.2.1) hpl rfl ?_
  intro p e s m args below meth c s₁ B hml hv
  obtain ⟨rfl, hP, hC⟩ := hv
  rw [lg_entry_eq]
  exact h p l e s m _ below meth c s.heap [] _ ⟨B.exec, B.bytes, B.returns, hml, findClass_of_methodNamed B.named, B.notSynchronized, hC⟩ hP va_S.rf (lv_entry av hav)
/-- the place of a sign in a String constant, as indexOf tells it -/
def sIxF (c : Int32) : List Int32 → Nat → Int32
  | [], _ => -1
  | b :: l, k => if b = c then nI k else sIxF c l (k + 1)
def sIx (i : Nat) (c : Int32) : Int32 := if c < 0 ∨ 255 < c then -1 else sIxF c.toInt8.toInt32 (byS.getD i []) 0
def vJ0_indexOf_0f7a4 (o : Nat) (p1 : Int32) (σ : Hp) (post : Int32 → Hp → Prop) : Prop := ∃ i : Nat, i < 8 ∧ o = 210 + i ∧ post (sIx i p1) σ
theorem tJ0_indexOf_0f7a4 {G : GT} {o : Nat} {p1 : Int32} {σ : Hp} {post : Int32 → Hp → Prop} (h : vJ0_indexOf_0f7a4 o p1 σ post) : CT G mJ0_indexOf_0f7a4 [.ref (G.1 o), .int p1] σ (LI post) := by
  sorry
theorem wr_callStri {G : GT} {M : MT} {pc : Nat} {lv : List (Nat × Value)} {rest : List Value} {σ : Hp} {Q : Option Value → Hp → Prop} {idx o : Nat} {p1 : Int32} {post : Int32 → Hp → Prop} (hF : CF M.1.cls idx mJ0_indexOf_0f7a4 1) (hR : mJ0_indexOf_0f7a4.2.2.2.2.1 + 1 ≤ M.2.2.2.2.1 ∧ 8 + (mJ0_indexOf_0f7a4.2.2.1 + 11) + mJ0_indexOf_0f7a4.2.2.2.2.2 ≤ M.2.2.2.2.2) (hw : (rest.map fun v => v.category).sum ≤ 8) (hdg : decode M.2.1 pc = .ok (.invokevirtual idx, 3)) (h : vJ0_indexOf_0f7a4 o p1 σ post) (K : ∀ (r : Int32) τ, post r τ → WP G M (pc + 3) lv (.int r :: rest) τ Q) : WP G M pc lv (.int p1 :: .ref (G.1 o) :: rest) σ Q := by
  have h2 := tJ0_indexOf_0f7a4 (G := G) h
  obtain ⟨i, hi, rfl, -⟩ := h
  exact wr_callStr hi hF cv_J0_indexOf_0f7a4 rfl hR rfl rfl hw hdg h2 (fun v τ hq => by obtain ⟨r, rfl, hq⟩ := hq; exact K r τ hq)
def vJ9_floorMod_7cf53 (p1 : Int32) (p2 : Int32) (σ : Hp) (post : Int32 → Hp → Prop) : Prop := (¬ p2 = 0 ∧ (∀ x2_1 : Int32, x2_1 = (p1 - p1 / p2 * p2) → ((0 ≤ (p1 ^^^ p2) → post x2_1 σ) ∧ (¬ 0 ≤ (p1 ^^^ p2) → ((x2_1 = 0 → post x2_1 σ) ∧ (¬ x2_1 = 0 → post (x2_1 + p2) σ))))))
set_option maxHeartbeats 4000000 in
set_option maxRecDepth 100000 in
theorem tJ9_floorMod_7cf53 {G : GT} {p1 : Int32} {p2 : Int32} {σ : Hp} {post : Int32 → Hp → Prop} (h : vJ9_floorMod_7cf53 p1 p2 σ post) : CT G mJ9_floorMod_7cf53 [.int p1, .int p2] σ (LI post) := by
  refine CT.ofF (by decide +kernel) (Nat.le_of_ble_eq_true rfl) ?_
  show WP G mJ9_floorMod_7cf53 0 [(0, .int p1), (1, .int p2)] [] σ (LI post)
  unfold vJ9_floorMod_7cf53 at h
  refine wr_iload_n (pc := 0) (dget kJ9_floorMod_7cf53 0 rfl) 0 rfl ?_
  refine wr_iload_n (pc := 1) (dget kJ9_floorMod_7cf53 1 rfl) 1 rfl ?_
  obtain ⟨q_4, h⟩ := h
  refine wr_irem (pc := 2) (dget kJ9_floorMod_7cf53 2 rfl) q_4 ?_
  refine wr_topi (fun x2_1 e_x2_1 => ?_)
  have h := h x2_1 e_x2_1
  refine wr_istore_n (pc := 3) (lv' := [(2, .int x2_1), (0, .int p1), (1, .int p2)]) (dget kJ9_floorMod_7cf53 3 rfl) (by decide) rfl ?_
  refine wr_iload_n (pc := 4) (dget kJ9_floorMod_7cf53 4 rfl) 1 rfl ?_
  refine wr_iload_n (pc := 5) (dget kJ9_floorMod_7cf53 5 rfl) 2 rfl ?_
  refine wr_ixor (pc := 6) (dget kJ9_floorMod_7cf53 6 rfl) ?_
  refine wr_if_ge (pc := 7) (tgt := 18) (dget kJ9_floorMod_7cf53 7 rfl) (by decide) (fun c_2 => ?_) (fun c_2 => ?_)
  · have h := h.1 c_2
    refine wr_iload_n (pc := 18) (dget kJ9_floorMod_7cf53 14 rfl) 0 rfl ?_
    exact wr_iret (pc := 19) rfl (dget kJ9_floorMod_7cf53 15 rfl) ⟨_, rfl, h⟩
  · have h := h.2 c_2
    refine wr_iload_n (pc := 10) (dget kJ9_floorMod_7cf53 8 rfl) 0 rfl ?_
    refine wr_if_eq (pc := 11) (tgt := 18) (dget kJ9_floorMod_7cf53 9 rfl) (by decide) (fun c_3 => ?_) (fun c_3 => ?_)
    · have h := h.1 c_3
      refine wr_iload_n (pc := 18) (dget kJ9_floorMod_7cf53 14 rfl) 0 rfl ?_
      exact wr_iret (pc := 19) rfl (dget kJ9_floorMod_7cf53 15 rfl) ⟨_, rfl, h⟩
    · have h := h.2 c_3
      refine wr_iload_n (pc := 14) (dget kJ9_floorMod_7cf53 10 rfl) 0 rfl ?_
      refine wr_iload_n (pc := 15) (dget kJ9_floorMod_7cf53 11 rfl) 2 rfl ?_
      refine wr_iadd (pc := 16) (dget kJ9_floorMod_7cf53 12 rfl) ?_
      exact wr_iret (pc := 17) rfl (dget kJ9_floorMod_7cf53 13 rfl) ⟨_, rfl, h⟩
def vX8_isSet (p1 : Int32) (p2 : Int32) (σ : Hp) (post : Int32 → Hp → Prop) : Prop := ((((p1 >>> (p2 &&& 31)) &&& (1 : Int32)) = (1 : Int32) → post (1 : Int32) σ) ∧ (¬ ((p1 >>> (p2 &&& 31)) &&& (1 : Int32)) = (1 : Int32) → post (0 : Int32) σ))
set_option maxHeartbeats 4000000 in
set_option maxRecDepth 100000 in
theorem tX8_isSet {G : GT} {p1 : Int32} {p2 : Int32} {σ : Hp} {post : Int32 → Hp → Prop} (h : vX8_isSet p1 p2 σ post) : CT G mX8_isSet [.int p1, .int p2] σ (LI post) := by
  refine CT.of (by decide +kernel) (Nat.le_of_ble_eq_true rfl) ?_
  show WP G mX8_isSet 0 [(0, .int p1), (1, .int p2)] [] σ (LI post)
  unfold vX8_isSet at h
  refine wr_iload_n (pc := 0) (dget kX8_isSet 0 rfl) 0 rfl ?_
  refine wr_iload_n (pc := 1) (dget kX8_isSet 1 rfl) 1 rfl ?_
  refine wr_ishr (pc := 2) (dget kX8_isSet 2 rfl) ?_
  refine wr_iconst (pc := 3) (dget kX8_isSet 3 rfl) ic_1 ?_
  refine wr_iand (pc := 4) (dget kX8_isSet 4 rfl) ?_
  refine wr_iconst (pc := 5) (dget kX8_isSet 5 rfl) ic_1 ?_
  refine wr_icmp_ne (pc := 6) (tgt := 13) (dget kX8_isSet 6 rfl) (by decide) (fun c_1 => ?_) (fun c_1 => ?_)
  · have h := h.2 c_1
    refine wr_iconst (pc := 13) (dget kX8_isSet 9 rfl) ic_0 ?_
    exact wr_zret (pc := 14) rfl (by decide) (dget kX8_isSet 10 rfl) ⟨_, rfl, h⟩
  · have h := h.1 c_1
    refine wr_iconst (pc := 9) (dget kX8_isSet 7 rfl) ic_1 ?_
    refine wr_goto (pc := 10) (tgt := 14) (dget kX8_isSet 8 rfl) (by decide) ?_
    exact wr_zret (pc := 14) rfl (by decide) (dget kX8_isSet 10 rfl) ⟨_, rfl, h⟩
def vJ6_bitCount_0f7a4 (p1 : Int32) (σ : Hp) (post : Int32 → Hp → Prop) : Prop := (∀ x0_1 : Int32, x0_1 = (p1 - (((p1).toUInt32 >>> (((1 : Int32)).toUInt32 &&& Int32.toUInt32 31)).toInt32 &&& (1431655765 : Int32))) → (∀ x0_2 : Int32, x0_2 = ((x0_1 &&& (858993459 : Int32)) + (((x0_1).toUInt32 >>> (((2 : Int32)).toUInt32 &&& Int32.toUInt32 31)).toInt32 &&& (858993459 : Int32))) → (∀ x0_3 : Int32, x0_3 = ((x0_2 + ((x0_2).toUInt32 >>> (((4 : Int32)).toUInt32 &&& Int32.toUInt32 31)).toInt32) &&& (252645135 : Int32)) → (∀ x0_4 : Int32, x0_4 = (x0_3 + ((x0_3).toUInt32 >>> (((8 : Int32)).toUInt32 &&& Int32.toUInt32 31)).toInt32) → (∀ x0_5 : Int32, x0_5 = (x0_4 + ((x0_4).toUInt32 >>> (((16 : Int32)).toUInt32 &&& Int32.toUInt32 31)).toInt32) → post (x0_5 &&& (63 : Int32)) σ)))))
set_option maxHeartbeats 4000000 in
set_option maxRecDepth 100000 in
theorem tJ6_bitCount_0f7a4 {G : GT} {p1 : Int32} {σ : Hp} {post : Int32 → Hp → Prop} (h : vJ6_bitCount_0f7a4 p1 σ post) : CT G mJ6_bitCount_0f7a4 [.int p1] σ (LI post) := by
  refine CT.of (by decide +kernel) (Nat.le_of_ble_eq_true rfl) ?_
  show WP G mJ6_bitCount_0f7a4 0 [(0, .int p1)] [] σ (LI post)
  unfold vJ6_bitCount_0f7a4 at h
  refine wr_iload_n (pc := 0) (dget kJ6_bitCount_0f7a4 0 rfl) 0 rfl ?_
  refine wr_iload_n (pc := 1) (dget kJ6_bitCount_0f7a4 1 rfl) 0 rfl ?_
  refine wr_iconst (pc := 2) (dget kJ6_bitCount_0f7a4 2 rfl) ic_1 ?_
  refine wr_iushr (pc := 3) (dget kJ6_bitCount_0f7a4 3 rfl) rfl ?_
  refine wr_ldcw (pc := 4) ki_J6_265 (dget kJ6_bitCount_0f7a4 4 rfl) ?_
  refine wr_iand (pc := 7) (dget kJ6_bitCount_0f7a4 5 rfl) ?_
  refine wr_isub (pc := 8) (dget kJ6_bitCount_0f7a4 6 rfl) ?_
  refine wr_topi (fun x0_1 e_x0_1 => ?_)
  have h := h x0_1 e_x0_1
  refine wr_istore_n (pc := 9) (lv' := [(0, .int x0_1)]) (dget kJ6_bitCount_0f7a4 7 rfl) (by decide) rfl ?_
  refine wr_iload_n (pc := 10) (dget kJ6_bitCount_0f7a4 8 rfl) 0 rfl ?_
  refine wr_ldcw (pc := 11) ki_J6_266 (dget kJ6_bitCount_0f7a4 9 rfl) ?_
  refine wr_iand (pc := 14) (dget kJ6_bitCount_0f7a4 10 rfl) ?_
  refine wr_iload_n (pc := 15) (dget kJ6_bitCount_0f7a4 11 rfl) 0 rfl ?_
  refine wr_iconst (pc := 16) (dget kJ6_bitCount_0f7a4 12 rfl) ic_2 ?_
  refine wr_iushr (pc := 17) (dget kJ6_bitCount_0f7a4 13 rfl) rfl ?_
  refine wr_ldcw (pc := 18) ki_J6_266 (dget kJ6_bitCount_0f7a4 14 rfl) ?_
  refine wr_iand (pc := 21) (dget kJ6_bitCount_0f7a4 15 rfl) ?_
  refine wr_iadd (pc := 22) (dget kJ6_bitCount_0f7a4 16 rfl) ?_
  refine wr_topi (fun x0_2 e_x0_2 => ?_)
  have h := h x0_2 e_x0_2
  refine wr_istore_n (pc := 23) (lv' := [(0, .int x0_2)]) (dget kJ6_bitCount_0f7a4 17 rfl) (by decide) rfl ?_
  refine wr_iload_n (pc := 24) (dget kJ6_bitCount_0f7a4 18 rfl) 0 rfl ?_
  refine wr_iload_n (pc := 25) (dget kJ6_bitCount_0f7a4 19 rfl) 0 rfl ?_
  refine wr_iconst (pc := 26) (dget kJ6_bitCount_0f7a4 20 rfl) ic_4 ?_
  refine wr_iushr (pc := 27) (dget kJ6_bitCount_0f7a4 21 rfl) rfl ?_
  refine wr_iadd (pc := 28) (dget kJ6_bitCount_0f7a4 22 rfl) ?_
  refine wr_ldcw (pc := 29) ki_J6_267 (dget kJ6_bitCount_0f7a4 23 rfl) ?_
  refine wr_iand (pc := 32) (dget kJ6_bitCount_0f7a4 24 rfl) ?_
  refine wr_topi (fun x0_3 e_x0_3 => ?_)
  have h := h x0_3 e_x0_3
  refine wr_istore_n (pc := 33) (lv' := [(0, .int x0_3)]) (dget kJ6_bitCount_0f7a4 25 rfl) (by decide) rfl ?_
  refine wr_iload_n (pc := 34) (dget kJ6_bitCount_0f7a4 26 rfl) 0 rfl ?_
  refine wr_iload_n (pc := 35) (dget kJ6_bitCount_0f7a4 27 rfl) 0 rfl ?_
  refine wr_bipush (pc := 36) (dget kJ6_bitCount_0f7a4 28 rfl) bp_8 ?_
  refine wr_iushr (pc := 38) (dget kJ6_bitCount_0f7a4 29 rfl) rfl ?_
  refine wr_iadd (pc := 39) (dget kJ6_bitCount_0f7a4 30 rfl) ?_
  refine wr_topi (fun x0_4 e_x0_4 => ?_)
  have h := h x0_4 e_x0_4
  refine wr_istore_n (pc := 40) (lv' := [(0, .int x0_4)]) (dget kJ6_bitCount_0f7a4 31 rfl) (by decide) rfl ?_
  refine wr_iload_n (pc := 41) (dget kJ6_bitCount_0f7a4 32 rfl) 0 rfl ?_
  refine wr_iload_n (pc := 42) (dget kJ6_bitCount_0f7a4 33 rfl) 0 rfl ?_
  refine wr_bipush (pc := 43) (dget kJ6_bitCount_0f7a4 34 rfl) bp_16 ?_
  refine wr_iushr (pc := 45) (dget kJ6_bitCount_0f7a4 35 rfl) rfl ?_
  refine wr_iadd (pc := 46) (dget kJ6_bitCount_0f7a4 36 rfl) ?_
  refine wr_topi (fun x0_5 e_x0_5 => ?_)
  have h := h x0_5 e_x0_5
  refine wr_istore_n (pc := 47) (lv' := [(0, .int x0_5)]) (dget kJ6_bitCount_0f7a4 37 rfl) (by decide) rfl ?_
  refine wr_iload_n (pc := 48) (dget kJ6_bitCount_0f7a4 38 rfl) 0 rfl ?_
  refine wr_bipush (pc := 49) (dget kJ6_bitCount_0f7a4 39 rfl) bp_63 ?_
  refine wr_iand (pc := 51) (dget kJ6_bitCount_0f7a4 40 rfl) ?_
  exact wr_iret (pc := 52) rfl (dget kJ6_bitCount_0f7a4 41 rfl) ⟨_, rfl, h⟩
def vJ7_fill_53178_5 (post : Hp → Prop) (ex : Hp → Prop) (a0 : Nat) (x1 : Int32) (x3 : Int32) : Nat → Int32 → Hp → Prop
  | 0 => fun _ _ => False
  | n + 1 => fun x2 σ => ((x3 ≤ x2 → (ex σ)) ∧ (¬ x3 ≤ x2 → (vp_in x2 (iln a0) ∧ ∀ σ_3 : Hp, σ_3 = wI σ a0 x2.toNatClampNeg x1 → (∀ x2_4 : Int32, x2_4 = x2 + (1 : Int32) → vJ7_fill_53178_5 post ex a0 x1 x3 n x2_4 σ_3))))
set_option maxHeartbeats 4000000 in
set_option maxRecDepth 100000 in
theorem tJ7_fill_53178_5 {G : GT} {post : Hp → Prop} {ex : Hp → Prop} {a0 : Nat} {x1 : Int32} {x3 : Int32} (hex : ∀  (τ : Hp), ex  τ → WP G mJ7_fill_53178 20 [] [] τ (LV post)) : ∀ (n : Nat) (x2 : Int32) (σ : Hp), vJ7_fill_53178_5 post ex a0 x1 x3 n x2 σ → WP G mJ7_fill_53178 5 [(0, .ref (G.1 a0)), (1, .int x1), (2, .int x2), (3, .int x3)] [] σ (LV post) := by
  intro n
  induction n with
  | zero => intro x2 σ h; exact False.elim h
  | succ n ih =>
    intro x2 σ h
    simp only [vJ7_fill_53178_5] at h
    refine wr_iload_n (pc := 5) (dget kJ7_fill_53178 5 rfl) 2 rfl ?_
    refine wr_iload_n (pc := 6) (dget kJ7_fill_53178 6 rfl) 3 rfl ?_
    refine wr_icmp_ge (pc := 7) (tgt := 20) (dget kJ7_fill_53178 7 rfl) (by decide) (fun c_1 => ?_) (fun c_1 => ?_)
    · have h := h.1 c_1
      refine wr_sub [] rfl ?_
      exact hex  _ h
    · have h := h.2 c_1
      refine wr_aload_n (pc := 10) (dget kJ7_fill_53178 8 rfl) 0 rfl ?_
      refine wr_iload_n (pc := 11) (dget kJ7_fill_53178 9 rfl) 2 rfl ?_
      refine wr_iload_n (pc := 12) (dget kJ7_fill_53178 10 rfl) 1 rfl ?_
      obtain ⟨q_2, h⟩ := h
      refine wr_iastl (pc := 13) rfl q_2 (dget kJ7_fill_53178 11 rfl) ?_
      refine wr_tops (fun σ_3 e_σ_3 => ?_)
      have h := h σ_3 e_σ_3
      obtain ⟨x2_4, e_x2_4⟩ : ∃ y : Int32, y = x2 + (1 : Int32) := ⟨_, rfl⟩
      have h := h x2_4 e_x2_4
      refine wr_iinc (pc := 14) (v := x2_4) (lv' := [(2, .int x2_4), (0, .ref (G.1 a0)), (1, .int x1), (3, .int x3)]) (dget kJ7_fill_53178 12 rfl) 2 rfl (by rw [e_x2_4, ic_1]) (by decide) rfl ?_
      refine wr_goto (pc := 17) (tgt := 5) (dget kJ7_fill_53178 13 rfl) (by decide) ?_
      refine wr_sub [1, 2, 0, 3] rfl ?_
      exact ih _ _ h
def vJ7_fill_53178 (a1 : Nat) (p2 : Int32) (σ : Hp) (post : Hp → Prop) : Prop := (kd a1 = 10 ∧ (∀ x3_2 : Int32, x3_2 = (nI (ln a1)) → (∃ fu : Nat, vJ7_fill_53178_5 post (fun σ_3 => post σ_3) a1 p2 x3_2 fu (0 : Int32) σ)))
set_option maxHeartbeats 4000000 in
set_option maxRecDepth 100000 in
theorem tJ7_fill_53178 {G : GT} {a1 : Nat} {p2 : Int32} {σ : Hp} {post : Hp → Prop} (h : vJ7_fill_53178 a1 p2 σ post) : CT G mJ7_fill_53178 [.ref (G.1 a1), .int p2] σ (LV post) := by
  refine CT.of (by decide +kernel) (Nat.le_of_ble_eq_true rfl) ?_
  show WP G mJ7_fill_53178 0 [(0, .ref (G.1 a1)), (1, .int p2)] [] σ (LV post)
  unfold vJ7_fill_53178 at h
  refine wr_iconst (pc := 0) (dget kJ7_fill_53178 0 rfl) ic_0 ?_
  refine wr_istore_n (pc := 1) (lv' := [(2, .int (0 : Int32)), (0, .ref (G.1 a1)), (1, .int p2)]) (dget kJ7_fill_53178 1 rfl) (by decide) rfl ?_
  refine wr_aload_n (pc := 2) (dget kJ7_fill_53178 2 rfl) 1 rfl ?_
  obtain ⟨q_1, h⟩ := h
  refine wr_alen (pc := 3) q_1 (dget kJ7_fill_53178 3 rfl) ?_
  refine wr_topi (fun x3_2 e_x3_2 => ?_)
  have h := h x3_2 e_x3_2
  refine wr_istore_n (pc := 4) (lv' := [(3, .int x3_2), (2, .int (0 : Int32)), (0, .ref (G.1 a1)), (1, .int p2)]) (dget kJ7_fill_53178 4 rfl) (by decide) rfl ?_
  obtain ⟨fu, h⟩ := h
  refine wr_sub [2, 3, 1, 0] rfl ?_
  refine tJ7_fill_53178_5 (fun σ_3 h => ?_) fu _ _ h
  exact wr_vret (pc := 20) rfl (dget kJ7_fill_53178 14 rfl) ⟨rfl, h⟩
def vX8_within (p1 : Int32) (p2 : Int32) (σ : Hp) (post : Int32 → Hp → Prop) : Prop := ((p1 < 0 → post (0 : Int32) σ) ∧ (¬ p1 < 0 → ((p2 ≤ p1 → post (0 : Int32) σ) ∧ (¬ p2 ≤ p1 → post (1 : Int32) σ))))
set_option maxHeartbeats 4000000 in
set_option maxRecDepth 100000 in
theorem tX8_within {G : GT} {p1 : Int32} {p2 : Int32} {σ : Hp} {post : Int32 → Hp → Prop} (h : vX8_within p1 p2 σ post) : CT G mX8_within [.int p1, .int p2] σ (LI post) := by
  refine CT.of (by decide +kernel) (Nat.le_of_ble_eq_true rfl) ?_
  show WP G mX8_within 0 [(0, .int p1), (1, .int p2)] [] σ (LI post)
  unfold vX8_within at h
  refine wr_iload_n (pc := 0) (dget kX8_within 0 rfl) 0 rfl ?_
  refine wr_if_lt (pc := 1) (tgt := 13) (dget kX8_within 1 rfl) (by decide) (fun c_1 => ?_) (fun c_1 => ?_)
  · have h := h.1 c_1
    refine wr_iconst (pc := 13) (dget kX8_within 7 rfl) ic_0 ?_
    exact wr_zret (pc := 14) rfl (by decide) (dget kX8_within 8 rfl) ⟨_, rfl, h⟩
  · have h := h.2 c_1
    refine wr_iload_n (pc := 4) (dget kX8_within 2 rfl) 0 rfl ?_
    refine wr_iload_n (pc := 5) (dget kX8_within 3 rfl) 1 rfl ?_
    refine wr_icmp_ge (pc := 6) (tgt := 13) (dget kX8_within 4 rfl) (by decide) (fun c_2 => ?_) (fun c_2 => ?_)
    · have h := h.1 c_2
      refine wr_iconst (pc := 13) (dget kX8_within 7 rfl) ic_0 ?_
      exact wr_zret (pc := 14) rfl (by decide) (dget kX8_within 8 rfl) ⟨_, rfl, h⟩
    · have h := h.2 c_2
      refine wr_iconst (pc := 9) (dget kX8_within 5 rfl) ic_1 ?_
      refine wr_goto (pc := 10) (tgt := 14) (dget kX8_within 6 rfl) (by decide) ?_
      exact wr_zret (pc := 14) rfl (by decide) (dget kX8_within 8 rfl) ⟨_, rfl, h⟩
def vJ9_max_7cf53 (p1 : Int32) (p2 : Int32) (σ : Hp) (post : Int32 → Hp → Prop) : Prop := ((p1 < p2 → post p2 σ) ∧ (¬ p1 < p2 → post p1 σ))
set_option maxHeartbeats 4000000 in
set_option maxRecDepth 100000 in
theorem tJ9_max_7cf53 {G : GT} {p1 : Int32} {p2 : Int32} {σ : Hp} {post : Int32 → Hp → Prop} (h : vJ9_max_7cf53 p1 p2 σ post) : CT G mJ9_max_7cf53 [.int p1, .int p2] σ (LI post) := by
  refine CT.ofF (by decide +kernel) (Nat.le_of_ble_eq_true rfl) ?_
  show WP G mJ9_max_7cf53 0 [(0, .int p1), (1, .int p2)] [] σ (LI post)
  unfold vJ9_max_7cf53 at h
  refine wr_iload_n (pc := 0) (dget kJ9_max_7cf53 0 rfl) 0 rfl ?_
  refine wr_iload_n (pc := 1) (dget kJ9_max_7cf53 1 rfl) 1 rfl ?_
  refine wr_icmp_lt (pc := 2) (tgt := 9) (dget kJ9_max_7cf53 2 rfl) (by decide) (fun c_1 => ?_) (fun c_1 => ?_)
  · have h := h.1 c_1
    refine wr_iload_n (pc := 9) (dget kJ9_max_7cf53 5 rfl) 1 rfl ?_
    exact wr_iret (pc := 10) rfl (dget kJ9_max_7cf53 6 rfl) ⟨_, rfl, h⟩
  · have h := h.2 c_1
    refine wr_iload_n (pc := 5) (dget kJ9_max_7cf53 3 rfl) 0 rfl ?_
    refine wr_goto (pc := 6) (tgt := 10) (dget kJ9_max_7cf53 4 rfl) (by decide) ?_
    exact wr_iret (pc := 10) rfl (dget kJ9_max_7cf53 6 rfl) ⟨_, rfl, h⟩
def vJ9_min_7cf53 (p1 : Int32) (p2 : Int32) (σ : Hp) (post : Int32 → Hp → Prop) : Prop := ((p2 < p1 → post p2 σ) ∧ (¬ p2 < p1 → post p1 σ))
set_option maxHeartbeats 4000000 in
set_option maxRecDepth 100000 in
theorem tJ9_min_7cf53 {G : GT} {p1 : Int32} {p2 : Int32} {σ : Hp} {post : Int32 → Hp → Prop} (h : vJ9_min_7cf53 p1 p2 σ post) : CT G mJ9_min_7cf53 [.int p1, .int p2] σ (LI post) := by
  refine CT.ofF (by decide +kernel) (Nat.le_of_ble_eq_true rfl) ?_
  show WP G mJ9_min_7cf53 0 [(0, .int p1), (1, .int p2)] [] σ (LI post)
  unfold vJ9_min_7cf53 at h
  refine wr_iload_n (pc := 0) (dget kJ9_min_7cf53 0 rfl) 0 rfl ?_
  refine wr_iload_n (pc := 1) (dget kJ9_min_7cf53 1 rfl) 1 rfl ?_
  refine wr_icmp_gt (pc := 2) (tgt := 9) (dget kJ9_min_7cf53 2 rfl) (by decide) (fun c_1 => ?_) (fun c_1 => ?_)
  · have h := h.1 c_1
    refine wr_iload_n (pc := 9) (dget kJ9_min_7cf53 5 rfl) 1 rfl ?_
    exact wr_iret (pc := 10) rfl (dget kJ9_min_7cf53 6 rfl) ⟨_, rfl, h⟩
  · have h := h.2 c_1
    refine wr_iload_n (pc := 5) (dget kJ9_min_7cf53 3 rfl) 0 rfl ?_
    refine wr_goto (pc := 6) (tgt := 10) (dget kJ9_min_7cf53 4 rfl) (by decide) ?_
    exact wr_iret (pc := 10) rfl (dget kJ9_min_7cf53 6 rfl) ⟨_, rfl, h⟩
def vJ6_numberOfTrailingZeros_0f7a4_62 (post : Int32 → Hp → Prop) (x0 : Int32) (x1 : Int32) (σ : Hp) : Prop := ((x0 ≤ (4 : Int32) → post (x1 + ((x0).toUInt32 >>> (((1 : Int32)).toUInt32 &&& Int32.toUInt32 31)).toInt32) σ) ∧ (¬ x0 ≤ (4 : Int32) → (∀ x1_2 : Int32, x1_2 = x1 + (2 : Int32) → (∀ x0_3 : Int32, x0_3 = ((x0).toUInt32 >>> (((2 : Int32)).toUInt32 &&& Int32.toUInt32 31)).toInt32 → post (x1_2 + ((x0_3).toUInt32 >>> (((1 : Int32)).toUInt32 &&& Int32.toUInt32 31)).toInt32) σ))))
set_option maxHeartbeats 4000000 in
set_option maxRecDepth 100000 in
theorem tJ6_numberOfTrailingZeros_0f7a4_62 {G : GT} {post : Int32 → Hp → Prop} {x0 : Int32} {x1 : Int32} {σ : Hp} (h : vJ6_numberOfTrailingZeros_0f7a4_62 post x0 x1 σ) : WP G mJ6_numberOfTrailingZeros_0f7a4 62 [(0, .int x0), (1, .int x1)] [] σ (LI post) := by
  unfold vJ6_numberOfTrailingZeros_0f7a4_62 at h
  refine wr_iload_n (pc := 62) (dget kJ6_numberOfTrailingZeros_0f7a4 40 rfl) 0 rfl ?_
  refine wr_iconst (pc := 63) (dget kJ6_numberOfTrailingZeros_0f7a4 41 rfl) ic_4 ?_
  refine wr_icmp_le (pc := 64) (tgt := 74) (dget kJ6_numberOfTrailingZeros_0f7a4 42 rfl) (by decide) (fun c_1 => ?_) (fun c_1 => ?_)
  · have h := h.1 c_1
    refine wr_iload_n (pc := 74) (dget kJ6_numberOfTrailingZeros_0f7a4 48 rfl) 1 rfl ?_
    refine wr_iload_n (pc := 75) (dget kJ6_numberOfTrailingZeros_0f7a4 49 rfl) 0 rfl ?_
    refine wr_iconst (pc := 76) (dget kJ6_numberOfTrailingZeros_0f7a4 50 rfl) ic_1 ?_
    refine wr_iushr (pc := 77) (dget kJ6_numberOfTrailingZeros_0f7a4 51 rfl) rfl ?_
    refine wr_iadd (pc := 78) (dget kJ6_numberOfTrailingZeros_0f7a4 52 rfl) ?_
    exact wr_iret (pc := 79) rfl (dget kJ6_numberOfTrailingZeros_0f7a4 53 rfl) ⟨_, rfl, h⟩
  · have h := h.2 c_1
    obtain ⟨x1_2, e_x1_2⟩ : ∃ y : Int32, y = x1 + (2 : Int32) := ⟨_, rfl⟩
    have h := h x1_2 e_x1_2
    refine wr_iinc (pc := 67) (v := x1_2) (lv' := [(1, .int x1_2), (0, .int x0)]) (dget kJ6_numberOfTrailingZeros_0f7a4 43 rfl) 1 rfl (by rw [e_x1_2, ic_2]) (by decide) rfl ?_
    refine wr_iload_n (pc := 70) (dget kJ6_numberOfTrailingZeros_0f7a4 44 rfl) 1 rfl ?_
    refine wr_iconst (pc := 71) (dget kJ6_numberOfTrailingZeros_0f7a4 45 rfl) ic_2 ?_
    refine wr_iushr (pc := 72) (dget kJ6_numberOfTrailingZeros_0f7a4 46 rfl) rfl ?_
    refine wr_topi (fun x0_3 e_x0_3 => ?_)
    have h := h x0_3 e_x0_3
    refine wr_istore_n (pc := 73) (lv' := [(0, .int x0_3), (1, .int x1_2)]) (dget kJ6_numberOfTrailingZeros_0f7a4 47 rfl) (by decide) rfl ?_
    refine wr_iload_n (pc := 74) (dget kJ6_numberOfTrailingZeros_0f7a4 48 rfl) 1 rfl ?_
    refine wr_iload_n (pc := 75) (dget kJ6_numberOfTrailingZeros_0f7a4 49 rfl) 0 rfl ?_
    refine wr_iconst (pc := 76) (dget kJ6_numberOfTrailingZeros_0f7a4 50 rfl) ic_1 ?_
    refine wr_iushr (pc := 77) (dget kJ6_numberOfTrailingZeros_0f7a4 51 rfl) rfl ?_
    refine wr_iadd (pc := 78) (dget kJ6_numberOfTrailingZeros_0f7a4 52 rfl) ?_
    exact wr_iret (pc := 79) rfl (dget kJ6_numberOfTrailingZeros_0f7a4 53 rfl) ⟨_, rfl, h⟩
def vJ6_numberOfTrailingZeros_0f7a4_34 (post : Int32 → Hp → Prop) (x0 : Int32) (x1 : Int32) (σ : Hp) : Prop := ((x0 ≤ (256 : Int32) → ((x0 ≤ (16 : Int32) → vJ6_numberOfTrailingZeros_0f7a4_62 post x0 x1 σ) ∧ (¬ x0 ≤ (16 : Int32) → (∀ x1_3 : Int32, x1_3 = x1 + (4 : Int32) → (∀ x0_4 : Int32, x0_4 = ((x0).toUInt32 >>> (((4 : Int32)).toUInt32 &&& Int32.toUInt32 31)).toInt32 → vJ6_numberOfTrailingZeros_0f7a4_62 post x0_4 x1_3 σ))))) ∧ (¬ x0 ≤ (256 : Int32) → (∀ x1_5 : Int32, x1_5 = x1 + (8 : Int32) → (∀ x0_6 : Int32, x0_6 = ((x0).toUInt32 >>> (((8 : Int32)).toUInt32 &&& Int32.toUInt32 31)).toInt32 → ((x0_6 ≤ (16 : Int32) → vJ6_numberOfTrailingZeros_0f7a4_62 post x0_6 x1_5 σ) ∧ (¬ x0_6 ≤ (16 : Int32) → (∀ x1_8 : Int32, x1_8 = x1_5 + (4 : Int32) → (∀ x0_9 : Int32, x0_9 = ((x0_6).toUInt32 >>> (((4 : Int32)).toUInt32 &&& Int32.toUInt32 31)).toInt32 → vJ6_numberOfTrailingZeros_0f7a4_62 post x0_9 x1_8 σ))))))))
set_option maxHeartbeats 4000000 in
set_option maxRecDepth 100000 in
theorem tJ6_numberOfTrailingZeros_0f7a4_34 {G : GT} {post : Int32 → Hp → Prop} {x0 : Int32} {x1 : Int32} {σ : Hp} (h : vJ6_numberOfTrailingZeros_0f7a4_34 post x0 x1 σ) : WP G mJ6_numberOfTrailingZeros_0f7a4 34 [(0, .int x0), (1, .int x1)] [] σ (LI post) := by
  unfold vJ6_numberOfTrailingZeros_0f7a4_34 at h
  refine wr_iload_n (pc := 34) (dget kJ6_numberOfTrailingZeros_0f7a4 24 rfl) 0 rfl ?_
  refine wr_sipush (pc := 35) (dget kJ6_numberOfTrailingZeros_0f7a4 25 rfl) sp_256 ?_
  refine wr_icmp_le (pc := 38) (tgt := 49) (dget kJ6_numberOfTrailingZeros_0f7a4 26 rfl) (by decide) (fun c_1 => ?_) (fun c_1 => ?_)
  · have h := h.1 c_1
    refine wr_iload_n (pc := 49) (dget kJ6_numberOfTrailingZeros_0f7a4 32 rfl) 0 rfl ?_
    refine wr_bipush (pc := 50) (dget kJ6_numberOfTrailingZeros_0f7a4 33 rfl) bp_16 ?_
    refine wr_icmp_le (pc := 52) (tgt := 62) (dget kJ6_numberOfTrailingZeros_0f7a4 34 rfl) (by decide) (fun c_2 => ?_) (fun c_2 => ?_)
    · have h := h.1 c_2
      exact tJ6_numberOfTrailingZeros_0f7a4_62 h
    · have h := h.2 c_2
      obtain ⟨x1_3, e_x1_3⟩ : ∃ y : Int32, y = x1 + (4 : Int32) := ⟨_, rfl⟩
      have h := h x1_3 e_x1_3
      refine wr_iinc (pc := 55) (v := x1_3) (lv' := [(1, .int x1_3), (0, .int x0)]) (dget kJ6_numberOfTrailingZeros_0f7a4 35 rfl) 1 rfl (by rw [e_x1_3, ic_4]) (by decide) rfl ?_
      refine wr_iload_n (pc := 58) (dget kJ6_numberOfTrailingZeros_0f7a4 36 rfl) 1 rfl ?_
      refine wr_iconst (pc := 59) (dget kJ6_numberOfTrailingZeros_0f7a4 37 rfl) ic_4 ?_
      refine wr_iushr (pc := 60) (dget kJ6_numberOfTrailingZeros_0f7a4 38 rfl) rfl ?_
      refine wr_topi (fun x0_4 e_x0_4 => ?_)
      have h := h x0_4 e_x0_4
      refine wr_istore_n (pc := 61) (lv' := [(0, .int x0_4), (1, .int x1_3)]) (dget kJ6_numberOfTrailingZeros_0f7a4 39 rfl) (by decide) rfl ?_
      exact tJ6_numberOfTrailingZeros_0f7a4_62 h
  · have h := h.2 c_1
    obtain ⟨x1_5, e_x1_5⟩ : ∃ y : Int32, y = x1 + (8 : Int32) := ⟨_, rfl⟩
    have h := h x1_5 e_x1_5
    refine wr_iinc (pc := 41) (v := x1_5) (lv' := [(1, .int x1_5), (0, .int x0)]) (dget kJ6_numberOfTrailingZeros_0f7a4 27 rfl) 1 rfl (by rw [e_x1_5, ic_8]) (by decide) rfl ?_
    refine wr_iload_n (pc := 44) (dget kJ6_numberOfTrailingZeros_0f7a4 28 rfl) 1 rfl ?_
    refine wr_bipush (pc := 45) (dget kJ6_numberOfTrailingZeros_0f7a4 29 rfl) bp_8 ?_
    refine wr_iushr (pc := 47) (dget kJ6_numberOfTrailingZeros_0f7a4 30 rfl) rfl ?_
    refine wr_topi (fun x0_6 e_x0_6 => ?_)
    have h := h x0_6 e_x0_6
    refine wr_istore_n (pc := 48) (lv' := [(0, .int x0_6), (1, .int x1_5)]) (dget kJ6_numberOfTrailingZeros_0f7a4 31 rfl) (by decide) rfl ?_
    refine wr_iload_n (pc := 49) (dget kJ6_numberOfTrailingZeros_0f7a4 32 rfl) 0 rfl ?_
    refine wr_bipush (pc := 50) (dget kJ6_numberOfTrailingZeros_0f7a4 33 rfl) bp_16 ?_
    refine wr_icmp_le (pc := 52) (tgt := 62) (dget kJ6_numberOfTrailingZeros_0f7a4 34 rfl) (by decide) (fun c_7 => ?_) (fun c_7 => ?_)
    · have h := h.1 c_7
      exact tJ6_numberOfTrailingZeros_0f7a4_62 h
    · have h := h.2 c_7
      obtain ⟨x1_8, e_x1_8⟩ : ∃ y : Int32, y = x1_5 + (4 : Int32) := ⟨_, rfl⟩
      have h := h x1_8 e_x1_8
      refine wr_iinc (pc := 55) (v := x1_8) (lv' := [(1, .int x1_8), (0, .int x0_6)]) (dget kJ6_numberOfTrailingZeros_0f7a4 35 rfl) 1 rfl (by rw [e_x1_8, ic_4]) (by decide) rfl ?_
      refine wr_iload_n (pc := 58) (dget kJ6_numberOfTrailingZeros_0f7a4 36 rfl) 1 rfl ?_
      refine wr_iconst (pc := 59) (dget kJ6_numberOfTrailingZeros_0f7a4 37 rfl) ic_4 ?_
      refine wr_iushr (pc := 60) (dget kJ6_numberOfTrailingZeros_0f7a4 38 rfl) rfl ?_
      refine wr_topi (fun x0_9 e_x0_9 => ?_)
      have h := h x0_9 e_x0_9
      refine wr_istore_n (pc := 61) (lv' := [(0, .int x0_9), (1, .int x1_8)]) (dget kJ6_numberOfTrailingZeros_0f7a4 39 rfl) (by decide) rfl ?_
      exact tJ6_numberOfTrailingZeros_0f7a4_62 h
def vJ6_numberOfTrailingZeros_0f7a4 (p1 : Int32) (σ : Hp) (post : Int32 → Hp → Prop) : Prop := (∀ x0_1 : Int32, x0_1 = ((p1 ^^^ (-1 : Int32)) &&& (p1 - (1 : Int32))) → ((0 < x0_1 → ((x0_1 ≤ (65536 : Int32) → vJ6_numberOfTrailingZeros_0f7a4_34 post x0_1 (1 : Int32) σ) ∧ (¬ x0_1 ≤ (65536 : Int32) → (∀ x1_4 : Int32, x1_4 = (1 : Int32) + (16 : Int32) → (∀ x0_5 : Int32, x0_5 = ((x0_1).toUInt32 >>> (((16 : Int32)).toUInt32 &&& Int32.toUInt32 31)).toInt32 → vJ6_numberOfTrailingZeros_0f7a4_34 post x0_5 x1_4 σ))))) ∧ (¬ 0 < x0_1 → post (x0_1 &&& (32 : Int32)) σ)))
set_option maxHeartbeats 4000000 in
set_option maxRecDepth 100000 in
theorem tJ6_numberOfTrailingZeros_0f7a4 {G : GT} {p1 : Int32} {σ : Hp} {post : Int32 → Hp → Prop} (h : vJ6_numberOfTrailingZeros_0f7a4 p1 σ post) : CT G mJ6_numberOfTrailingZeros_0f7a4 [.int p1] σ (LI post) := by
  refine CT.of (by decide +kernel) (Nat.le_of_ble_eq_true rfl) ?_
  show WP G mJ6_numberOfTrailingZeros_0f7a4 0 [(0, .int p1)] [] σ (LI post)
  unfold vJ6_numberOfTrailingZeros_0f7a4 at h
  refine wr_iload_n (pc := 0) (dget kJ6_numberOfTrailingZeros_0f7a4 0 rfl) 0 rfl ?_
  refine wr_iconst (pc := 1) (dget kJ6_numberOfTrailingZeros_0f7a4 1 rfl) ic_m1 ?_
  refine wr_ixor (pc := 2) (dget kJ6_numberOfTrailingZeros_0f7a4 2 rfl) ?_
  refine wr_iload_n (pc := 3) (dget kJ6_numberOfTrailingZeros_0f7a4 3 rfl) 0 rfl ?_
  refine wr_iconst (pc := 4) (dget kJ6_numberOfTrailingZeros_0f7a4 4 rfl) ic_1 ?_
  refine wr_isub (pc := 5) (dget kJ6_numberOfTrailingZeros_0f7a4 5 rfl) ?_
  refine wr_iand (pc := 6) (dget kJ6_numberOfTrailingZeros_0f7a4 6 rfl) ?_
  refine wr_topi (fun x0_1 e_x0_1 => ?_)
  have h := h x0_1 e_x0_1
  refine wr_istore_n (pc := 7) (lv' := [(0, .int x0_1)]) (dget kJ6_numberOfTrailingZeros_0f7a4 7 rfl) (by decide) rfl ?_
  refine wr_iload_n (pc := 8) (dget kJ6_numberOfTrailingZeros_0f7a4 8 rfl) 0 rfl ?_
  refine wr_if_gt (pc := 9) (tgt := 17) (dget kJ6_numberOfTrailingZeros_0f7a4 9 rfl) (by decide) (fun c_2 => ?_) (fun c_2 => ?_)
  · have h := h.1 c_2
    refine wr_iconst (pc := 17) (dget kJ6_numberOfTrailingZeros_0f7a4 14 rfl) ic_1 ?_
    refine wr_istore_n (pc := 18) (lv' := [(1, .int (1 : Int32)), (0, .int x0_1)]) (dget kJ6_numberOfTrailingZeros_0f7a4 15 rfl) (by decide) rfl ?_
    refine wr_iload_n (pc := 19) (dget kJ6_numberOfTrailingZeros_0f7a4 16 rfl) 1 rfl ?_
    refine wr_ldcw (pc := 20) ki_J6_264 (dget kJ6_numberOfTrailingZeros_0f7a4 17 rfl) ?_
    refine wr_icmp_le (pc := 23) (tgt := 34) (dget kJ6_numberOfTrailingZeros_0f7a4 18 rfl) (by decide) (fun c_3 => ?_) (fun c_3 => ?_)
    · have h := h.1 c_3
      refine wr_sub [1, 0] rfl ?_
      exact tJ6_numberOfTrailingZeros_0f7a4_34 h
    · have h := h.2 c_3
      obtain ⟨x1_4, e_x1_4⟩ : ∃ y : Int32, y = (1 : Int32) + (16 : Int32) := ⟨_, rfl⟩
      have h := h x1_4 e_x1_4
      refine wr_iinc (pc := 26) (v := x1_4) (lv' := [(1, .int x1_4), (0, .int x0_1)]) (dget kJ6_numberOfTrailingZeros_0f7a4 19 rfl) 0 rfl (by rw [e_x1_4, ic_16]) (by decide) rfl ?_
      refine wr_iload_n (pc := 29) (dget kJ6_numberOfTrailingZeros_0f7a4 20 rfl) 1 rfl ?_
      refine wr_bipush (pc := 30) (dget kJ6_numberOfTrailingZeros_0f7a4 21 rfl) bp_16 ?_
      refine wr_iushr (pc := 32) (dget kJ6_numberOfTrailingZeros_0f7a4 22 rfl) rfl ?_
      refine wr_topi (fun x0_5 e_x0_5 => ?_)
      have h := h x0_5 e_x0_5
      refine wr_istore_n (pc := 33) (lv' := [(0, .int x0_5), (1, .int x1_4)]) (dget kJ6_numberOfTrailingZeros_0f7a4 23 rfl) (by decide) rfl ?_
      exact tJ6_numberOfTrailingZeros_0f7a4_34 h
  · have h := h.2 c_2
    refine wr_iload_n (pc := 12) (dget kJ6_numberOfTrailingZeros_0f7a4 10 rfl) 0 rfl ?_
    refine wr_bipush (pc := 13) (dget kJ6_numberOfTrailingZeros_0f7a4 11 rfl) bp_32 ?_
    refine wr_iand (pc := 15) (dget kJ6_numberOfTrailingZeros_0f7a4 12 rfl) ?_
    exact wr_iret (pc := 16) rfl (dget kJ6_numberOfTrailingZeros_0f7a4 13 rfl) ⟨_, rfl, h⟩
def vJ9_max_f86c9 (p1 : Int64) (p2 : Int64) (σ : Hp) (post : Int64 → Hp → Prop) : Prop := (((lg_cmp p1 p2) < 0 → post p2 σ) ∧ (¬ (lg_cmp p1 p2) < 0 → post p1 σ))
set_option maxHeartbeats 4000000 in
set_option maxRecDepth 100000 in
theorem tJ9_max_f86c9 {G : GT} {p1 : Int64} {p2 : Int64} {σ : Hp} {post : Int64 → Hp → Prop} (h : vJ9_max_f86c9 p1 p2 σ post) : CT G mJ9_max_f86c9 [.long p1, .long p2] σ (LL post) := by
  refine CT.ofF (by decide +kernel) (Nat.le_of_ble_eq_true rfl) ?_
  show WP G mJ9_max_f86c9 0 [(0, .long p1), (2, .long p2)] [] σ (LL post)
  unfold vJ9_max_f86c9 at h
  refine wr_lload_n (pc := 0) (dget kJ9_max_f86c9 0 rfl) 0 rfl ?_
  refine wr_lload_n (pc := 1) (dget kJ9_max_f86c9 1 rfl) 1 rfl ?_
  refine wr_lcmp (pc := 2) (dget kJ9_max_f86c9 2 rfl) ?_
  refine wr_if_lt (pc := 3) (tgt := 10) (dget kJ9_max_f86c9 3 rfl) (by decide) (fun c_1 => ?_) (fun c_1 => ?_)
  · have h := h.1 c_1
    refine wr_lload_n (pc := 10) (dget kJ9_max_f86c9 6 rfl) 1 rfl ?_
    exact wr_lret (pc := 11) rfl (dget kJ9_max_f86c9 7 rfl) ⟨_, rfl, h⟩
  · have h := h.2 c_1
    refine wr_lload_n (pc := 6) (dget kJ9_max_f86c9 4 rfl) 0 rfl ?_
    refine wr_goto (pc := 7) (tgt := 11) (dget kJ9_max_f86c9 5 rfl) (by decide) ?_
    exact wr_lret (pc := 11) rfl (dget kJ9_max_f86c9 7 rfl) ⟨_, rfl, h⟩
