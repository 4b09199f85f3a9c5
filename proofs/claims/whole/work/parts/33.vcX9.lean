def vX9_seesBy_6 (post : Int32 → Hp → Prop) (ex : Int32 → Hp → Prop) (x1 : Int32) (x2 : Int32) (x3 : Int32) : Nat → Int32 → Int32 → Hp → Prop
  | 0 => fun _ _ _ => False
  | n + 1 => fun x4 x5 σ => (((σ.1 71 8) ≤ x5 → (ex x4 σ)) ∧ (¬ (σ.1 71 8) ≤ x5 → (vp_in ((4 : Int32) * x5) 48 ∧ (((σ.1 79 (((4 : Int32) * x5)).toNatClampNeg) = x2 → (vp_in (((12 : Int32) * x1) + x5) 288 ∧ (((σ.1 88 ((((12 : Int32) * x1) + x5)).toNatClampNeg) = x3 → (∀ x5_8 : Int32, x5_8 = x5 + (1 : Int32) → vX9_seesBy_6 post ex x1 x2 x3 n x5 x5_8 σ)) ∧ (¬ (σ.1 88 ((((12 : Int32) * x1) + x5)).toNatClampNeg) = x3 → (∀ x5_7 : Int32, x5_7 = x5 + (1 : Int32) → vX9_seesBy_6 post ex x1 x2 x3 n x4 x5_7 σ))))) ∧ (¬ (σ.1 79 (((4 : Int32) * x5)).toNatClampNeg) = x2 → (∀ x5_4 : Int32, x5_4 = x5 + (1 : Int32) → vX9_seesBy_6 post ex x1 x2 x3 n x4 x5_4 σ))))))
set_option maxHeartbeats 4000000 in
set_option maxRecDepth 100000 in
theorem tX9_seesBy_6 {G : GT} {post : Int32 → Hp → Prop} {ex : Int32 → Hp → Prop} {x1 : Int32} {x2 : Int32} {x3 : Int32} (hex : ∀ (z4 : Int32) (τ : Hp), ex z4 τ → WP G mX9_seesBy 59 [(4, .int z4)] [] τ (LI post)) : ∀ (n : Nat) (x4 : Int32) (x5 : Int32) (σ : Hp), vX9_seesBy_6 post ex x1 x2 x3 n x4 x5 σ → WP G mX9_seesBy 6 [(0, .ref (G.1 71)), (1, .int x1), (2, .int x2), (3, .int x3), (4, .int x4), (5, .int x5)] [] σ (LI post) := by
  intro n
  induction n with
  | zero => intro x4 x5 σ h; exact False.elim h
  | succ n ih =>
    intro x4 x5 σ h
    simp only [vX9_seesBy_6] at h
    refine wr_iload (pc := 6) (dget kX9_seesBy 4 rfl) 5 rfl ?_
    refine wr_aload_n (pc := 8) (dget kX9_seesBy 5 rfl) 0 rfl ?_
    refine wr_getI (pc := 9) (σ := σ) fl_X9_123 kd_71 fk_9_8 (dget kX9_seesBy 6 rfl) ?_
    refine wr_icmp_ge (pc := 12) (tgt := 59) (dget kX9_seesBy 7 rfl) (by decide) (fun c_1 => ?_) (fun c_1 => ?_)
    · have h := h.1 c_1
      refine wr_sub [4] rfl ?_
      exact hex _ _ h
    · have h := h.2 c_1
      refine wr_aload_n (pc := 15) (dget kX9_seesBy 8 rfl) 0 rfl ?_
      refine wr_getRl (pc := 16) fl_X9_31 kd_71 fk_9_9 rt_71_9 (dget kX9_seesBy 9 rfl) ?_
      refine wr_iconst (pc := 19) (dget kX9_seesBy 10 rfl) ic_4 ?_
      refine wr_iload (pc := 20) (dget kX9_seesBy 11 rfl) 5 rfl ?_
      refine wr_imul (pc := 22) (dget kX9_seesBy 12 rfl) ?_
      obtain ⟨q_2, h⟩ := h
      refine wr_ialdl (pc := 23) (σ := σ) il_79 q_2 (dget kX9_seesBy 13 rfl) ?_
      refine wr_iload_n (pc := 24) (dget kX9_seesBy 14 rfl) 2 rfl ?_
      refine wr_icmp_ne (pc := 25) (tgt := 49) (dget kX9_seesBy 15 rfl) (by decide) (fun c_3 => ?_) (fun c_3 => ?_)
      · have h := h.2 c_3
        refine wr_iload (pc := 49) (dget kX9_seesBy 28 rfl) 4 rfl ?_
        refine wr_istore (pc := 51) (lv' := [(4, .int x4), (0, .ref (G.1 71)), (1, .int x1), (2, .int x2), (3, .int x3), (5, .int x5)]) (dget kX9_seesBy 29 rfl) (by decide) rfl ?_
        obtain ⟨x5_4, e_x5_4⟩ : ∃ y : Int32, y = x5 + (1 : Int32) := ⟨_, rfl⟩
        have h := h x5_4 e_x5_4
        refine wr_iinc (pc := 53) (v := x5_4) (lv' := [(5, .int x5_4), (4, .int x4), (0, .ref (G.1 71)), (1, .int x1), (2, .int x2), (3, .int x3)]) (dget kX9_seesBy 30 rfl) 5 rfl (by rw [e_x5_4, ic_1]) (by decide) rfl ?_
        refine wr_goto (pc := 56) (tgt := 6) (dget kX9_seesBy 31 rfl) (by decide) ?_
        refine wr_sub [2, 3, 4, 5, 1, 0] rfl ?_
        exact ih _ _ _ h
      · have h := h.1 c_3
        refine wr_aload_n (pc := 28) (dget kX9_seesBy 16 rfl) 0 rfl ?_
        refine wr_getRl (pc := 29) fl_X9_58 kd_71 fk_9_21 rt_71_21 (dget kX9_seesBy 17 rfl) ?_
        refine wr_bipush (pc := 32) (dget kX9_seesBy 18 rfl) bp_12 ?_
        refine wr_iload_n (pc := 34) (dget kX9_seesBy 19 rfl) 1 rfl ?_
        refine wr_imul (pc := 35) (dget kX9_seesBy 20 rfl) ?_
        refine wr_iload (pc := 36) (dget kX9_seesBy 21 rfl) 5 rfl ?_
        refine wr_iadd (pc := 38) (dget kX9_seesBy 22 rfl) ?_
        obtain ⟨q_5, h⟩ := h
        refine wr_ialdl (pc := 39) (σ := σ) il_88 q_5 (dget kX9_seesBy 23 rfl) ?_
        refine wr_iload_n (pc := 40) (dget kX9_seesBy 24 rfl) 3 rfl ?_
        refine wr_icmp_ne (pc := 41) (tgt := 49) (dget kX9_seesBy 25 rfl) (by decide) (fun c_6 => ?_) (fun c_6 => ?_)
        · have h := h.2 c_6
          refine wr_iload (pc := 49) (dget kX9_seesBy 28 rfl) 4 rfl ?_
          refine wr_istore (pc := 51) (lv' := [(4, .int x4), (0, .ref (G.1 71)), (1, .int x1), (2, .int x2), (3, .int x3), (5, .int x5)]) (dget kX9_seesBy 29 rfl) (by decide) rfl ?_
          obtain ⟨x5_7, e_x5_7⟩ : ∃ y : Int32, y = x5 + (1 : Int32) := ⟨_, rfl⟩
          have h := h x5_7 e_x5_7
          refine wr_iinc (pc := 53) (v := x5_7) (lv' := [(5, .int x5_7), (4, .int x4), (0, .ref (G.1 71)), (1, .int x1), (2, .int x2), (3, .int x3)]) (dget kX9_seesBy 30 rfl) 5 rfl (by rw [e_x5_7, ic_1]) (by decide) rfl ?_
          refine wr_goto (pc := 56) (tgt := 6) (dget kX9_seesBy 31 rfl) (by decide) ?_
          refine wr_sub [2, 3, 4, 5, 1, 0] rfl ?_
          exact ih _ _ _ h
        · have h := h.1 c_6
          refine wr_iload (pc := 44) (dget kX9_seesBy 26 rfl) 5 rfl ?_
          refine wr_goto (pc := 46) (tgt := 51) (dget kX9_seesBy 27 rfl) (by decide) ?_
          refine wr_istore (pc := 51) (lv' := [(4, .int x5), (0, .ref (G.1 71)), (1, .int x1), (2, .int x2), (3, .int x3), (5, .int x5)]) (dget kX9_seesBy 29 rfl) (by decide) rfl ?_
          obtain ⟨x5_8, e_x5_8⟩ : ∃ y : Int32, y = x5 + (1 : Int32) := ⟨_, rfl⟩
          have h := h x5_8 e_x5_8
          refine wr_iinc (pc := 53) (v := x5_8) (lv' := [(5, .int x5_8), (4, .int x5), (0, .ref (G.1 71)), (1, .int x1), (2, .int x2), (3, .int x3)]) (dget kX9_seesBy 30 rfl) 5 rfl (by rw [e_x5_8, ic_1]) (by decide) rfl ?_
          refine wr_goto (pc := 56) (tgt := 6) (dget kX9_seesBy 31 rfl) (by decide) ?_
          refine wr_sub [2, 3, 4, 5, 1, 0] rfl ?_
          exact ih _ _ _ h
def vX9_seesBy (p1 : Int32) (p2 : Int32) (p3 : Int32) (σ : Hp) (post : Int32 → Hp → Prop) : Prop := (∃ fu : Nat, vX9_seesBy_6 post (fun z4_1 σ_2 => post z4_1 σ_2) p1 p2 p3 fu (-1 : Int32) (0 : Int32) σ)
set_option maxHeartbeats 4000000 in
set_option maxRecDepth 100000 in
theorem tX9_seesBy {G : GT} {p1 : Int32} {p2 : Int32} {p3 : Int32} {σ : Hp} {post : Int32 → Hp → Prop} (h : vX9_seesBy p1 p2 p3 σ post) : CT G mX9_seesBy [.ref (G.1 71), .int p1, .int p2, .int p3] σ (LI post) := by
  refine CT.of (by decide +kernel) (Nat.le_of_ble_eq_true rfl) ?_
  show WP G mX9_seesBy 0 [(0, .ref (G.1 71)), (1, .int p1), (2, .int p2), (3, .int p3)] [] σ (LI post)
  unfold vX9_seesBy at h
  refine wr_iconst (pc := 0) (dget kX9_seesBy 0 rfl) ic_m1 ?_
  refine wr_istore (pc := 1) (lv' := [(4, .int (-1 : Int32)), (0, .ref (G.1 71)), (1, .int p1), (2, .int p2), (3, .int p3)]) (dget kX9_seesBy 1 rfl) (by decide) rfl ?_
  refine wr_iconst (pc := 3) (dget kX9_seesBy 2 rfl) ic_0 ?_
  refine wr_istore (pc := 4) (lv' := [(5, .int (0 : Int32)), (4, .int (-1 : Int32)), (0, .ref (G.1 71)), (1, .int p1), (2, .int p2), (3, .int p3)]) (dget kX9_seesBy 3 rfl) (by decide) rfl ?_
  obtain ⟨fu, h⟩ := h
  refine wr_sub [2, 3, 4, 5, 1, 0] rfl ?_
  refine tX9_seesBy_6 (fun z4_1 σ_2 h => ?_) fu _ _ _ h
  refine wr_iload (pc := 59) (dget kX9_seesBy 32 rfl) 0 rfl ?_
  exact wr_iret (pc := 61) rfl (dget kX9_seesBy 33 rfl) ⟨_, rfl, h⟩
def vX9_sees (p1 : Int32) (p2 : Int32) (p3 : Int32) (σ : Hp) (post : Int32 → Hp → Prop) : Prop := (vX9_find  σ (fun σ_1 => (vX9_isTick p1 σ_1 (fun r_4 σ_3 => ((r_4 = 0 → post (-2 : Int32) σ_3) ∧ (¬ r_4 = 0 → (vX9_isChain p2 σ_3 (fun r_7 σ_6 => ((r_7 = 0 → post (-2 : Int32) σ_6) ∧ (¬ r_7 = 0 → (vX9_in p3.toInt64 (0 : Int64) (11 : Int64) σ_6 (fun r_10 σ_9 => ((r_10 = 0 → post (-2 : Int32) σ_9) ∧ (¬ r_10 = 0 → (vX9_seesBy p1 p2 p3 σ_9 (fun r_13 σ_12 => post r_13 σ_12))))))))))))))))
set_option maxHeartbeats 4000000 in
set_option maxRecDepth 100000 in
theorem tX9_sees {G : GT} {p1 : Int32} {p2 : Int32} {p3 : Int32} {σ : Hp} {post : Int32 → Hp → Prop} (h : vX9_sees p1 p2 p3 σ post) : CT G mX9_sees [.ref (G.1 71), .int p1, .int p2, .int p3] σ (LI post) := by
  refine CT.of (by decide +kernel) (Nat.le_of_ble_eq_true rfl) ?_
  show WP G mX9_sees 0 [(0, .ref (G.1 71)), (1, .int p1), (2, .int p2), (3, .int p3)] [] σ (LI post)
  unfold vX9_sees at h
  refine wr_aload_n (pc := 0) (dget kX9_sees 0 rfl) 0 rfl ?_
  refine wr_callVv (pc := 1) (Mc := mX9_find) (o := 71) (rest := []) cf_X9_206 cv_X9_find kd_71 rfl ⟨Nat.le_of_ble_eq_true rfl, Nat.le_of_ble_eq_true rfl⟩ rfl rfl (Nat.le_of_ble_eq_true rfl) (dget kX9_sees 1 rfl) (tX9_find h) (fun σ_1 h => ?_)
  refine wr_iload_n (pc := 4) (dget kX9_sees 2 rfl) 1 rfl ?_
  refine wr_callSi (pc := 5) (Mc := mX9_isTick) (rest := []) cf_X9_167 cs_X9_isTick ⟨Nat.le_of_ble_eq_true rfl, Nat.le_of_ble_eq_true rfl⟩ rfl rfl (Nat.le_of_ble_eq_true rfl) (dget kX9_sees 3 rfl) (tX9_isTick h) (fun r_4 σ_3 h => ?_)
  refine wr_if_eq (pc := 8) (tgt := 40) (dget kX9_sees 4 rfl) (by decide) (fun c_5 => ?_) (fun c_5 => ?_)
  · have h := h.1 c_5
    refine wr_bipush (pc := 40) (dget kX9_sees 20 rfl) bp_m2 ?_
    exact wr_iret (pc := 42) rfl (dget kX9_sees 21 rfl) ⟨_, rfl, h⟩
  · have h := h.2 c_5
    refine wr_iload_n (pc := 11) (dget kX9_sees 5 rfl) 2 rfl ?_
    refine wr_callSi (pc := 12) (Mc := mX9_isChain) (rest := []) cf_X9_153 cs_X9_isChain ⟨Nat.le_of_ble_eq_true rfl, Nat.le_of_ble_eq_true rfl⟩ rfl rfl (Nat.le_of_ble_eq_true rfl) (dget kX9_sees 6 rfl) (tX9_isChain h) (fun r_7 σ_6 h => ?_)
    refine wr_if_eq (pc := 15) (tgt := 40) (dget kX9_sees 7 rfl) (by decide) (fun c_8 => ?_) (fun c_8 => ?_)
    · have h := h.1 c_8
      refine wr_bipush (pc := 40) (dget kX9_sees 20 rfl) bp_m2 ?_
      exact wr_iret (pc := 42) rfl (dget kX9_sees 21 rfl) ⟨_, rfl, h⟩
    · have h := h.2 c_8
      refine wr_iload_n (pc := 18) (dget kX9_sees 8 rfl) 3 rfl ?_
      refine wr_i2l (pc := 19) (dget kX9_sees 9 rfl) rfl ?_
      refine wr_lconst (pc := 20) (dget kX9_sees 10 rfl) lc_0 ?_
      refine wr_ldc2 (pc := 21) kl_X9_170 (dget kX9_sees 11 rfl) ?_
      refine wr_callSi (pc := 24) (Mc := mX9_in) (rest := []) cf_X9_75 cs_X9_in ⟨Nat.le_of_ble_eq_true rfl, Nat.le_of_ble_eq_true rfl⟩ rfl rfl (Nat.le_of_ble_eq_true rfl) (dget kX9_sees 12 rfl) (tX9_in h) (fun r_10 σ_9 h => ?_)
      refine wr_if_eq (pc := 27) (tgt := 40) (dget kX9_sees 13 rfl) (by decide) (fun c_11 => ?_) (fun c_11 => ?_)
      · have h := h.1 c_11
        refine wr_bipush (pc := 40) (dget kX9_sees 20 rfl) bp_m2 ?_
        exact wr_iret (pc := 42) rfl (dget kX9_sees 21 rfl) ⟨_, rfl, h⟩
      · have h := h.2 c_11
        refine wr_aload_n (pc := 30) (dget kX9_sees 14 rfl) 0 rfl ?_
        refine wr_iload_n (pc := 31) (dget kX9_sees 15 rfl) 1 rfl ?_
        refine wr_iload_n (pc := 32) (dget kX9_sees 16 rfl) 2 rfl ?_
        refine wr_iload_n (pc := 33) (dget kX9_sees 17 rfl) 3 rfl ?_
        refine wr_callVi (pc := 34) (Mc := mX9_seesBy) (o := 71) (rest := []) cf_X9_212 cv_X9_seesBy kd_71 rfl ⟨Nat.le_of_ble_eq_true rfl, Nat.le_of_ble_eq_true rfl⟩ rfl rfl (Nat.le_of_ble_eq_true rfl) (dget kX9_sees 18 rfl) (tX9_seesBy h) (fun r_13 σ_12 h => ?_)
        refine wr_goto (pc := 37) (tgt := 42) (dget kX9_sees 19 rfl) (by decide) ?_
        exact wr_iret (pc := 42) rfl (dget kX9_sees 21 rfl) ⟨_, rfl, h⟩
def vX9_downBits_4 (post : Int32 → Hp → Prop) (ex : Int32 → Hp → Prop) (x1 : Int32) : Nat → Int32 → Int32 → Hp → Prop
  | 0 => fun _ _ _ => False
  | n + 1 => fun x2 x3 σ => (((σ.1 71 8) ≤ x3 → (ex x2 σ)) ∧ (¬ (σ.1 71 8) ≤ x3 → (vp_in (((12 : Int32) * x1) + x3) 288 ∧ (((σ.1 89 ((((12 : Int32) * x1) + x3)).toNatClampNeg) = (2 : Int32) → (∀ x2_6 : Int32, x2_6 = (x2 ||| ((1 : Int32) <<< (x3 &&& 31))) → (∀ x3_7 : Int32, x3_7 = x3 + (1 : Int32) → vX9_downBits_4 post ex x1 n x2_6 x3_7 σ))) ∧ (¬ (σ.1 89 ((((12 : Int32) * x1) + x3)).toNatClampNeg) = (2 : Int32) → (∀ x2_4 : Int32, x2_4 = (x2 ||| (0 : Int32)) → (∀ x3_5 : Int32, x3_5 = x3 + (1 : Int32) → vX9_downBits_4 post ex x1 n x2_4 x3_5 σ)))))))
set_option maxHeartbeats 4000000 in
set_option maxRecDepth 100000 in
theorem tX9_downBits_4 {G : GT} {post : Int32 → Hp → Prop} {ex : Int32 → Hp → Prop} {x1 : Int32} (hex : ∀ (z2 : Int32) (τ : Hp), ex z2 τ → WP G mX9_downBits 43 [(2, .int z2)] [] τ (LI post)) : ∀ (n : Nat) (x2 : Int32) (x3 : Int32) (σ : Hp), vX9_downBits_4 post ex x1 n x2 x3 σ → WP G mX9_downBits 4 [(0, .ref (G.1 71)), (1, .int x1), (2, .int x2), (3, .int x3)] [] σ (LI post) := by
  intro n
  induction n with
  | zero => intro x2 x3 σ h; exact False.elim h
  | succ n ih =>
    intro x2 x3 σ h
    simp only [vX9_downBits_4] at h
    refine wr_iload_n (pc := 4) (dget kX9_downBits 4 rfl) 3 rfl ?_
    refine wr_aload_n (pc := 5) (dget kX9_downBits 5 rfl) 0 rfl ?_
    refine wr_getI (pc := 6) (σ := σ) fl_X9_123 kd_71 fk_9_8 (dget kX9_downBits 6 rfl) ?_
    refine wr_icmp_ge (pc := 9) (tgt := 43) (dget kX9_downBits 7 rfl) (by decide) (fun c_1 => ?_) (fun c_1 => ?_)
    · have h := h.1 c_1
      refine wr_sub [2] rfl ?_
      exact hex _ _ h
    · have h := h.2 c_1
      refine wr_iload_n (pc := 12) (dget kX9_downBits 8 rfl) 2 rfl ?_
      refine wr_aload_n (pc := 13) (dget kX9_downBits 9 rfl) 0 rfl ?_
      refine wr_getRl (pc := 14) fl_X9_61 kd_71 fk_9_22 rt_71_22 (dget kX9_downBits 10 rfl) ?_
      refine wr_bipush (pc := 17) (dget kX9_downBits 11 rfl) bp_12 ?_
      refine wr_iload_n (pc := 19) (dget kX9_downBits 12 rfl) 1 rfl ?_
      refine wr_imul (pc := 20) (dget kX9_downBits 13 rfl) ?_
      refine wr_iload_n (pc := 21) (dget kX9_downBits 14 rfl) 3 rfl ?_
      refine wr_iadd (pc := 22) (dget kX9_downBits 15 rfl) ?_
      obtain ⟨q_2, h⟩ := h
      refine wr_ialdl (pc := 23) (σ := σ) il_89 q_2 (dget kX9_downBits 16 rfl) ?_
      refine wr_iconst (pc := 24) (dget kX9_downBits 17 rfl) ic_2 ?_
      refine wr_icmp_ne (pc := 25) (tgt := 34) (dget kX9_downBits 18 rfl) (by decide) (fun c_3 => ?_) (fun c_3 => ?_)
      · have h := h.2 c_3
        refine wr_iconst (pc := 34) (dget kX9_downBits 23 rfl) ic_0 ?_
        refine wr_ior (pc := 35) (dget kX9_downBits 24 rfl) ?_
        refine wr_topi (fun x2_4 e_x2_4 => ?_)
        have h := h x2_4 e_x2_4
        refine wr_istore_n (pc := 36) (lv' := [(2, .int x2_4), (0, .ref (G.1 71)), (1, .int x1), (3, .int x3)]) (dget kX9_downBits 25 rfl) (by decide) rfl ?_
        obtain ⟨x3_5, e_x3_5⟩ : ∃ y : Int32, y = x3 + (1 : Int32) := ⟨_, rfl⟩
        have h := h x3_5 e_x3_5
        refine wr_iinc (pc := 37) (v := x3_5) (lv' := [(3, .int x3_5), (2, .int x2_4), (0, .ref (G.1 71)), (1, .int x1)]) (dget kX9_downBits 26 rfl) 3 rfl (by rw [e_x3_5, ic_1]) (by decide) rfl ?_
        refine wr_goto (pc := 40) (tgt := 4) (dget kX9_downBits 27 rfl) (by decide) ?_
        refine wr_sub [2, 3, 1, 0] rfl ?_
        exact ih _ _ _ h
      · have h := h.1 c_3
        refine wr_iconst (pc := 28) (dget kX9_downBits 19 rfl) ic_1 ?_
        refine wr_iload_n (pc := 29) (dget kX9_downBits 20 rfl) 3 rfl ?_
        refine wr_ishl (pc := 30) (dget kX9_downBits 21 rfl) ?_
        refine wr_goto (pc := 31) (tgt := 35) (dget kX9_downBits 22 rfl) (by decide) ?_
        refine wr_ior (pc := 35) (dget kX9_downBits 24 rfl) ?_
        refine wr_topi (fun x2_6 e_x2_6 => ?_)
        have h := h x2_6 e_x2_6
        refine wr_istore_n (pc := 36) (lv' := [(2, .int x2_6), (0, .ref (G.1 71)), (1, .int x1), (3, .int x3)]) (dget kX9_downBits 25 rfl) (by decide) rfl ?_
        obtain ⟨x3_7, e_x3_7⟩ : ∃ y : Int32, y = x3 + (1 : Int32) := ⟨_, rfl⟩
        have h := h x3_7 e_x3_7
        refine wr_iinc (pc := 37) (v := x3_7) (lv' := [(3, .int x3_7), (2, .int x2_6), (0, .ref (G.1 71)), (1, .int x1)]) (dget kX9_downBits 26 rfl) 3 rfl (by rw [e_x3_7, ic_1]) (by decide) rfl ?_
        refine wr_goto (pc := 40) (tgt := 4) (dget kX9_downBits 27 rfl) (by decide) ?_
        refine wr_sub [2, 3, 1, 0] rfl ?_
        exact ih _ _ _ h
def vX9_downBits (p1 : Int32) (σ : Hp) (post : Int32 → Hp → Prop) : Prop := (∃ fu : Nat, vX9_downBits_4 post (fun z2_1 σ_2 => post z2_1 σ_2) p1 fu (0 : Int32) (0 : Int32) σ)
set_option maxHeartbeats 4000000 in
set_option maxRecDepth 100000 in
theorem tX9_downBits {G : GT} {p1 : Int32} {σ : Hp} {post : Int32 → Hp → Prop} (h : vX9_downBits p1 σ post) : CT G mX9_downBits [.ref (G.1 71), .int p1] σ (LI post) := by
  refine CT.of (by decide +kernel) (Nat.le_of_ble_eq_true rfl) ?_
  show WP G mX9_downBits 0 [(0, .ref (G.1 71)), (1, .int p1)] [] σ (LI post)
  unfold vX9_downBits at h
  refine wr_iconst (pc := 0) (dget kX9_downBits 0 rfl) ic_0 ?_
  refine wr_istore_n (pc := 1) (lv' := [(2, .int (0 : Int32)), (0, .ref (G.1 71)), (1, .int p1)]) (dget kX9_downBits 1 rfl) (by decide) rfl ?_
  refine wr_iconst (pc := 2) (dget kX9_downBits 2 rfl) ic_0 ?_
  refine wr_istore_n (pc := 3) (lv' := [(3, .int (0 : Int32)), (2, .int (0 : Int32)), (0, .ref (G.1 71)), (1, .int p1)]) (dget kX9_downBits 3 rfl) (by decide) rfl ?_
  obtain ⟨fu, h⟩ := h
  refine wr_sub [2, 3, 1, 0] rfl ?_
  refine tX9_downBits_4 (fun z2_1 σ_2 h => ?_) fu _ _ _ h
  refine wr_iload_n (pc := 43) (dget kX9_downBits 28 rfl) 0 rfl ?_
  exact wr_iret (pc := 44) rfl (dget kX9_downBits 29 rfl) ⟨_, rfl, h⟩
def vX9_downBy_4 (post : Int32 → Hp → Prop) (ex : Int32 → Hp → Prop) (x1 : Int32) : Nat → Int32 → Int32 → Hp → Prop
  | 0 => fun _ _ _ => False
  | n + 1 => fun x2 x3 σ => (((σ.1 71 8) ≤ x3 → (ex x2 σ)) ∧ (¬ (σ.1 71 8) ≤ x3 → (vp_in (((12 : Int32) * x1) + x3) 288 ∧ (((σ.1 89 ((((12 : Int32) * x1) + x3)).toNatClampNeg) = (2 : Int32) → (∀ x2_6 : Int32, x2_6 = (x2 + (1 : Int32)) → (∀ x3_7 : Int32, x3_7 = x3 + (1 : Int32) → vX9_downBy_4 post ex x1 n x2_6 x3_7 σ))) ∧ (¬ (σ.1 89 ((((12 : Int32) * x1) + x3)).toNatClampNeg) = (2 : Int32) → (∀ x2_4 : Int32, x2_4 = (x2 + (0 : Int32)) → (∀ x3_5 : Int32, x3_5 = x3 + (1 : Int32) → vX9_downBy_4 post ex x1 n x2_4 x3_5 σ)))))))
set_option maxHeartbeats 4000000 in
set_option maxRecDepth 100000 in
theorem tX9_downBy_4 {G : GT} {post : Int32 → Hp → Prop} {ex : Int32 → Hp → Prop} {x1 : Int32} (hex : ∀ (z2 : Int32) (τ : Hp), ex z2 τ → WP G mX9_downBy 41 [(2, .int z2)] [] τ (LI post)) : ∀ (n : Nat) (x2 : Int32) (x3 : Int32) (σ : Hp), vX9_downBy_4 post ex x1 n x2 x3 σ → WP G mX9_downBy 4 [(0, .ref (G.1 71)), (1, .int x1), (2, .int x2), (3, .int x3)] [] σ (LI post) := by
  intro n
  induction n with
  | zero => intro x2 x3 σ h; exact False.elim h
  | succ n ih =>
    intro x2 x3 σ h
    simp only [vX9_downBy_4] at h
    refine wr_iload_n (pc := 4) (dget kX9_downBy 4 rfl) 3 rfl ?_
    refine wr_aload_n (pc := 5) (dget kX9_downBy 5 rfl) 0 rfl ?_
    refine wr_getI (pc := 6) (σ := σ) fl_X9_123 kd_71 fk_9_8 (dget kX9_downBy 6 rfl) ?_
    refine wr_icmp_ge (pc := 9) (tgt := 41) (dget kX9_downBy 7 rfl) (by decide) (fun c_1 => ?_) (fun c_1 => ?_)
    · have h := h.1 c_1
      refine wr_sub [2] rfl ?_
      exact hex _ _ h
    · have h := h.2 c_1
      refine wr_iload_n (pc := 12) (dget kX9_downBy 8 rfl) 2 rfl ?_
      refine wr_aload_n (pc := 13) (dget kX9_downBy 9 rfl) 0 rfl ?_
      refine wr_getRl (pc := 14) fl_X9_61 kd_71 fk_9_22 rt_71_22 (dget kX9_downBy 10 rfl) ?_
      refine wr_bipush (pc := 17) (dget kX9_downBy 11 rfl) bp_12 ?_
      refine wr_iload_n (pc := 19) (dget kX9_downBy 12 rfl) 1 rfl ?_
      refine wr_imul (pc := 20) (dget kX9_downBy 13 rfl) ?_
      refine wr_iload_n (pc := 21) (dget kX9_downBy 14 rfl) 3 rfl ?_
      refine wr_iadd (pc := 22) (dget kX9_downBy 15 rfl) ?_
      obtain ⟨q_2, h⟩ := h
      refine wr_ialdl (pc := 23) (σ := σ) il_89 q_2 (dget kX9_downBy 16 rfl) ?_
      refine wr_iconst (pc := 24) (dget kX9_downBy 17 rfl) ic_2 ?_
      refine wr_icmp_ne (pc := 25) (tgt := 32) (dget kX9_downBy 18 rfl) (by decide) (fun c_3 => ?_) (fun c_3 => ?_)
      · have h := h.2 c_3
        refine wr_iconst (pc := 32) (dget kX9_downBy 21 rfl) ic_0 ?_
        refine wr_iadd (pc := 33) (dget kX9_downBy 22 rfl) ?_
        refine wr_topi (fun x2_4 e_x2_4 => ?_)
        have h := h x2_4 e_x2_4
        refine wr_istore_n (pc := 34) (lv' := [(2, .int x2_4), (0, .ref (G.1 71)), (1, .int x1), (3, .int x3)]) (dget kX9_downBy 23 rfl) (by decide) rfl ?_
        obtain ⟨x3_5, e_x3_5⟩ : ∃ y : Int32, y = x3 + (1 : Int32) := ⟨_, rfl⟩
        have h := h x3_5 e_x3_5
        refine wr_iinc (pc := 35) (v := x3_5) (lv' := [(3, .int x3_5), (2, .int x2_4), (0, .ref (G.1 71)), (1, .int x1)]) (dget kX9_downBy 24 rfl) 3 rfl (by rw [e_x3_5, ic_1]) (by decide) rfl ?_
        refine wr_goto (pc := 38) (tgt := 4) (dget kX9_downBy 25 rfl) (by decide) ?_
        refine wr_sub [2, 3, 1, 0] rfl ?_
        exact ih _ _ _ h
      · have h := h.1 c_3
        refine wr_iconst (pc := 28) (dget kX9_downBy 19 rfl) ic_1 ?_
        refine wr_goto (pc := 29) (tgt := 33) (dget kX9_downBy 20 rfl) (by decide) ?_
        refine wr_iadd (pc := 33) (dget kX9_downBy 22 rfl) ?_
        refine wr_topi (fun x2_6 e_x2_6 => ?_)
        have h := h x2_6 e_x2_6
        refine wr_istore_n (pc := 34) (lv' := [(2, .int x2_6), (0, .ref (G.1 71)), (1, .int x1), (3, .int x3)]) (dget kX9_downBy 23 rfl) (by decide) rfl ?_
        obtain ⟨x3_7, e_x3_7⟩ : ∃ y : Int32, y = x3 + (1 : Int32) := ⟨_, rfl⟩
        have h := h x3_7 e_x3_7
        refine wr_iinc (pc := 35) (v := x3_7) (lv' := [(3, .int x3_7), (2, .int x2_6), (0, .ref (G.1 71)), (1, .int x1)]) (dget kX9_downBy 24 rfl) 3 rfl (by rw [e_x3_7, ic_1]) (by decide) rfl ?_
        refine wr_goto (pc := 38) (tgt := 4) (dget kX9_downBy 25 rfl) (by decide) ?_
        refine wr_sub [2, 3, 1, 0] rfl ?_
        exact ih _ _ _ h
def vX9_downBy (p1 : Int32) (σ : Hp) (post : Int32 → Hp → Prop) : Prop := (∃ fu : Nat, vX9_downBy_4 post (fun z2_1 σ_2 => post z2_1 σ_2) p1 fu (0 : Int32) (0 : Int32) σ)
set_option maxHeartbeats 4000000 in
set_option maxRecDepth 100000 in
theorem tX9_downBy {G : GT} {p1 : Int32} {σ : Hp} {post : Int32 → Hp → Prop} (h : vX9_downBy p1 σ post) : CT G mX9_downBy [.ref (G.1 71), .int p1] σ (LI post) := by
  refine CT.of (by decide +kernel) (Nat.le_of_ble_eq_true rfl) ?_
  show WP G mX9_downBy 0 [(0, .ref (G.1 71)), (1, .int p1)] [] σ (LI post)
  unfold vX9_downBy at h
  refine wr_iconst (pc := 0) (dget kX9_downBy 0 rfl) ic_0 ?_
  refine wr_istore_n (pc := 1) (lv' := [(2, .int (0 : Int32)), (0, .ref (G.1 71)), (1, .int p1)]) (dget kX9_downBy 1 rfl) (by decide) rfl ?_
  refine wr_iconst (pc := 2) (dget kX9_downBy 2 rfl) ic_0 ?_
  refine wr_istore_n (pc := 3) (lv' := [(3, .int (0 : Int32)), (2, .int (0 : Int32)), (0, .ref (G.1 71)), (1, .int p1)]) (dget kX9_downBy 3 rfl) (by decide) rfl ?_
  obtain ⟨fu, h⟩ := h
  refine wr_sub [2, 3, 1, 0] rfl ?_
  refine tX9_downBy_4 (fun z2_1 σ_2 h => ?_) fu _ _ _ h
  refine wr_iload_n (pc := 41) (dget kX9_downBy 26 rfl) 0 rfl ?_
  exact wr_iret (pc := 42) rfl (dget kX9_downBy 27 rfl) ⟨_, rfl, h⟩
def vX9_down (p1 : Int32) (σ : Hp) (post : Int32 → Hp → Prop) : Prop := (vX9_find  σ (fun σ_1 => (vX9_isTick p1 σ_1 (fun r_4 σ_3 => ((r_4 = 0 → post (-2 : Int32) σ_3) ∧ (¬ r_4 = 0 → (vX9_downBy p1 σ_3 (fun r_7 σ_6 => post r_7 σ_6))))))))
set_option maxHeartbeats 4000000 in
set_option maxRecDepth 100000 in
theorem tX9_down {G : GT} {p1 : Int32} {σ : Hp} {post : Int32 → Hp → Prop} (h : vX9_down p1 σ post) : CT G mX9_down [.ref (G.1 71), .int p1] σ (LI post) := by
  refine CT.of (by decide +kernel) (Nat.le_of_ble_eq_true rfl) ?_
  show WP G mX9_down 0 [(0, .ref (G.1 71)), (1, .int p1)] [] σ (LI post)
  unfold vX9_down at h
  refine wr_aload_n (pc := 0) (dget kX9_down 0 rfl) 0 rfl ?_
  refine wr_callVv (pc := 1) (Mc := mX9_find) (o := 71) (rest := []) cf_X9_206 cv_X9_find kd_71 rfl ⟨Nat.le_of_ble_eq_true rfl, Nat.le_of_ble_eq_true rfl⟩ rfl rfl (Nat.le_of_ble_eq_true rfl) (dget kX9_down 1 rfl) (tX9_find h) (fun σ_1 h => ?_)
  refine wr_iload_n (pc := 4) (dget kX9_down 2 rfl) 1 rfl ?_
  refine wr_callSi (pc := 5) (Mc := mX9_isTick) (rest := []) cf_X9_167 cs_X9_isTick ⟨Nat.le_of_ble_eq_true rfl, Nat.le_of_ble_eq_true rfl⟩ rfl rfl (Nat.le_of_ble_eq_true rfl) (dget kX9_down 3 rfl) (tX9_isTick h) (fun r_4 σ_3 h => ?_)
  refine wr_if_eq (pc := 8) (tgt := 19) (dget kX9_down 4 rfl) (by decide) (fun c_5 => ?_) (fun c_5 => ?_)
  · have h := h.1 c_5
    refine wr_bipush (pc := 19) (dget kX9_down 9 rfl) bp_m2 ?_
    exact wr_iret (pc := 21) rfl (dget kX9_down 10 rfl) ⟨_, rfl, h⟩
  · have h := h.2 c_5
    refine wr_aload_n (pc := 11) (dget kX9_down 5 rfl) 0 rfl ?_
    refine wr_iload_n (pc := 12) (dget kX9_down 6 rfl) 1 rfl ?_
    refine wr_callVi (pc := 13) (Mc := mX9_downBy) (o := 71) (rest := []) cf_X9_215 cv_X9_downBy kd_71 rfl ⟨Nat.le_of_ble_eq_true rfl, Nat.le_of_ble_eq_true rfl⟩ rfl rfl (Nat.le_of_ble_eq_true rfl) (dget kX9_down 7 rfl) (tX9_downBy h) (fun r_7 σ_6 h => ?_)
    refine wr_goto (pc := 16) (tgt := 21) (dget kX9_down 8 rfl) (by decide) ?_
    exact wr_iret (pc := 21) rfl (dget kX9_down 10 rfl) ⟨_, rfl, h⟩
def vX9_hitsBy (p1 : Int32) (p2 : Int32) (σ : Hp) (post : Int32 → Hp → Prop) : Prop := (vp_in ((3 : Int32) * p1) 36 ∧ (vp_in (1 : Int32) 2 ∧ (∀ x3_3 : Int32, x3_3 = ((σ.1 80 (((3 : Int32) * p1)).toNatClampNeg) + (σ.1 81 (1 : Int32).toNatClampNeg)) → ((p2 = 0 → ((x3_3 ≤ (23 : Int32) → post x3_3 σ) ∧ (¬ x3_3 ≤ (23 : Int32) → post (-1 : Int32) σ))) ∧ (¬ p2 = 0 → ((p2 = (1 : Int32) → (vp_in p1 12 ∧ post (σ.1 86 p1.toNatClampNeg) σ)) ∧ (¬ p2 = (1 : Int32) → (vp_in p1 12 ∧ post (σ.1 87 p1.toNatClampNeg) σ))))))))
set_option maxHeartbeats 4000000 in
set_option maxRecDepth 100000 in
theorem tX9_hitsBy {G : GT} {p1 : Int32} {p2 : Int32} {σ : Hp} {post : Int32 → Hp → Prop} (h : vX9_hitsBy p1 p2 σ post) : CT G mX9_hitsBy [.ref (G.1 71), .int p1, .int p2] σ (LI post) := by
  refine CT.of (by decide +kernel) (Nat.le_of_ble_eq_true rfl) ?_
  show WP G mX9_hitsBy 0 [(0, .ref (G.1 71)), (1, .int p1), (2, .int p2)] [] σ (LI post)
  unfold vX9_hitsBy at h
  refine wr_aload_n (pc := 0) (dget kX9_hitsBy 0 rfl) 0 rfl ?_
  refine wr_getRl (pc := 1) fl_X9_34 kd_71 fk_9_11 rt_71_11 (dget kX9_hitsBy 1 rfl) ?_
  refine wr_iconst (pc := 4) (dget kX9_hitsBy 2 rfl) ic_3 ?_
  refine wr_iload_n (pc := 5) (dget kX9_hitsBy 3 rfl) 1 rfl ?_
  refine wr_imul (pc := 6) (dget kX9_hitsBy 4 rfl) ?_
  obtain ⟨q_1, h⟩ := h
  refine wr_ialdl (pc := 7) (σ := σ) il_80 q_1 (dget kX9_hitsBy 5 rfl) ?_
  refine wr_aload_n (pc := 8) (dget kX9_hitsBy 6 rfl) 0 rfl ?_
  refine wr_getRl (pc := 9) fl_X9_37 kd_71 fk_9_12 rt_71_12 (dget kX9_hitsBy 7 rfl) ?_
  refine wr_iconst (pc := 12) (dget kX9_hitsBy 8 rfl) ic_1 ?_
  obtain ⟨q_2, h⟩ := h
  refine wr_ialdl (pc := 13) (σ := σ) il_81 q_2 (dget kX9_hitsBy 9 rfl) ?_
  refine wr_iadd (pc := 14) (dget kX9_hitsBy 10 rfl) ?_
  refine wr_topi (fun x3_3 e_x3_3 => ?_)
  have h := h x3_3 e_x3_3
  refine wr_istore_n (pc := 15) (lv' := [(3, .int x3_3), (0, .ref (G.1 71)), (1, .int p1), (2, .int p2)]) (dget kX9_hitsBy 11 rfl) (by decide) rfl ?_
  refine wr_iload_n (pc := 16) (dget kX9_hitsBy 12 rfl) 3 rfl ?_
  refine wr_if_ne (pc := 17) (tgt := 34) (dget kX9_hitsBy 13 rfl) (by decide) (fun c_4 => ?_) (fun c_4 => ?_)
  · have h := h.2 c_4
    refine wr_iload_n (pc := 34) (dget kX9_hitsBy 21 rfl) 3 rfl ?_
    refine wr_iconst (pc := 35) (dget kX9_hitsBy 22 rfl) ic_1 ?_
    refine wr_icmp_ne (pc := 36) (tgt := 48) (dget kX9_hitsBy 23 rfl) (by decide) (fun c_5 => ?_) (fun c_5 => ?_)
    · have h := h.2 c_5
      refine wr_aload_n (pc := 48) (dget kX9_hitsBy 29 rfl) 1 rfl ?_
      refine wr_getRl (pc := 49) fl_X9_55 kd_71 fk_9_20 rt_71_20 (dget kX9_hitsBy 30 rfl) ?_
      refine wr_iload_n (pc := 52) (dget kX9_hitsBy 31 rfl) 2 rfl ?_
      obtain ⟨q_6, h⟩ := h
      refine wr_ialdl (pc := 53) (σ := σ) il_87 q_6 (dget kX9_hitsBy 32 rfl) ?_
      exact wr_iret (pc := 54) rfl (dget kX9_hitsBy 33 rfl) ⟨_, rfl, h⟩
    · have h := h.1 c_5
      refine wr_aload_n (pc := 39) (dget kX9_hitsBy 24 rfl) 1 rfl ?_
      refine wr_getRl (pc := 40) fl_X9_52 kd_71 fk_9_19 rt_71_19 (dget kX9_hitsBy 25 rfl) ?_
      refine wr_iload_n (pc := 43) (dget kX9_hitsBy 26 rfl) 2 rfl ?_
      obtain ⟨q_7, h⟩ := h
      refine wr_ialdl (pc := 44) (σ := σ) il_86 q_7 (dget kX9_hitsBy 27 rfl) ?_
      refine wr_goto (pc := 45) (tgt := 54) (dget kX9_hitsBy 28 rfl) (by decide) ?_
      exact wr_iret (pc := 54) rfl (dget kX9_hitsBy 33 rfl) ⟨_, rfl, h⟩
  · have h := h.1 c_4
    refine wr_iload_n (pc := 20) (dget kX9_hitsBy 14 rfl) 0 rfl ?_
    refine wr_bipush (pc := 21) (dget kX9_hitsBy 15 rfl) bp_23 ?_
    refine wr_icmp_le (pc := 23) (tgt := 30) (dget kX9_hitsBy 16 rfl) (by decide) (fun c_8 => ?_) (fun c_8 => ?_)
    · have h := h.1 c_8
      refine wr_iload_n (pc := 30) (dget kX9_hitsBy 19 rfl) 0 rfl ?_
      refine wr_goto (pc := 31) (tgt := 54) (dget kX9_hitsBy 20 rfl) (by decide) ?_
      exact wr_iret (pc := 54) rfl (dget kX9_hitsBy 33 rfl) ⟨_, rfl, h⟩
    · have h := h.2 c_8
      refine wr_iconst (pc := 26) (dget kX9_hitsBy 17 rfl) ic_m1 ?_
      refine wr_goto (pc := 27) (tgt := 54) (dget kX9_hitsBy 18 rfl) (by decide) ?_
      exact wr_iret (pc := 54) rfl (dget kX9_hitsBy 33 rfl) ⟨_, rfl, h⟩
def vX9_hits (p1 : Int32) (p2 : Int32) (σ : Hp) (post : Int32 → Hp → Prop) : Prop := (vX9_find  σ (fun σ_1 => (vX9_isShot p1 σ_1 (fun r_4 σ_3 => ((r_4 = 0 → post (-2 : Int32) σ_3) ∧ (¬ r_4 = 0 → (vX9_in p2.toInt64 (0 : Int64) (2 : Int64) σ_3 (fun r_7 σ_6 => ((r_7 = 0 → post (-2 : Int32) σ_6) ∧ (¬ r_7 = 0 → (vX9_hitsBy p1 p2 σ_6 (fun r_10 σ_9 => post r_10 σ_9))))))))))))
set_option maxHeartbeats 4000000 in
set_option maxRecDepth 100000 in
theorem tX9_hits {G : GT} {p1 : Int32} {p2 : Int32} {σ : Hp} {post : Int32 → Hp → Prop} (h : vX9_hits p1 p2 σ post) : CT G mX9_hits [.ref (G.1 71), .int p1, .int p2] σ (LI post) := by
  refine CT.of (by decide +kernel) (Nat.le_of_ble_eq_true rfl) ?_
  show WP G mX9_hits 0 [(0, .ref (G.1 71)), (1, .int p1), (2, .int p2)] [] σ (LI post)
  unfold vX9_hits at h
  refine wr_aload_n (pc := 0) (dget kX9_hits 0 rfl) 0 rfl ?_
  refine wr_callVv (pc := 1) (Mc := mX9_find) (o := 71) (rest := []) cf_X9_206 cv_X9_find kd_71 rfl ⟨Nat.le_of_ble_eq_true rfl, Nat.le_of_ble_eq_true rfl⟩ rfl rfl (Nat.le_of_ble_eq_true rfl) (dget kX9_hits 1 rfl) (tX9_find h) (fun σ_1 h => ?_)
  refine wr_aload_n (pc := 4) (dget kX9_hits 2 rfl) 0 rfl ?_
  refine wr_iload_n (pc := 5) (dget kX9_hits 3 rfl) 1 rfl ?_
  refine wr_callVi (pc := 6) (Mc := mX9_isShot) (o := 71) (rest := []) cf_X9_159 cv_X9_isShot kd_71 rfl ⟨Nat.le_of_ble_eq_true rfl, Nat.le_of_ble_eq_true rfl⟩ rfl rfl (Nat.le_of_ble_eq_true rfl) (dget kX9_hits 4 rfl) (tX9_isShot h) (fun r_4 σ_3 h => ?_)
  refine wr_if_eq (pc := 9) (tgt := 33) (dget kX9_hits 5 rfl) (by decide) (fun c_5 => ?_) (fun c_5 => ?_)
  · have h := h.1 c_5
    refine wr_bipush (pc := 33) (dget kX9_hits 17 rfl) bp_m2 ?_
    exact wr_iret (pc := 35) rfl (dget kX9_hits 18 rfl) ⟨_, rfl, h⟩
  · have h := h.2 c_5
    refine wr_iload_n (pc := 12) (dget kX9_hits 6 rfl) 2 rfl ?_
    refine wr_i2l (pc := 13) (dget kX9_hits 7 rfl) rfl ?_
    refine wr_lconst (pc := 14) (dget kX9_hits 8 rfl) lc_0 ?_
    refine wr_ldc2 (pc := 15) kl_X9_89 (dget kX9_hits 9 rfl) ?_
    refine wr_callSi (pc := 18) (Mc := mX9_in) (rest := []) cf_X9_75 cs_X9_in ⟨Nat.le_of_ble_eq_true rfl, Nat.le_of_ble_eq_true rfl⟩ rfl rfl (Nat.le_of_ble_eq_true rfl) (dget kX9_hits 10 rfl) (tX9_in h) (fun r_7 σ_6 h => ?_)
    refine wr_if_eq (pc := 21) (tgt := 33) (dget kX9_hits 11 rfl) (by decide) (fun c_8 => ?_) (fun c_8 => ?_)
    · have h := h.1 c_8
      refine wr_bipush (pc := 33) (dget kX9_hits 17 rfl) bp_m2 ?_
      exact wr_iret (pc := 35) rfl (dget kX9_hits 18 rfl) ⟨_, rfl, h⟩
    · have h := h.2 c_8
      refine wr_aload_n (pc := 24) (dget kX9_hits 12 rfl) 0 rfl ?_
      refine wr_iload_n (pc := 25) (dget kX9_hits 13 rfl) 1 rfl ?_
      refine wr_iload_n (pc := 26) (dget kX9_hits 14 rfl) 2 rfl ?_
      refine wr_callVi (pc := 27) (Mc := mX9_hitsBy) (o := 71) (rest := []) cf_X9_218 cv_X9_hitsBy kd_71 rfl ⟨Nat.le_of_ble_eq_true rfl, Nat.le_of_ble_eq_true rfl⟩ rfl rfl (Nat.le_of_ble_eq_true rfl) (dget kX9_hits 15 rfl) (tX9_hitsBy h) (fun r_10 σ_9 h => ?_)
      refine wr_goto (pc := 30) (tgt := 35) (dget kX9_hits 16 rfl) (by decide) ?_
      exact wr_iret (pc := 35) rfl (dget kX9_hits 18 rfl) ⟨_, rfl, h⟩
def vX9_score_4 (post : Int32 → Hp → Prop) (ex : Int32 → Hp → Prop) : Nat → Int32 → Int32 → Hp → Prop
  | 0 => fun _ _ _ => False
  | n + 1 => fun x1 x2 σ => (((σ.1 71 10) ≤ x2 → (ex x1 σ)) ∧ (¬ (σ.1 71 10) ≤ x2 → (vp_in x2 12 ∧ (∀ x1_3 : Int32, x1_3 = (x1 + (σ.1 87 x2.toNatClampNeg)) → (∀ x2_4 : Int32, x2_4 = x2 + (1 : Int32) → vX9_score_4 post ex  n x1_3 x2_4 σ)))))
set_option maxHeartbeats 4000000 in
set_option maxRecDepth 100000 in
theorem tX9_score_4 {G : GT} {post : Int32 → Hp → Prop} {ex : Int32 → Hp → Prop} (hex : ∀ (z1 : Int32) (τ : Hp), ex z1 τ → WP G mX9_score 27 [(1, .int z1)] [] τ (LI post)) : ∀ (n : Nat) (x1 : Int32) (x2 : Int32) (σ : Hp), vX9_score_4 post ex  n x1 x2 σ → WP G mX9_score 4 [(0, .ref (G.1 71)), (1, .int x1), (2, .int x2)] [] σ (LI post) := by
  intro n
  induction n with
  | zero => intro x1 x2 σ h; exact False.elim h
  | succ n ih =>
    intro x1 x2 σ h
    simp only [vX9_score_4] at h
    refine wr_iload_n (pc := 4) (dget kX9_score 4 rfl) 2 rfl ?_
    refine wr_aload_n (pc := 5) (dget kX9_score 5 rfl) 0 rfl ?_
    refine wr_getI (pc := 6) (σ := σ) fl_X9_132 kd_71 fk_9_10 (dget kX9_score 6 rfl) ?_
    refine wr_icmp_ge (pc := 9) (tgt := 27) (dget kX9_score 7 rfl) (by decide) (fun c_1 => ?_) (fun c_1 => ?_)
    · have h := h.1 c_1
      refine wr_sub [1] rfl ?_
      exact hex _ _ h
    · have h := h.2 c_1
      refine wr_iload_n (pc := 12) (dget kX9_score 8 rfl) 1 rfl ?_
      refine wr_aload_n (pc := 13) (dget kX9_score 9 rfl) 0 rfl ?_
      refine wr_getRl (pc := 14) fl_X9_55 kd_71 fk_9_20 rt_71_20 (dget kX9_score 10 rfl) ?_
      refine wr_iload_n (pc := 17) (dget kX9_score 11 rfl) 2 rfl ?_
      obtain ⟨q_2, h⟩ := h
      refine wr_ialdl (pc := 18) (σ := σ) il_87 q_2 (dget kX9_score 12 rfl) ?_
      refine wr_iadd (pc := 19) (dget kX9_score 13 rfl) ?_
      refine wr_topi (fun x1_3 e_x1_3 => ?_)
      have h := h x1_3 e_x1_3
      refine wr_istore_n (pc := 20) (lv' := [(1, .int x1_3), (0, .ref (G.1 71)), (2, .int x2)]) (dget kX9_score 14 rfl) (by decide) rfl ?_
      obtain ⟨x2_4, e_x2_4⟩ : ∃ y : Int32, y = x2 + (1 : Int32) := ⟨_, rfl⟩
      have h := h x2_4 e_x2_4
      refine wr_iinc (pc := 21) (v := x2_4) (lv' := [(2, .int x2_4), (1, .int x1_3), (0, .ref (G.1 71))]) (dget kX9_score 15 rfl) 2 rfl (by rw [e_x2_4, ic_1]) (by decide) rfl ?_
      refine wr_goto (pc := 24) (tgt := 4) (dget kX9_score 16 rfl) (by decide) ?_
      refine wr_sub [2, 1, 0] rfl ?_
      exact ih _ _ _ h
def vX9_score (σ : Hp) (post : Int32 → Hp → Prop) : Prop := (∃ fu : Nat, vX9_score_4 post (fun z1_1 σ_2 => post z1_1 σ_2)  fu (0 : Int32) (0 : Int32) σ)
set_option maxHeartbeats 4000000 in
set_option maxRecDepth 100000 in
theorem tX9_score {G : GT} {σ : Hp} {post : Int32 → Hp → Prop} (h : vX9_score  σ post) : CT G mX9_score [.ref (G.1 71)] σ (LI post) := by
  refine CT.of (by decide +kernel) (Nat.le_of_ble_eq_true rfl) ?_
  show WP G mX9_score 0 [(0, .ref (G.1 71))] [] σ (LI post)
  unfold vX9_score at h
  refine wr_iconst (pc := 0) (dget kX9_score 0 rfl) ic_0 ?_
  refine wr_istore_n (pc := 1) (lv' := [(1, .int (0 : Int32)), (0, .ref (G.1 71))]) (dget kX9_score 1 rfl) (by decide) rfl ?_
  refine wr_iconst (pc := 2) (dget kX9_score 2 rfl) ic_0 ?_
  refine wr_istore_n (pc := 3) (lv' := [(2, .int (0 : Int32)), (1, .int (0 : Int32)), (0, .ref (G.1 71))]) (dget kX9_score 3 rfl) (by decide) rfl ?_
  obtain ⟨fu, h⟩ := h
  refine wr_sub [2, 1, 0] rfl ?_
  refine tX9_score_4 (fun z1_1 σ_2 h => ?_) fu _ _ _ h
  refine wr_iload_n (pc := 27) (dget kX9_score 17 rfl) 0 rfl ?_
  exact wr_iret (pc := 28) rfl (dget kX9_score 18 rfl) ⟨_, rfl, h⟩
def vX9_manyHit_4 (post : Int32 → Hp → Prop) (ex : Int32 → Hp → Prop) : Nat → Int32 → Int32 → Hp → Prop
  | 0 => fun _ _ _ => False
  | n + 1 => fun x1 x2 σ => (((σ.1 71 10) ≤ x2 → (ex x1 σ)) ∧ (¬ (σ.1 71 10) ≤ x2 → (vp_in x2 12 ∧ (((σ.1 86 x2.toNatClampNeg) = (-1 : Int32) → (∀ x1_4 : Int32, x1_4 = (x1 + (0 : Int32)) → (∀ x2_5 : Int32, x2_5 = x2 + (1 : Int32) → vX9_manyHit_4 post ex  n x1_4 x2_5 σ))) ∧ (¬ (σ.1 86 x2.toNatClampNeg) = (-1 : Int32) → (∀ x1_6 : Int32, x1_6 = (x1 + (1 : Int32)) → (∀ x2_7 : Int32, x2_7 = x2 + (1 : Int32) → vX9_manyHit_4 post ex  n x1_6 x2_7 σ)))))))
set_option maxHeartbeats 4000000 in
set_option maxRecDepth 100000 in
theorem tX9_manyHit_4 {G : GT} {post : Int32 → Hp → Prop} {ex : Int32 → Hp → Prop} (hex : ∀ (z1 : Int32) (τ : Hp), ex z1 τ → WP G mX9_manyHit 36 [(1, .int z1)] [] τ (LI post)) : ∀ (n : Nat) (x1 : Int32) (x2 : Int32) (σ : Hp), vX9_manyHit_4 post ex  n x1 x2 σ → WP G mX9_manyHit 4 [(0, .ref (G.1 71)), (1, .int x1), (2, .int x2)] [] σ (LI post) := by
  intro n
  induction n with
  | zero => intro x1 x2 σ h; exact False.elim h
  | succ n ih =>
    intro x1 x2 σ h
    simp only [vX9_manyHit_4] at h
    refine wr_iload_n (pc := 4) (dget kX9_manyHit 4 rfl) 2 rfl ?_
    refine wr_aload_n (pc := 5) (dget kX9_manyHit 5 rfl) 0 rfl ?_
    refine wr_getI (pc := 6) (σ := σ) fl_X9_132 kd_71 fk_9_10 (dget kX9_manyHit 6 rfl) ?_
    refine wr_icmp_ge (pc := 9) (tgt := 36) (dget kX9_manyHit 7 rfl) (by decide) (fun c_1 => ?_) (fun c_1 => ?_)
    · have h := h.1 c_1
      refine wr_sub [1] rfl ?_
      exact hex _ _ h
    · have h := h.2 c_1
      refine wr_iload_n (pc := 12) (dget kX9_manyHit 8 rfl) 1 rfl ?_
      refine wr_aload_n (pc := 13) (dget kX9_manyHit 9 rfl) 0 rfl ?_
      refine wr_getRl (pc := 14) fl_X9_52 kd_71 fk_9_19 rt_71_19 (dget kX9_manyHit 10 rfl) ?_
      refine wr_iload_n (pc := 17) (dget kX9_manyHit 11 rfl) 2 rfl ?_
      obtain ⟨q_2, h⟩ := h
      refine wr_ialdl (pc := 18) (σ := σ) il_86 q_2 (dget kX9_manyHit 12 rfl) ?_
      refine wr_iconst (pc := 19) (dget kX9_manyHit 13 rfl) ic_m1 ?_
      refine wr_icmp_eq (pc := 20) (tgt := 27) (dget kX9_manyHit 14 rfl) (by decide) (fun c_3 => ?_) (fun c_3 => ?_)
      · have h := h.1 c_3
        refine wr_iconst (pc := 27) (dget kX9_manyHit 17 rfl) ic_0 ?_
        refine wr_iadd (pc := 28) (dget kX9_manyHit 18 rfl) ?_
        refine wr_topi (fun x1_4 e_x1_4 => ?_)
        have h := h x1_4 e_x1_4
        refine wr_istore_n (pc := 29) (lv' := [(1, .int x1_4), (0, .ref (G.1 71)), (2, .int x2)]) (dget kX9_manyHit 19 rfl) (by decide) rfl ?_
        obtain ⟨x2_5, e_x2_5⟩ : ∃ y : Int32, y = x2 + (1 : Int32) := ⟨_, rfl⟩
        have h := h x2_5 e_x2_5
        refine wr_iinc (pc := 30) (v := x2_5) (lv' := [(2, .int x2_5), (1, .int x1_4), (0, .ref (G.1 71))]) (dget kX9_manyHit 20 rfl) 2 rfl (by rw [e_x2_5, ic_1]) (by decide) rfl ?_
        refine wr_goto (pc := 33) (tgt := 4) (dget kX9_manyHit 21 rfl) (by decide) ?_
        refine wr_sub [2, 1, 0] rfl ?_
        exact ih _ _ _ h
      · have h := h.2 c_3
        refine wr_iconst (pc := 23) (dget kX9_manyHit 15 rfl) ic_1 ?_
        refine wr_goto (pc := 24) (tgt := 28) (dget kX9_manyHit 16 rfl) (by decide) ?_
        refine wr_iadd (pc := 28) (dget kX9_manyHit 18 rfl) ?_
        refine wr_topi (fun x1_6 e_x1_6 => ?_)
        have h := h x1_6 e_x1_6
        refine wr_istore_n (pc := 29) (lv' := [(1, .int x1_6), (0, .ref (G.1 71)), (2, .int x2)]) (dget kX9_manyHit 19 rfl) (by decide) rfl ?_
        obtain ⟨x2_7, e_x2_7⟩ : ∃ y : Int32, y = x2 + (1 : Int32) := ⟨_, rfl⟩
        have h := h x2_7 e_x2_7
        refine wr_iinc (pc := 30) (v := x2_7) (lv' := [(2, .int x2_7), (1, .int x1_6), (0, .ref (G.1 71))]) (dget kX9_manyHit 20 rfl) 2 rfl (by rw [e_x2_7, ic_1]) (by decide) rfl ?_
        refine wr_goto (pc := 33) (tgt := 4) (dget kX9_manyHit 21 rfl) (by decide) ?_
        refine wr_sub [2, 1, 0] rfl ?_
        exact ih _ _ _ h
def vX9_manyHit (σ : Hp) (post : Int32 → Hp → Prop) : Prop := (∃ fu : Nat, vX9_manyHit_4 post (fun z1_1 σ_2 => post z1_1 σ_2)  fu (0 : Int32) (0 : Int32) σ)
set_option maxHeartbeats 4000000 in
set_option maxRecDepth 100000 in
theorem tX9_manyHit {G : GT} {σ : Hp} {post : Int32 → Hp → Prop} (h : vX9_manyHit  σ post) : CT G mX9_manyHit [.ref (G.1 71)] σ (LI post) := by
  refine CT.of (by decide +kernel) (Nat.le_of_ble_eq_true rfl) ?_
  show WP G mX9_manyHit 0 [(0, .ref (G.1 71))] [] σ (LI post)
  unfold vX9_manyHit at h
  refine wr_iconst (pc := 0) (dget kX9_manyHit 0 rfl) ic_0 ?_
  refine wr_istore_n (pc := 1) (lv' := [(1, .int (0 : Int32)), (0, .ref (G.1 71))]) (dget kX9_manyHit 1 rfl) (by decide) rfl ?_
  refine wr_iconst (pc := 2) (dget kX9_manyHit 2 rfl) ic_0 ?_
  refine wr_istore_n (pc := 3) (lv' := [(2, .int (0 : Int32)), (1, .int (0 : Int32)), (0, .ref (G.1 71))]) (dget kX9_manyHit 3 rfl) (by decide) rfl ?_
  obtain ⟨fu, h⟩ := h
  refine wr_sub [2, 1, 0] rfl ?_
  refine tX9_manyHit_4 (fun z1_1 σ_2 h => ?_) fu _ _ _ h
  refine wr_iload_n (pc := 36) (dget kX9_manyHit 22 rfl) 0 rfl ?_
  exact wr_iret (pc := 37) rfl (dget kX9_manyHit 23 rfl) ⟨_, rfl, h⟩
def vX9_sumBy (p1 : Int32) (σ : Hp) (post : Int32 → Hp → Prop) : Prop := ((p1 = 0 → (vX9_score  σ (fun r_8 σ_7 => post r_8 σ_7))) ∧ (¬ p1 = 0 → ((p1 = (1 : Int32) → (vX9_manyHit  σ (fun r_6 σ_5 => post r_6 σ_5))) ∧ (¬ p1 = (1 : Int32) → (vX9_manyHit  σ (fun r_4 σ_3 => post ((σ.1 71 10) - r_4) σ_3))))))
set_option maxHeartbeats 4000000 in
set_option maxRecDepth 100000 in
theorem tX9_sumBy {G : GT} {p1 : Int32} {σ : Hp} {post : Int32 → Hp → Prop} (h : vX9_sumBy p1 σ post) : CT G mX9_sumBy [.ref (G.1 71), .int p1] σ (LI post) := by
  refine CT.of (by decide +kernel) (Nat.le_of_ble_eq_true rfl) ?_
  show WP G mX9_sumBy 0 [(0, .ref (G.1 71)), (1, .int p1)] [] σ (LI post)
  unfold vX9_sumBy at h
  refine wr_iload_n (pc := 0) (dget kX9_sumBy 0 rfl) 1 rfl ?_
  refine wr_if_ne (pc := 1) (tgt := 11) (dget kX9_sumBy 1 rfl) (by decide) (fun c_1 => ?_) (fun c_1 => ?_)
  · have h := h.2 c_1
    refine wr_iload_n (pc := 11) (dget kX9_sumBy 5 rfl) 1 rfl ?_
    refine wr_iconst (pc := 12) (dget kX9_sumBy 6 rfl) ic_1 ?_
    refine wr_icmp_ne (pc := 13) (tgt := 23) (dget kX9_sumBy 7 rfl) (by decide) (fun c_2 => ?_) (fun c_2 => ?_)
    · have h := h.2 c_2
      refine wr_aload_n (pc := 23) (dget kX9_sumBy 11 rfl) 0 rfl ?_
      refine wr_getI (pc := 24) (σ := σ) fl_X9_132 kd_71 fk_9_10 (dget kX9_sumBy 12 rfl) ?_
      refine wr_aload_n (pc := 27) (dget kX9_sumBy 13 rfl) 0 rfl ?_
      refine wr_callVi (pc := 28) (Mc := mX9_manyHit) (o := 71) (rest := [.int (σ.1 71 10)]) cf_X9_224 cv_X9_manyHit kd_71 rfl ⟨Nat.le_of_ble_eq_true rfl, Nat.le_of_ble_eq_true rfl⟩ rfl rfl (Nat.le_of_ble_eq_true rfl) (dget kX9_sumBy 14 rfl) (tX9_manyHit h) (fun r_4 σ_3 h => ?_)
      refine wr_isub (pc := 31) (dget kX9_sumBy 15 rfl) ?_
      exact wr_iret (pc := 32) rfl (dget kX9_sumBy 16 rfl) ⟨_, rfl, h⟩
    · have h := h.1 c_2
      refine wr_aload_n (pc := 16) (dget kX9_sumBy 8 rfl) 0 rfl ?_
      refine wr_callVi (pc := 17) (Mc := mX9_manyHit) (o := 71) (rest := []) cf_X9_224 cv_X9_manyHit kd_71 rfl ⟨Nat.le_of_ble_eq_true rfl, Nat.le_of_ble_eq_true rfl⟩ rfl rfl (Nat.le_of_ble_eq_true rfl) (dget kX9_sumBy 9 rfl) (tX9_manyHit h) (fun r_6 σ_5 h => ?_)
      refine wr_goto (pc := 20) (tgt := 32) (dget kX9_sumBy 10 rfl) (by decide) ?_
      exact wr_iret (pc := 32) rfl (dget kX9_sumBy 16 rfl) ⟨_, rfl, h⟩
  · have h := h.1 c_1
    refine wr_aload_n (pc := 4) (dget kX9_sumBy 2 rfl) 0 rfl ?_
    refine wr_callVi (pc := 5) (Mc := mX9_score) (o := 71) (rest := []) cf_X9_221 cv_X9_score kd_71 rfl ⟨Nat.le_of_ble_eq_true rfl, Nat.le_of_ble_eq_true rfl⟩ rfl rfl (Nat.le_of_ble_eq_true rfl) (dget kX9_sumBy 3 rfl) (tX9_score h) (fun r_8 σ_7 h => ?_)
    refine wr_goto (pc := 8) (tgt := 32) (dget kX9_sumBy 4 rfl) (by decide) ?_
    exact wr_iret (pc := 32) rfl (dget kX9_sumBy 16 rfl) ⟨_, rfl, h⟩
def vX9_sum (p1 : Int32) (σ : Hp) (post : Int32 → Hp → Prop) : Prop := (vX9_find  σ (fun σ_1 => (vX9_in p1.toInt64 (0 : Int64) (2 : Int64) σ_1 (fun r_4 σ_3 => ((r_4 = 0 → post (-2 : Int32) σ_3) ∧ (¬ r_4 = 0 → (vX9_sumBy p1 σ_3 (fun r_7 σ_6 => post r_7 σ_6))))))))
set_option maxHeartbeats 4000000 in
set_option maxRecDepth 100000 in
theorem tX9_sum {G : GT} {p1 : Int32} {σ : Hp} {post : Int32 → Hp → Prop} (h : vX9_sum p1 σ post) : CT G mX9_sum [.ref (G.1 71), .int p1] σ (LI post) := by
  refine CT.of (by decide +kernel) (Nat.le_of_ble_eq_true rfl) ?_
  show WP G mX9_sum 0 [(0, .ref (G.1 71)), (1, .int p1)] [] σ (LI post)
  unfold vX9_sum at h
  refine wr_aload_n (pc := 0) (dget kX9_sum 0 rfl) 0 rfl ?_
  refine wr_callVv (pc := 1) (Mc := mX9_find) (o := 71) (rest := []) cf_X9_206 cv_X9_find kd_71 rfl ⟨Nat.le_of_ble_eq_true rfl, Nat.le_of_ble_eq_true rfl⟩ rfl rfl (Nat.le_of_ble_eq_true rfl) (dget kX9_sum 1 rfl) (tX9_find h) (fun σ_1 h => ?_)
  refine wr_iload_n (pc := 4) (dget kX9_sum 2 rfl) 1 rfl ?_
  refine wr_i2l (pc := 5) (dget kX9_sum 3 rfl) rfl ?_
  refine wr_lconst (pc := 6) (dget kX9_sum 4 rfl) lc_0 ?_
  refine wr_ldc2 (pc := 7) kl_X9_89 (dget kX9_sum 5 rfl) ?_
  refine wr_callSi (pc := 10) (Mc := mX9_in) (rest := []) cf_X9_75 cs_X9_in ⟨Nat.le_of_ble_eq_true rfl, Nat.le_of_ble_eq_true rfl⟩ rfl rfl (Nat.le_of_ble_eq_true rfl) (dget kX9_sum 6 rfl) (tX9_in h) (fun r_4 σ_3 h => ?_)
  refine wr_if_eq (pc := 13) (tgt := 24) (dget kX9_sum 7 rfl) (by decide) (fun c_5 => ?_) (fun c_5 => ?_)
  · have h := h.1 c_5
    refine wr_bipush (pc := 24) (dget kX9_sum 12 rfl) bp_m2 ?_
    exact wr_iret (pc := 26) rfl (dget kX9_sum 13 rfl) ⟨_, rfl, h⟩
  · have h := h.2 c_5
    refine wr_aload_n (pc := 16) (dget kX9_sum 8 rfl) 0 rfl ?_
    refine wr_iload_n (pc := 17) (dget kX9_sum 9 rfl) 1 rfl ?_
    refine wr_callVi (pc := 18) (Mc := mX9_sumBy) (o := 71) (rest := []) cf_X9_227 cv_X9_sumBy kd_71 rfl ⟨Nat.le_of_ble_eq_true rfl, Nat.le_of_ble_eq_true rfl⟩ rfl rfl (Nat.le_of_ble_eq_true rfl) (dget kX9_sum 10 rfl) (tX9_sumBy h) (fun r_7 σ_6 h => ?_)
    refine wr_goto (pc := 21) (tgt := 26) (dget kX9_sum 11 rfl) (by decide) ?_
    exact wr_iret (pc := 26) rfl (dget kX9_sum 13 rfl) ⟨_, rfl, h⟩
def vX9_runBy_38 (post : Int32 → Hp → Prop) (ex : Int32 → Int32 → Hp → Prop) (rc : Int32 → Int32 → Int32 → Int32 → Hp → Prop) (x1 : Int32) (x2 : Int32) (x3 : Int32) (x5 : Int32) (y0 : Int32) (σ : Hp) : Prop := ((y0 ≤ x2 → (vX9_greater y0 x2 σ (fun r_3 σ_2 => (∀ x5_4 : Int32, x5_4 = x5 + (1 : Int32) → (rc r_3 x3 y0 x5_4 σ_2))))) ∧ (¬ y0 ≤ x2 → (∀ x3_5 : Int32, x3_5 = ((x5 - y0) + (1 : Int32)) → (vX9_greater y0 x2 σ (fun r_7 σ_6 => (∀ x5_8 : Int32, x5_8 = x5 + (1 : Int32) → (rc r_7 x3_5 y0 x5_8 σ_6)))))))
set_option maxHeartbeats 4000000 in
set_option maxRecDepth 100000 in
theorem tX9_runBy_38 {G : GT} {post : Int32 → Hp → Prop} {ex : Int32 → Int32 → Hp → Prop} {rc : Int32 → Int32 → Int32 → Int32 → Hp → Prop} {x1 : Int32} {x2 : Int32} {x3 : Int32} {x5 : Int32} {y0 : Int32} {σ : Hp} (hex : ∀ (z2 : Int32) (z3 : Int32) (τ : Hp), ex z2 z3 τ → WP G mX9_runBy 71 [(1, .int x1), (2, .int z2), (3, .int z3)] [] τ (LI post)) (hrc : ∀ (z2 : Int32) (z3 : Int32) (z4 : Int32) (z5 : Int32) (τ : Hp), rc z2 z3 z4 z5 τ → WP G mX9_runBy 10 [(0, .ref (G.1 71)), (1, .int x1), (2, .int z2), (3, .int z3), (4, .int z4), (5, .int z5)] [] τ (LI post)) (h : vX9_runBy_38 post ex rc x1 x2 x3 x5 y0 σ) : WP G mX9_runBy 38 [(0, .ref (G.1 71)), (1, .int x1), (2, .int x2), (3, .int x3), (5, .int x5)] [.int y0] σ (LI post) := by
  unfold vX9_runBy_38 at h
  refine wr_istore (pc := 38) (lv' := [(4, .int y0), (0, .ref (G.1 71)), (1, .int x1), (2, .int x2), (3, .int x3), (5, .int x5)]) (dget kX9_runBy 23 rfl) (by decide) rfl ?_
  refine wr_iload (pc := 40) (dget kX9_runBy 24 rfl) 0 rfl ?_
  refine wr_iload_n (pc := 42) (dget kX9_runBy 25 rfl) 3 rfl ?_
  refine wr_icmp_le (pc := 43) (tgt := 56) (dget kX9_runBy 26 rfl) (by decide) (fun c_1 => ?_) (fun c_1 => ?_)
  · have h := h.1 c_1
    refine wr_iload_n (pc := 56) (dget kX9_runBy 33 rfl) 4 rfl ?_
    refine wr_istore_n (pc := 57) (lv' := [(3, .int x3), (4, .int y0), (0, .ref (G.1 71)), (1, .int x1), (2, .int x2), (5, .int x5)]) (dget kX9_runBy 34 rfl) (by decide) rfl ?_
    refine wr_iload (pc := 58) (dget kX9_runBy 35 rfl) 1 rfl ?_
    refine wr_iload_n (pc := 60) (dget kX9_runBy 36 rfl) 4 rfl ?_
    refine wr_callSi (pc := 61) (Mc := mX9_greater) (rest := []) cf_X9_230 cs_X9_greater ⟨Nat.le_of_ble_eq_true rfl, Nat.le_of_ble_eq_true rfl⟩ rfl rfl (Nat.le_of_ble_eq_true rfl) (dget kX9_runBy 37 rfl) (tX9_greater h) (fun r_3 σ_2 h => ?_)
    refine wr_istore_n (pc := 64) (lv' := [(2, .int r_3), (3, .int x3), (4, .int y0), (0, .ref (G.1 71)), (1, .int x1), (5, .int x5)]) (dget kX9_runBy 38 rfl) (by decide) rfl ?_
    obtain ⟨x5_4, e_x5_4⟩ : ∃ y : Int32, y = x5 + (1 : Int32) := ⟨_, rfl⟩
    have h := h x5_4 e_x5_4
    refine wr_iinc (pc := 65) (v := x5_4) (lv' := [(5, .int x5_4), (2, .int r_3), (3, .int x3), (4, .int y0), (0, .ref (G.1 71)), (1, .int x1)]) (dget kX9_runBy 39 rfl) 5 rfl (by rw [e_x5_4, ic_1]) (by decide) rfl ?_
    refine wr_goto (pc := 68) (tgt := 10) (dget kX9_runBy 40 rfl) (by decide) ?_
    refine wr_sub [4, 5, 1, 2, 3, 0] rfl ?_
    exact hrc _ _ _ _ _ h
  · have h := h.2 c_1
    refine wr_iload (pc := 46) (dget kX9_runBy 27 rfl) 5 rfl ?_
    refine wr_iload (pc := 48) (dget kX9_runBy 28 rfl) 0 rfl ?_
    refine wr_isub (pc := 50) (dget kX9_runBy 29 rfl) ?_
    refine wr_iconst (pc := 51) (dget kX9_runBy 30 rfl) ic_1 ?_
    refine wr_iadd (pc := 52) (dget kX9_runBy 31 rfl) ?_
    refine wr_goto (pc := 53) (tgt := 57) (dget kX9_runBy 32 rfl) (by decide) ?_
    refine wr_topi (fun x3_5 e_x3_5 => ?_)
    have h := h x3_5 e_x3_5
    refine wr_istore_n (pc := 57) (lv' := [(3, .int x3_5), (4, .int y0), (0, .ref (G.1 71)), (1, .int x1), (2, .int x2), (5, .int x5)]) (dget kX9_runBy 34 rfl) (by decide) rfl ?_
    refine wr_iload (pc := 58) (dget kX9_runBy 35 rfl) 1 rfl ?_
    refine wr_iload_n (pc := 60) (dget kX9_runBy 36 rfl) 4 rfl ?_
    refine wr_callSi (pc := 61) (Mc := mX9_greater) (rest := []) cf_X9_230 cs_X9_greater ⟨Nat.le_of_ble_eq_true rfl, Nat.le_of_ble_eq_true rfl⟩ rfl rfl (Nat.le_of_ble_eq_true rfl) (dget kX9_runBy 37 rfl) (tX9_greater h) (fun r_7 σ_6 h => ?_)
    refine wr_istore_n (pc := 64) (lv' := [(2, .int r_7), (3, .int x3_5), (4, .int y0), (0, .ref (G.1 71)), (1, .int x1), (5, .int x5)]) (dget kX9_runBy 38 rfl) (by decide) rfl ?_
    obtain ⟨x5_8, e_x5_8⟩ : ∃ y : Int32, y = x5 + (1 : Int32) := ⟨_, rfl⟩
    have h := h x5_8 e_x5_8
    refine wr_iinc (pc := 65) (v := x5_8) (lv' := [(5, .int x5_8), (2, .int r_7), (3, .int x3_5), (4, .int y0), (0, .ref (G.1 71)), (1, .int x1)]) (dget kX9_runBy 39 rfl) 5 rfl (by rw [e_x5_8, ic_1]) (by decide) rfl ?_
    refine wr_goto (pc := 68) (tgt := 10) (dget kX9_runBy 40 rfl) (by decide) ?_
    refine wr_sub [4, 5, 1, 2, 3, 0] rfl ?_
    exact hrc _ _ _ _ _ h
def vX9_runBy_10 (post : Int32 → Hp → Prop) (ex : Int32 → Int32 → Hp → Prop) (x1 : Int32) : Nat → Int32 → Int32 → Int32 → Int32 → Hp → Prop
  | 0 => fun _ _ _ _ _ => False
  | n + 1 => fun x2 x3 x4 x5 σ => (((σ.1 71 10) ≤ x5 → (ex x2 x3 σ)) ∧ (¬ (σ.1 71 10) ≤ x5 → (vp_in x5 12 ∧ (((σ.1 86 x5.toNatClampNeg) = (-1 : Int32) → vX9_runBy_38 post ex (vX9_runBy_10 post ex x1 n) x1 x2 x3 x5 (0 : Int32) σ) ∧ (¬ (σ.1 86 x5.toNatClampNeg) = (-1 : Int32) → vX9_runBy_38 post ex (vX9_runBy_10 post ex x1 n) x1 x2 x3 x5 (x4 + (1 : Int32)) σ)))))
set_option maxHeartbeats 4000000 in
set_option maxRecDepth 100000 in
theorem tX9_runBy_10 {G : GT} {post : Int32 → Hp → Prop} {ex : Int32 → Int32 → Hp → Prop} {x1 : Int32} (hex : ∀ (z2 : Int32) (z3 : Int32) (τ : Hp), ex z2 z3 τ → WP G mX9_runBy 71 [(1, .int x1), (2, .int z2), (3, .int z3)] [] τ (LI post)) : ∀ (n : Nat) (x2 : Int32) (x3 : Int32) (x4 : Int32) (x5 : Int32) (σ : Hp), vX9_runBy_10 post ex x1 n x2 x3 x4 x5 σ → WP G mX9_runBy 10 [(0, .ref (G.1 71)), (1, .int x1), (2, .int x2), (3, .int x3), (4, .int x4), (5, .int x5)] [] σ (LI post) := by
  intro n
  induction n with
  | zero => intro x2 x3 x4 x5 σ h; exact False.elim h
  | succ n ih =>
    intro x2 x3 x4 x5 σ h
    simp only [vX9_runBy_10] at h
    refine wr_iload (pc := 10) (dget kX9_runBy 8 rfl) 5 rfl ?_
    refine wr_aload_n (pc := 12) (dget kX9_runBy 9 rfl) 0 rfl ?_
    refine wr_getI (pc := 13) (σ := σ) fl_X9_132 kd_71 fk_9_10 (dget kX9_runBy 10 rfl) ?_
    refine wr_icmp_ge (pc := 16) (tgt := 71) (dget kX9_runBy 11 rfl) (by decide) (fun c_1 => ?_) (fun c_1 => ?_)
    · have h := h.1 c_1
      refine wr_sub [1, 2, 3] rfl ?_
      exact hex _ _ _ h
    · have h := h.2 c_1
      refine wr_aload_n (pc := 19) (dget kX9_runBy 12 rfl) 0 rfl ?_
      refine wr_getRl (pc := 20) fl_X9_52 kd_71 fk_9_19 rt_71_19 (dget kX9_runBy 13 rfl) ?_
      refine wr_iload (pc := 23) (dget kX9_runBy 14 rfl) 5 rfl ?_
      obtain ⟨q_2, h⟩ := h
      refine wr_ialdl (pc := 25) (σ := σ) il_86 q_2 (dget kX9_runBy 15 rfl) ?_
      refine wr_iconst (pc := 26) (dget kX9_runBy 16 rfl) ic_m1 ?_
      refine wr_icmp_eq (pc := 27) (tgt := 37) (dget kX9_runBy 17 rfl) (by decide) (fun c_3 => ?_) (fun c_3 => ?_)
      · have h := h.1 c_3
        refine wr_iconst (pc := 37) (dget kX9_runBy 22 rfl) ic_0 ?_
        refine wr_sub [0, 1, 2, 3, 5] rfl ?_
        exact tX9_runBy_38 hex ih h
      · have h := h.2 c_3
        refine wr_iload (pc := 30) (dget kX9_runBy 18 rfl) 4 rfl ?_
        refine wr_iconst (pc := 32) (dget kX9_runBy 19 rfl) ic_1 ?_
        refine wr_iadd (pc := 33) (dget kX9_runBy 20 rfl) ?_
        refine wr_goto (pc := 34) (tgt := 38) (dget kX9_runBy 21 rfl) (by decide) ?_
        refine wr_sub [0, 1, 2, 3, 5] rfl ?_
        exact tX9_runBy_38 hex ih h
def vX9_runBy (p1 : Int32) (σ : Hp) (post : Int32 → Hp → Prop) : Prop := (∃ fu : Nat, vX9_runBy_10 post (fun z2_1 z3_2 σ_3 => ((p1 = 0 → post z2_1 σ_3) ∧ (¬ p1 = 0 → post z3_2 σ_3))) p1 fu (0 : Int32) (-1 : Int32) (0 : Int32) (0 : Int32) σ)
set_option maxHeartbeats 4000000 in
set_option maxRecDepth 100000 in
theorem tX9_runBy {G : GT} {p1 : Int32} {σ : Hp} {post : Int32 → Hp → Prop} (h : vX9_runBy p1 σ post) : CT G mX9_runBy [.ref (G.1 71), .int p1] σ (LI post) := by
  refine CT.of (by decide +kernel) (Nat.le_of_ble_eq_true rfl) ?_
  show WP G mX9_runBy 0 [(0, .ref (G.1 71)), (1, .int p1)] [] σ (LI post)
  unfold vX9_runBy at h
  refine wr_iconst (pc := 0) (dget kX9_runBy 0 rfl) ic_0 ?_
  refine wr_istore_n (pc := 1) (lv' := [(2, .int (0 : Int32)), (0, .ref (G.1 71)), (1, .int p1)]) (dget kX9_runBy 1 rfl) (by decide) rfl ?_
  refine wr_iconst (pc := 2) (dget kX9_runBy 2 rfl) ic_m1 ?_
  refine wr_istore_n (pc := 3) (lv' := [(3, .int (-1 : Int32)), (2, .int (0 : Int32)), (0, .ref (G.1 71)), (1, .int p1)]) (dget kX9_runBy 3 rfl) (by decide) rfl ?_
  refine wr_iconst (pc := 4) (dget kX9_runBy 4 rfl) ic_0 ?_
  refine wr_istore (pc := 5) (lv' := [(4, .int (0 : Int32)), (3, .int (-1 : Int32)), (2, .int (0 : Int32)), (0, .ref (G.1 71)), (1, .int p1)]) (dget kX9_runBy 5 rfl) (by decide) rfl ?_
  refine wr_iconst (pc := 7) (dget kX9_runBy 6 rfl) ic_0 ?_
  refine wr_istore (pc := 8) (lv' := [(5, .int (0 : Int32)), (4, .int (0 : Int32)), (3, .int (-1 : Int32)), (2, .int (0 : Int32)), (0, .ref (G.1 71)), (1, .int p1)]) (dget kX9_runBy 7 rfl) (by decide) rfl ?_
  obtain ⟨fu, h⟩ := h
  refine wr_sub [4, 5, 3, 2, 1, 0] rfl ?_
  refine tX9_runBy_10 (fun z2_1 z3_2 σ_3 h => ?_) fu _ _ _ _ _ h
  refine wr_iload_n (pc := 71) (dget kX9_runBy 41 rfl) 0 rfl ?_
  refine wr_if_ne (pc := 72) (tgt := 79) (dget kX9_runBy 42 rfl) (by decide) (fun c_4 => ?_) (fun c_4 => ?_)
  · have h := h.2 c_4
    refine wr_iload_n (pc := 79) (dget kX9_runBy 45 rfl) 2 rfl ?_
    exact wr_iret (pc := 80) rfl (dget kX9_runBy 46 rfl) ⟨_, rfl, h⟩
  · have h := h.1 c_4
    refine wr_iload_n (pc := 75) (dget kX9_runBy 43 rfl) 1 rfl ?_
    refine wr_goto (pc := 76) (tgt := 80) (dget kX9_runBy 44 rfl) (by decide) ?_
    exact wr_iret (pc := 80) rfl (dget kX9_runBy 46 rfl) ⟨_, rfl, h⟩
def vX9_run (p1 : Int32) (σ : Hp) (post : Int32 → Hp → Prop) : Prop := (vX9_find  σ (fun σ_1 => (vX9_isTwo p1 σ_1 (fun r_4 σ_3 => ((r_4 = 0 → post (-2 : Int32) σ_3) ∧ (¬ r_4 = 0 → (vX9_runBy p1 σ_3 (fun r_7 σ_6 => post r_7 σ_6))))))))
set_option maxHeartbeats 4000000 in
set_option maxRecDepth 100000 in
theorem tX9_run {G : GT} {p1 : Int32} {σ : Hp} {post : Int32 → Hp → Prop} (h : vX9_run p1 σ post) : CT G mX9_run [.ref (G.1 71), .int p1] σ (LI post) := by
  refine CT.of (by decide +kernel) (Nat.le_of_ble_eq_true rfl) ?_
  show WP G mX9_run 0 [(0, .ref (G.1 71)), (1, .int p1)] [] σ (LI post)
  unfold vX9_run at h
  refine wr_aload_n (pc := 0) (dget kX9_run 0 rfl) 0 rfl ?_
  refine wr_callVv (pc := 1) (Mc := mX9_find) (o := 71) (rest := []) cf_X9_206 cv_X9_find kd_71 rfl ⟨Nat.le_of_ble_eq_true rfl, Nat.le_of_ble_eq_true rfl⟩ rfl rfl (Nat.le_of_ble_eq_true rfl) (dget kX9_run 1 rfl) (tX9_find h) (fun σ_1 h => ?_)
  refine wr_iload_n (pc := 4) (dget kX9_run 2 rfl) 1 rfl ?_
  refine wr_callSi (pc := 5) (Mc := mX9_isTwo) (rest := []) cf_X9_162 cs_X9_isTwo ⟨Nat.le_of_ble_eq_true rfl, Nat.le_of_ble_eq_true rfl⟩ rfl rfl (Nat.le_of_ble_eq_true rfl) (dget kX9_run 3 rfl) (tX9_isTwo h) (fun r_4 σ_3 h => ?_)
  refine wr_if_eq (pc := 8) (tgt := 19) (dget kX9_run 4 rfl) (by decide) (fun c_5 => ?_) (fun c_5 => ?_)
  · have h := h.1 c_5
    refine wr_bipush (pc := 19) (dget kX9_run 9 rfl) bp_m2 ?_
    exact wr_iret (pc := 21) rfl (dget kX9_run 10 rfl) ⟨_, rfl, h⟩
  · have h := h.2 c_5
    refine wr_aload_n (pc := 11) (dget kX9_run 5 rfl) 0 rfl ?_
    refine wr_iload_n (pc := 12) (dget kX9_run 6 rfl) 1 rfl ?_
    refine wr_callVi (pc := 13) (Mc := mX9_runBy) (o := 71) (rest := []) cf_X9_233 cv_X9_runBy kd_71 rfl ⟨Nat.le_of_ble_eq_true rfl, Nat.le_of_ble_eq_true rfl⟩ rfl rfl (Nat.le_of_ble_eq_true rfl) (dget kX9_run 7 rfl) (tX9_runBy h) (fun r_7 σ_6 h => ?_)
    refine wr_goto (pc := 16) (tgt := 21) (dget kX9_run 8 rfl) (by decide) ?_
    exact wr_iret (pc := 21) rfl (dget kX9_run 10 rfl) ⟨_, rfl, h⟩
def vX9_easyNow_6 (post : Int32 → Hp → Prop) (ex : Int32 → Hp → Prop) : Nat → Int32 → Int32 → Int32 → Hp → Prop
  | 0 => fun _ _ _ _ => False
  | n + 1 => fun x1 x2 x3 σ => (((σ.1 71 8) ≤ x3 → (ex x1 σ)) ∧ (¬ (σ.1 71 8) ≤ x3 → (vp_in x3 12 ∧ (((σ.1 85 x3.toNatClampNeg) ≤ x2 → (vp_in x3 12 ∧ (vX9_greater (σ.1 85 x3.toNatClampNeg) x2 σ (fun r_6 σ_5 => (∀ x3_7 : Int32, x3_7 = x3 + (1 : Int32) → vX9_easyNow_6 post ex  n x1 r_6 x3_7 σ_5))))) ∧ (¬ (σ.1 85 x3.toNatClampNeg) ≤ x2 → (vp_in x3 12 ∧ (vX9_greater (σ.1 85 x3.toNatClampNeg) x2 σ (fun r_10 σ_9 => (∀ x3_11 : Int32, x3_11 = x3 + (1 : Int32) → vX9_easyNow_6 post ex  n x3 r_10 x3_11 σ_9)))))))))
set_option maxHeartbeats 4000000 in
set_option maxRecDepth 100000 in
theorem tX9_easyNow_6 {G : GT} {post : Int32 → Hp → Prop} {ex : Int32 → Hp → Prop} (hex : ∀ (z1 : Int32) (τ : Hp), ex z1 τ → WP G mX9_easyNow 47 [(1, .int z1)] [] τ (LI post)) : ∀ (n : Nat) (x1 : Int32) (x2 : Int32) (x3 : Int32) (σ : Hp), vX9_easyNow_6 post ex  n x1 x2 x3 σ → WP G mX9_easyNow 6 [(0, .ref (G.1 71)), (1, .int x1), (2, .int x2), (3, .int x3)] [] σ (LI post) := by
  intro n
  induction n with
  | zero => intro x1 x2 x3 σ h; exact False.elim h
  | succ n ih =>
    intro x1 x2 x3 σ h
    simp only [vX9_easyNow_6] at h
    refine wr_iload_n (pc := 6) (dget kX9_easyNow 6 rfl) 3 rfl ?_
    refine wr_aload_n (pc := 7) (dget kX9_easyNow 7 rfl) 0 rfl ?_
    refine wr_getI (pc := 8) (σ := σ) fl_X9_123 kd_71 fk_9_8 (dget kX9_easyNow 8 rfl) ?_
    refine wr_icmp_ge (pc := 11) (tgt := 47) (dget kX9_easyNow 9 rfl) (by decide) (fun c_1 => ?_) (fun c_1 => ?_)
    · have h := h.1 c_1
      refine wr_sub [1] rfl ?_
      exact hex _ _ h
    · have h := h.2 c_1
      refine wr_aload_n (pc := 14) (dget kX9_easyNow 10 rfl) 0 rfl ?_
      refine wr_getRl (pc := 15) fl_X9_49 kd_71 fk_9_18 rt_71_18 (dget kX9_easyNow 11 rfl) ?_
      refine wr_iload_n (pc := 18) (dget kX9_easyNow 12 rfl) 3 rfl ?_
      obtain ⟨q_2, h⟩ := h
      refine wr_ialdl (pc := 19) (σ := σ) il_85 q_2 (dget kX9_easyNow 13 rfl) ?_
      refine wr_iload_n (pc := 20) (dget kX9_easyNow 14 rfl) 2 rfl ?_
      refine wr_icmp_le (pc := 21) (tgt := 28) (dget kX9_easyNow 15 rfl) (by decide) (fun c_3 => ?_) (fun c_3 => ?_)
      · have h := h.1 c_3
        refine wr_iload_n (pc := 28) (dget kX9_easyNow 18 rfl) 1 rfl ?_
        refine wr_istore_n (pc := 29) (lv' := [(1, .int x1), (0, .ref (G.1 71)), (2, .int x2), (3, .int x3)]) (dget kX9_easyNow 19 rfl) (by decide) rfl ?_
        refine wr_aload_n (pc := 30) (dget kX9_easyNow 20 rfl) 1 rfl ?_
        refine wr_getRl (pc := 31) fl_X9_49 kd_71 fk_9_18 rt_71_18 (dget kX9_easyNow 21 rfl) ?_
        refine wr_iload_n (pc := 34) (dget kX9_easyNow 22 rfl) 3 rfl ?_
        obtain ⟨q_4, h⟩ := h
        refine wr_ialdl (pc := 35) (σ := σ) il_85 q_4 (dget kX9_easyNow 23 rfl) ?_
        refine wr_iload_n (pc := 36) (dget kX9_easyNow 24 rfl) 2 rfl ?_
        refine wr_callSi (pc := 37) (Mc := mX9_greater) (rest := []) cf_X9_230 cs_X9_greater ⟨Nat.le_of_ble_eq_true rfl, Nat.le_of_ble_eq_true rfl⟩ rfl rfl (Nat.le_of_ble_eq_true rfl) (dget kX9_easyNow 25 rfl) (tX9_greater h) (fun r_6 σ_5 h => ?_)
        refine wr_istore_n (pc := 40) (lv' := [(2, .int r_6), (1, .int x1), (0, .ref (G.1 71)), (3, .int x3)]) (dget kX9_easyNow 26 rfl) (by decide) rfl ?_
        obtain ⟨x3_7, e_x3_7⟩ : ∃ y : Int32, y = x3 + (1 : Int32) := ⟨_, rfl⟩
        have h := h x3_7 e_x3_7
        refine wr_iinc (pc := 41) (v := x3_7) (lv' := [(3, .int x3_7), (2, .int r_6), (1, .int x1), (0, .ref (G.1 71))]) (dget kX9_easyNow 27 rfl) 3 rfl (by rw [e_x3_7, ic_1]) (by decide) rfl ?_
        refine wr_goto (pc := 44) (tgt := 6) (dget kX9_easyNow 28 rfl) (by decide) ?_
        refine wr_sub [3, 2, 1, 0] rfl ?_
        exact ih _ _ _ _ h
      · have h := h.2 c_3
        refine wr_iload_n (pc := 24) (dget kX9_easyNow 16 rfl) 3 rfl ?_
        refine wr_goto (pc := 25) (tgt := 29) (dget kX9_easyNow 17 rfl) (by decide) ?_
        refine wr_istore_n (pc := 29) (lv' := [(1, .int x3), (0, .ref (G.1 71)), (2, .int x2), (3, .int x3)]) (dget kX9_easyNow 19 rfl) (by decide) rfl ?_
        refine wr_aload_n (pc := 30) (dget kX9_easyNow 20 rfl) 1 rfl ?_
        refine wr_getRl (pc := 31) fl_X9_49 kd_71 fk_9_18 rt_71_18 (dget kX9_easyNow 21 rfl) ?_
        refine wr_iload_n (pc := 34) (dget kX9_easyNow 22 rfl) 3 rfl ?_
        obtain ⟨q_8, h⟩ := h
        refine wr_ialdl (pc := 35) (σ := σ) il_85 q_8 (dget kX9_easyNow 23 rfl) ?_
        refine wr_iload_n (pc := 36) (dget kX9_easyNow 24 rfl) 2 rfl ?_
        refine wr_callSi (pc := 37) (Mc := mX9_greater) (rest := []) cf_X9_230 cs_X9_greater ⟨Nat.le_of_ble_eq_true rfl, Nat.le_of_ble_eq_true rfl⟩ rfl rfl (Nat.le_of_ble_eq_true rfl) (dget kX9_easyNow 25 rfl) (tX9_greater h) (fun r_10 σ_9 h => ?_)
        refine wr_istore_n (pc := 40) (lv' := [(2, .int r_10), (1, .int x3), (0, .ref (G.1 71)), (3, .int x3)]) (dget kX9_easyNow 26 rfl) (by decide) rfl ?_
        obtain ⟨x3_11, e_x3_11⟩ : ∃ y : Int32, y = x3 + (1 : Int32) := ⟨_, rfl⟩
        have h := h x3_11 e_x3_11
        refine wr_iinc (pc := 41) (v := x3_11) (lv' := [(3, .int x3_11), (2, .int r_10), (1, .int x3), (0, .ref (G.1 71))]) (dget kX9_easyNow 27 rfl) 3 rfl (by rw [e_x3_11, ic_1]) (by decide) rfl ?_
        refine wr_goto (pc := 44) (tgt := 6) (dget kX9_easyNow 28 rfl) (by decide) ?_
        refine wr_sub [3, 2, 1, 0] rfl ?_
        exact ih _ _ _ _ h
def vX9_easyNow (σ : Hp) (post : Int32 → Hp → Prop) : Prop := (∃ fu : Nat, vX9_easyNow_6 post (fun z1_1 σ_2 => post z1_1 σ_2)  fu (-1 : Int32) (0 : Int32) (0 : Int32) σ)
set_option maxHeartbeats 4000000 in
set_option maxRecDepth 100000 in
theorem tX9_easyNow {G : GT} {σ : Hp} {post : Int32 → Hp → Prop} (h : vX9_easyNow  σ post) : CT G mX9_easyNow [.ref (G.1 71)] σ (LI post) := by
  refine CT.of (by decide +kernel) (Nat.le_of_ble_eq_true rfl) ?_
  show WP G mX9_easyNow 0 [(0, .ref (G.1 71))] [] σ (LI post)
  unfold vX9_easyNow at h
  refine wr_iconst (pc := 0) (dget kX9_easyNow 0 rfl) ic_m1 ?_
  refine wr_istore_n (pc := 1) (lv' := [(1, .int (-1 : Int32)), (0, .ref (G.1 71))]) (dget kX9_easyNow 1 rfl) (by decide) rfl ?_
  refine wr_iconst (pc := 2) (dget kX9_easyNow 2 rfl) ic_0 ?_
  refine wr_istore_n (pc := 3) (lv' := [(2, .int (0 : Int32)), (1, .int (-1 : Int32)), (0, .ref (G.1 71))]) (dget kX9_easyNow 3 rfl) (by decide) rfl ?_
  refine wr_iconst (pc := 4) (dget kX9_easyNow 4 rfl) ic_0 ?_
  refine wr_istore_n (pc := 5) (lv' := [(3, .int (0 : Int32)), (2, .int (0 : Int32)), (1, .int (-1 : Int32)), (0, .ref (G.1 71))]) (dget kX9_easyNow 5 rfl) (by decide) rfl ?_
  obtain ⟨fu, h⟩ := h
  refine wr_sub [3, 2, 1, 0] rfl ?_
  refine tX9_easyNow_6 (fun z1_1 σ_2 h => ?_) fu _ _ _ _ h
  refine wr_iload_n (pc := 47) (dget kX9_easyNow 29 rfl) 0 rfl ?_
  exact wr_iret (pc := 48) rfl (dget kX9_easyNow 30 rfl) ⟨_, rfl, h⟩
def vX9_easy (σ : Hp) (post : Int32 → Hp → Prop) : Prop := (vX9_find  σ (fun σ_1 => (vX9_easyNow  σ_1 (fun r_4 σ_3 => post r_4 σ_3))))
set_option maxHeartbeats 4000000 in
set_option maxRecDepth 100000 in
theorem tX9_easy {G : GT} {σ : Hp} {post : Int32 → Hp → Prop} (h : vX9_easy  σ post) : CT G mX9_easy [.ref (G.1 71)] σ (LI post) := by
  refine CT.of (by decide +kernel) (Nat.le_of_ble_eq_true rfl) ?_
  show WP G mX9_easy 0 [(0, .ref (G.1 71))] [] σ (LI post)
  unfold vX9_easy at h
  refine wr_aload_n (pc := 0) (dget kX9_easy 0 rfl) 0 rfl ?_
  refine wr_callVv (pc := 1) (Mc := mX9_find) (o := 71) (rest := []) cf_X9_206 cv_X9_find kd_71 rfl ⟨Nat.le_of_ble_eq_true rfl, Nat.le_of_ble_eq_true rfl⟩ rfl rfl (Nat.le_of_ble_eq_true rfl) (dget kX9_easy 1 rfl) (tX9_find h) (fun σ_1 h => ?_)
  refine wr_aload_n (pc := 4) (dget kX9_easy 2 rfl) 0 rfl ?_
  refine wr_callVi (pc := 5) (Mc := mX9_easyNow) (o := 71) (rest := []) cf_X9_236 cv_X9_easyNow kd_71 rfl ⟨Nat.le_of_ble_eq_true rfl, Nat.le_of_ble_eq_true rfl⟩ rfl rfl (Nat.le_of_ble_eq_true rfl) (dget kX9_easy 3 rfl) (tX9_easyNow h) (fun r_4 σ_3 h => ?_)
  exact wr_iret (pc := 8) rfl (dget kX9_easy 4 rfl) ⟨_, rfl, h⟩
def vX9_safeNow_4 (post : Int32 → Hp → Prop) (ex : Int32 → Hp → Prop) : Nat → Int32 → Int32 → Hp → Prop
  | 0 => fun _ _ _ => False
  | n + 1 => fun x1 x2 σ => (((σ.1 71 8) ≤ x2 → (ex x1 σ)) ∧ (¬ (σ.1 71 8) ≤ x2 → (vp_in x2 12 ∧ (((σ.1 85 x2.toNatClampNeg) = 0 → (∀ x1_6 : Int32, x1_6 = (x1 ||| ((1 : Int32) <<< (x2 &&& 31))) → (∀ x2_7 : Int32, x2_7 = x2 + (1 : Int32) → vX9_safeNow_4 post ex  n x1_6 x2_7 σ))) ∧ (¬ (σ.1 85 x2.toNatClampNeg) = 0 → (∀ x1_4 : Int32, x1_4 = (x1 ||| (0 : Int32)) → (∀ x2_5 : Int32, x2_5 = x2 + (1 : Int32) → vX9_safeNow_4 post ex  n x1_4 x2_5 σ)))))))
set_option maxHeartbeats 4000000 in
set_option maxRecDepth 100000 in
theorem tX9_safeNow_4 {G : GT} {post : Int32 → Hp → Prop} {ex : Int32 → Hp → Prop} (hex : ∀ (z1 : Int32) (τ : Hp), ex z1 τ → WP G mX9_safeNow 37 [(1, .int z1)] [] τ (LI post)) : ∀ (n : Nat) (x1 : Int32) (x2 : Int32) (σ : Hp), vX9_safeNow_4 post ex  n x1 x2 σ → WP G mX9_safeNow 4 [(0, .ref (G.1 71)), (1, .int x1), (2, .int x2)] [] σ (LI post) := by
  intro n
  induction n with
  | zero => intro x1 x2 σ h; exact False.elim h
  | succ n ih =>
    intro x1 x2 σ h
    simp only [vX9_safeNow_4] at h
    refine wr_iload_n (pc := 4) (dget kX9_safeNow 4 rfl) 2 rfl ?_
    refine wr_aload_n (pc := 5) (dget kX9_safeNow 5 rfl) 0 rfl ?_
    refine wr_getI (pc := 6) (σ := σ) fl_X9_123 kd_71 fk_9_8 (dget kX9_safeNow 6 rfl) ?_
    refine wr_icmp_ge (pc := 9) (tgt := 37) (dget kX9_safeNow 7 rfl) (by decide) (fun c_1 => ?_) (fun c_1 => ?_)
    · have h := h.1 c_1
      refine wr_sub [1] rfl ?_
      exact hex _ _ h
    · have h := h.2 c_1
      refine wr_iload_n (pc := 12) (dget kX9_safeNow 8 rfl) 1 rfl ?_
      refine wr_aload_n (pc := 13) (dget kX9_safeNow 9 rfl) 0 rfl ?_
      refine wr_getRl (pc := 14) fl_X9_49 kd_71 fk_9_18 rt_71_18 (dget kX9_safeNow 10 rfl) ?_
      refine wr_iload_n (pc := 17) (dget kX9_safeNow 11 rfl) 2 rfl ?_
      obtain ⟨q_2, h⟩ := h
      refine wr_ialdl (pc := 18) (σ := σ) il_85 q_2 (dget kX9_safeNow 12 rfl) ?_
      refine wr_if_ne (pc := 19) (tgt := 28) (dget kX9_safeNow 13 rfl) (by decide) (fun c_3 => ?_) (fun c_3 => ?_)
      · have h := h.2 c_3
        refine wr_iconst (pc := 28) (dget kX9_safeNow 18 rfl) ic_0 ?_
        refine wr_ior (pc := 29) (dget kX9_safeNow 19 rfl) ?_
        refine wr_topi (fun x1_4 e_x1_4 => ?_)
        have h := h x1_4 e_x1_4
        refine wr_istore_n (pc := 30) (lv' := [(1, .int x1_4), (0, .ref (G.1 71)), (2, .int x2)]) (dget kX9_safeNow 20 rfl) (by decide) rfl ?_
        obtain ⟨x2_5, e_x2_5⟩ : ∃ y : Int32, y = x2 + (1 : Int32) := ⟨_, rfl⟩
        have h := h x2_5 e_x2_5
        refine wr_iinc (pc := 31) (v := x2_5) (lv' := [(2, .int x2_5), (1, .int x1_4), (0, .ref (G.1 71))]) (dget kX9_safeNow 21 rfl) 2 rfl (by rw [e_x2_5, ic_1]) (by decide) rfl ?_
        refine wr_goto (pc := 34) (tgt := 4) (dget kX9_safeNow 22 rfl) (by decide) ?_
        refine wr_sub [2, 1, 0] rfl ?_
        exact ih _ _ _ h
      · have h := h.1 c_3
        refine wr_iconst (pc := 22) (dget kX9_safeNow 14 rfl) ic_1 ?_
        refine wr_iload_n (pc := 23) (dget kX9_safeNow 15 rfl) 2 rfl ?_
        refine wr_ishl (pc := 24) (dget kX9_safeNow 16 rfl) ?_
        refine wr_goto (pc := 25) (tgt := 29) (dget kX9_safeNow 17 rfl) (by decide) ?_
        refine wr_ior (pc := 29) (dget kX9_safeNow 19 rfl) ?_
        refine wr_topi (fun x1_6 e_x1_6 => ?_)
        have h := h x1_6 e_x1_6
        refine wr_istore_n (pc := 30) (lv' := [(1, .int x1_6), (0, .ref (G.1 71)), (2, .int x2)]) (dget kX9_safeNow 20 rfl) (by decide) rfl ?_
        obtain ⟨x2_7, e_x2_7⟩ : ∃ y : Int32, y = x2 + (1 : Int32) := ⟨_, rfl⟩
        have h := h x2_7 e_x2_7
        refine wr_iinc (pc := 31) (v := x2_7) (lv' := [(2, .int x2_7), (1, .int x1_6), (0, .ref (G.1 71))]) (dget kX9_safeNow 21 rfl) 2 rfl (by rw [e_x2_7, ic_1]) (by decide) rfl ?_
        refine wr_goto (pc := 34) (tgt := 4) (dget kX9_safeNow 22 rfl) (by decide) ?_
        refine wr_sub [2, 1, 0] rfl ?_
        exact ih _ _ _ h
def vX9_safeNow (σ : Hp) (post : Int32 → Hp → Prop) : Prop := (∃ fu : Nat, vX9_safeNow_4 post (fun z1_1 σ_2 => post z1_1 σ_2)  fu (0 : Int32) (0 : Int32) σ)
set_option maxHeartbeats 4000000 in
set_option maxRecDepth 100000 in
theorem tX9_safeNow {G : GT} {σ : Hp} {post : Int32 → Hp → Prop} (h : vX9_safeNow  σ post) : CT G mX9_safeNow [.ref (G.1 71)] σ (LI post) := by
  refine CT.of (by decide +kernel) (Nat.le_of_ble_eq_true rfl) ?_
  show WP G mX9_safeNow 0 [(0, .ref (G.1 71))] [] σ (LI post)
  unfold vX9_safeNow at h
  refine wr_iconst (pc := 0) (dget kX9_safeNow 0 rfl) ic_0 ?_
  refine wr_istore_n (pc := 1) (lv' := [(1, .int (0 : Int32)), (0, .ref (G.1 71))]) (dget kX9_safeNow 1 rfl) (by decide) rfl ?_
  refine wr_iconst (pc := 2) (dget kX9_safeNow 2 rfl) ic_0 ?_
  refine wr_istore_n (pc := 3) (lv' := [(2, .int (0 : Int32)), (1, .int (0 : Int32)), (0, .ref (G.1 71))]) (dget kX9_safeNow 3 rfl) (by decide) rfl ?_
  obtain ⟨fu, h⟩ := h
  refine wr_sub [2, 1, 0] rfl ?_
  refine tX9_safeNow_4 (fun z1_1 σ_2 h => ?_) fu _ _ _ h
  refine wr_iload_n (pc := 37) (dget kX9_safeNow 23 rfl) 0 rfl ?_
  exact wr_iret (pc := 38) rfl (dget kX9_safeNow 24 rfl) ⟨_, rfl, h⟩
def vX9_safe (σ : Hp) (post : Int32 → Hp → Prop) : Prop := (vX9_find  σ (fun σ_1 => (vX9_safeNow  σ_1 (fun r_4 σ_3 => post r_4 σ_3))))
set_option maxHeartbeats 4000000 in
set_option maxRecDepth 100000 in
theorem tX9_safe {G : GT} {σ : Hp} {post : Int32 → Hp → Prop} (h : vX9_safe  σ post) : CT G mX9_safe [.ref (G.1 71)] σ (LI post) := by
  refine CT.of (by decide +kernel) (Nat.le_of_ble_eq_true rfl) ?_
  show WP G mX9_safe 0 [(0, .ref (G.1 71))] [] σ (LI post)
  unfold vX9_safe at h
  refine wr_aload_n (pc := 0) (dget kX9_safe 0 rfl) 0 rfl ?_
  refine wr_callVv (pc := 1) (Mc := mX9_find) (o := 71) (rest := []) cf_X9_206 cv_X9_find kd_71 rfl ⟨Nat.le_of_ble_eq_true rfl, Nat.le_of_ble_eq_true rfl⟩ rfl rfl (Nat.le_of_ble_eq_true rfl) (dget kX9_safe 1 rfl) (tX9_find h) (fun σ_1 h => ?_)
  refine wr_aload_n (pc := 4) (dget kX9_safe 2 rfl) 0 rfl ?_
  refine wr_callVi (pc := 5) (Mc := mX9_safeNow) (o := 71) (rest := []) cf_X9_239 cv_X9_safeNow kd_71 rfl ⟨Nat.le_of_ble_eq_true rfl, Nat.le_of_ble_eq_true rfl⟩ rfl rfl (Nat.le_of_ble_eq_true rfl) (dget kX9_safe 3 rfl) (tX9_safeNow h) (fun r_4 σ_3 h => ?_)
  exact wr_iret (pc := 8) rfl (dget kX9_safe 4 rfl) ⟨_, rfl, h⟩
def vX9_shotBetter_17 (post : Int32 → Hp → Prop) (ex : Int32 → Int32 → Hp → Prop) (x1 : Int32) (x2 : Int32) (x3 : Int32) (x4 : Int32) : Nat → Int32 → Int32 → Int32 → Hp → Prop
  | 0 => fun _ _ _ _ => False
  | n + 1 => fun x5 x6 x7 σ => ((x2 ≤ x7 → (ex x5 x6 σ)) ∧ (¬ x2 ≤ x7 → (vp_in x1 36 ∧ ∀ σ_3 : Hp, σ_3 = wI σ 80 x1.toNatClampNeg x7 → (vX9_lives  σ_3 (fun σ_4 => (vX9_score  σ_4 (fun r_7 σ_6 => ((r_7 ≤ x6 → (vX9_greater r_7 x6 σ_6 (fun r_10 σ_9 => (∀ x7_11 : Int32, x7_11 = x7 + (1 : Int32) → vX9_shotBetter_17 post ex x1 x2 x3 x4 n x5 r_10 x7_11 σ_9)))) ∧ (¬ r_7 ≤ x6 → (vX9_greater r_7 x6 σ_6 (fun r_13 σ_12 => (∀ x7_14 : Int32, x7_14 = x7 + (1 : Int32) → vX9_shotBetter_17 post ex x1 x2 x3 x4 n x7 r_13 x7_14 σ_12))))))))))))
set_option maxHeartbeats 4000000 in
set_option maxRecDepth 100000 in
theorem tX9_shotBetter_17 {G : GT} {post : Int32 → Hp → Prop} {ex : Int32 → Int32 → Hp → Prop} {x1 : Int32} {x2 : Int32} {x3 : Int32} {x4 : Int32} (hex : ∀ (z5 : Int32) (z6 : Int32) (τ : Hp), ex z5 z6 τ → WP G mX9_shotBetter 72 [(0, .ref (G.1 71)), (1, .int x1), (3, .int x3), (4, .int x4), (5, .int z5), (6, .int z6)] [] τ (LI post)) : ∀ (n : Nat) (x5 : Int32) (x6 : Int32) (x7 : Int32) (σ : Hp), vX9_shotBetter_17 post ex x1 x2 x3 x4 n x5 x6 x7 σ → WP G mX9_shotBetter 17 [(0, .ref (G.1 71)), (1, .int x1), (2, .int x2), (3, .int x3), (4, .int x4), (5, .int x5), (6, .int x6), (7, .int x7)] [] σ (LI post) := by
  intro n
  induction n with
  | zero => intro x5 x6 x7 σ h; exact False.elim h
  | succ n ih =>
    intro x5 x6 x7 σ h
    simp only [vX9_shotBetter_17] at h
    refine wr_iload (pc := 17) (dget kX9_shotBetter 11 rfl) 7 rfl ?_
    refine wr_iload_n (pc := 19) (dget kX9_shotBetter 12 rfl) 2 rfl ?_
    refine wr_icmp_ge (pc := 20) (tgt := 72) (dget kX9_shotBetter 13 rfl) (by decide) (fun c_1 => ?_) (fun c_1 => ?_)
    · have h := h.1 c_1
      refine wr_sub [0, 1, 3, 4, 5, 6] rfl ?_
      exact hex _ _ _ h
    · have h := h.2 c_1
      refine wr_aload_n (pc := 23) (dget kX9_shotBetter 14 rfl) 0 rfl ?_
      refine wr_getRl (pc := 24) fl_X9_34 kd_71 fk_9_11 rt_71_11 (dget kX9_shotBetter 15 rfl) ?_
      refine wr_iload_n (pc := 27) (dget kX9_shotBetter 16 rfl) 1 rfl ?_
      refine wr_iload (pc := 28) (dget kX9_shotBetter 17 rfl) 7 rfl ?_
      obtain ⟨q_2, h⟩ := h
      refine wr_iastl (pc := 30) il_80 q_2 (dget kX9_shotBetter 18 rfl) ?_
      refine wr_tops (fun σ_3 e_σ_3 => ?_)
      have h := h σ_3 e_σ_3
      refine wr_aload_n (pc := 31) (dget kX9_shotBetter 19 rfl) 0 rfl ?_
      refine wr_callVv (pc := 32) (Mc := mX9_lives) (o := 71) (rest := []) cf_X9_203 cv_X9_lives kd_71 rfl ⟨Nat.le_of_ble_eq_true rfl, Nat.le_of_ble_eq_true rfl⟩ rfl rfl (Nat.le_of_ble_eq_true rfl) (dget kX9_shotBetter 20 rfl) (tX9_lives h) (fun σ_4 h => ?_)
      refine wr_aload_n (pc := 35) (dget kX9_shotBetter 21 rfl) 0 rfl ?_
      refine wr_callVi (pc := 36) (Mc := mX9_score) (o := 71) (rest := []) cf_X9_221 cv_X9_score kd_71 rfl ⟨Nat.le_of_ble_eq_true rfl, Nat.le_of_ble_eq_true rfl⟩ rfl rfl (Nat.le_of_ble_eq_true rfl) (dget kX9_shotBetter 22 rfl) (tX9_score h) (fun r_7 σ_6 h => ?_)
      refine wr_istore (pc := 39) (lv' := [(8, .int r_7), (0, .ref (G.1 71)), (1, .int x1), (2, .int x2), (3, .int x3), (4, .int x4), (5, .int x5), (6, .int x6), (7, .int x7)]) (dget kX9_shotBetter 23 rfl) (by decide) rfl ?_
      refine wr_iload (pc := 41) (dget kX9_shotBetter 24 rfl) 0 rfl ?_
      refine wr_iload (pc := 43) (dget kX9_shotBetter 25 rfl) 7 rfl ?_
      refine wr_icmp_le (pc := 45) (tgt := 53) (dget kX9_shotBetter 26 rfl) (by decide) (fun c_8 => ?_) (fun c_8 => ?_)
      · have h := h.1 c_8
        refine wr_iload (pc := 53) (dget kX9_shotBetter 29 rfl) 6 rfl ?_
        refine wr_istore (pc := 55) (lv' := [(5, .int x5), (8, .int r_7), (0, .ref (G.1 71)), (1, .int x1), (2, .int x2), (3, .int x3), (4, .int x4), (6, .int x6), (7, .int x7)]) (dget kX9_shotBetter 30 rfl) (by decide) rfl ?_
        refine wr_iload (pc := 57) (dget kX9_shotBetter 31 rfl) 1 rfl ?_
        refine wr_iload (pc := 59) (dget kX9_shotBetter 32 rfl) 7 rfl ?_
        refine wr_callSi (pc := 61) (Mc := mX9_greater) (rest := []) cf_X9_230 cs_X9_greater ⟨Nat.le_of_ble_eq_true rfl, Nat.le_of_ble_eq_true rfl⟩ rfl rfl (Nat.le_of_ble_eq_true rfl) (dget kX9_shotBetter 33 rfl) (tX9_greater h) (fun r_10 σ_9 h => ?_)
        refine wr_istore (pc := 64) (lv' := [(6, .int r_10), (5, .int x5), (8, .int r_7), (0, .ref (G.1 71)), (1, .int x1), (2, .int x2), (3, .int x3), (4, .int x4), (7, .int x7)]) (dget kX9_shotBetter 34 rfl) (by decide) rfl ?_
        obtain ⟨x7_11, e_x7_11⟩ : ∃ y : Int32, y = x7 + (1 : Int32) := ⟨_, rfl⟩
        have h := h x7_11 e_x7_11
        refine wr_iinc (pc := 66) (v := x7_11) (lv' := [(7, .int x7_11), (6, .int r_10), (5, .int x5), (8, .int r_7), (0, .ref (G.1 71)), (1, .int x1), (2, .int x2), (3, .int x3), (4, .int x4)]) (dget kX9_shotBetter 35 rfl) 8 rfl (by rw [e_x7_11, ic_1]) (by decide) rfl ?_
        refine wr_goto (pc := 69) (tgt := 17) (dget kX9_shotBetter 36 rfl) (by decide) ?_
        refine wr_sub [4, 5, 6, 7, 8, 2, 1, 0] rfl ?_
        exact ih _ _ _ _ h
      · have h := h.2 c_8
        refine wr_iload (pc := 48) (dget kX9_shotBetter 27 rfl) 8 rfl ?_
        refine wr_goto (pc := 50) (tgt := 55) (dget kX9_shotBetter 28 rfl) (by decide) ?_
        refine wr_istore (pc := 55) (lv' := [(5, .int x7), (8, .int r_7), (0, .ref (G.1 71)), (1, .int x1), (2, .int x2), (3, .int x3), (4, .int x4), (6, .int x6), (7, .int x7)]) (dget kX9_shotBetter 30 rfl) (by decide) rfl ?_
        refine wr_iload (pc := 57) (dget kX9_shotBetter 31 rfl) 1 rfl ?_
        refine wr_iload (pc := 59) (dget kX9_shotBetter 32 rfl) 7 rfl ?_
        refine wr_callSi (pc := 61) (Mc := mX9_greater) (rest := []) cf_X9_230 cs_X9_greater ⟨Nat.le_of_ble_eq_true rfl, Nat.le_of_ble_eq_true rfl⟩ rfl rfl (Nat.le_of_ble_eq_true rfl) (dget kX9_shotBetter 33 rfl) (tX9_greater h) (fun r_13 σ_12 h => ?_)
        refine wr_istore (pc := 64) (lv' := [(6, .int r_13), (5, .int x7), (8, .int r_7), (0, .ref (G.1 71)), (1, .int x1), (2, .int x2), (3, .int x3), (4, .int x4), (7, .int x7)]) (dget kX9_shotBetter 34 rfl) (by decide) rfl ?_
        obtain ⟨x7_14, e_x7_14⟩ : ∃ y : Int32, y = x7 + (1 : Int32) := ⟨_, rfl⟩
        have h := h x7_14 e_x7_14
        refine wr_iinc (pc := 66) (v := x7_14) (lv' := [(7, .int x7_14), (6, .int r_13), (5, .int x7), (8, .int r_7), (0, .ref (G.1 71)), (1, .int x1), (2, .int x2), (3, .int x3), (4, .int x4)]) (dget kX9_shotBetter 35 rfl) 8 rfl (by rw [e_x7_14, ic_1]) (by decide) rfl ?_
        refine wr_goto (pc := 69) (tgt := 17) (dget kX9_shotBetter 36 rfl) (by decide) ?_
        refine wr_sub [4, 5, 6, 7, 8, 2, 1, 0] rfl ?_
        exact ih _ _ _ _ h
def vX9_shotBetter (p1 : Int32) (p2 : Int32) (p3 : Int32) (σ : Hp) (post : Int32 → Hp → Prop) : Prop := (vp_in p1 36 ∧ (∀ x4_2 : Int32, x4_2 = (σ.1 80 p1.toNatClampNeg) → (∃ fu : Nat, vX9_shotBetter_17 post (fun z5_3 z6_4 σ_5 => (vp_in p1 36 ∧ ∀ σ_7 : Hp, σ_7 = wI σ_5 80 p1.toNatClampNeg x4_2 → ((p3 = 0 → post z5_3 σ_7) ∧ (¬ p3 = 0 → post z6_4 σ_7)))) p1 p2 p3 x4_2 fu (-1 : Int32) (-1 : Int32) (0 : Int32) σ)))
set_option maxHeartbeats 4000000 in
set_option maxRecDepth 100000 in
theorem tX9_shotBetter {G : GT} {p1 : Int32} {p2 : Int32} {p3 : Int32} {σ : Hp} {post : Int32 → Hp → Prop} (h : vX9_shotBetter p1 p2 p3 σ post) : CT G mX9_shotBetter [.ref (G.1 71), .int p1, .int p2, .int p3] σ (LI post) := by
  refine CT.of (by decide +kernel) (Nat.le_of_ble_eq_true rfl) ?_
  show WP G mX9_shotBetter 0 [(0, .ref (G.1 71)), (1, .int p1), (2, .int p2), (3, .int p3)] [] σ (LI post)
  unfold vX9_shotBetter at h
  refine wr_aload_n (pc := 0) (dget kX9_shotBetter 0 rfl) 0 rfl ?_
  refine wr_getRl (pc := 1) fl_X9_34 kd_71 fk_9_11 rt_71_11 (dget kX9_shotBetter 1 rfl) ?_
  refine wr_iload_n (pc := 4) (dget kX9_shotBetter 2 rfl) 1 rfl ?_
  obtain ⟨q_1, h⟩ := h
  refine wr_ialdl (pc := 5) (σ := σ) il_80 q_1 (dget kX9_shotBetter 3 rfl) ?_
  refine wr_topi (fun x4_2 e_x4_2 => ?_)
  have h := h x4_2 e_x4_2
  refine wr_istore (pc := 6) (lv' := [(4, .int x4_2), (0, .ref (G.1 71)), (1, .int p1), (2, .int p2), (3, .int p3)]) (dget kX9_shotBetter 4 rfl) (by decide) rfl ?_
  refine wr_iconst (pc := 8) (dget kX9_shotBetter 5 rfl) ic_m1 ?_
  refine wr_istore (pc := 9) (lv' := [(5, .int (-1 : Int32)), (4, .int x4_2), (0, .ref (G.1 71)), (1, .int p1), (2, .int p2), (3, .int p3)]) (dget kX9_shotBetter 6 rfl) (by decide) rfl ?_
  refine wr_iconst (pc := 11) (dget kX9_shotBetter 7 rfl) ic_m1 ?_
  refine wr_istore (pc := 12) (lv' := [(6, .int (-1 : Int32)), (5, .int (-1 : Int32)), (4, .int x4_2), (0, .ref (G.1 71)), (1, .int p1), (2, .int p2), (3, .int p3)]) (dget kX9_shotBetter 8 rfl) (by decide) rfl ?_
  refine wr_iconst (pc := 14) (dget kX9_shotBetter 9 rfl) ic_0 ?_
  refine wr_istore (pc := 15) (lv' := [(7, .int (0 : Int32)), (6, .int (-1 : Int32)), (5, .int (-1 : Int32)), (4, .int x4_2), (0, .ref (G.1 71)), (1, .int p1), (2, .int p2), (3, .int p3)]) (dget kX9_shotBetter 10 rfl) (by decide) rfl ?_
  obtain ⟨fu, h⟩ := h
  refine wr_sub [4, 5, 6, 7, 3, 2, 1, 0] rfl ?_
  refine tX9_shotBetter_17 (fun z5_3 z6_4 σ_5 h => ?_) fu _ _ _ _ h
  refine wr_aload_n (pc := 72) (dget kX9_shotBetter 37 rfl) 0 rfl ?_
  refine wr_getRl (pc := 73) fl_X9_34 kd_71 fk_9_11 rt_71_11 (dget kX9_shotBetter 38 rfl) ?_
  refine wr_iload_n (pc := 76) (dget kX9_shotBetter 39 rfl) 1 rfl ?_
  refine wr_iload (pc := 77) (dget kX9_shotBetter 40 rfl) 3 rfl ?_
  obtain ⟨q_6, h⟩ := h
  refine wr_iastl (pc := 79) il_80 q_6 (dget kX9_shotBetter 41 rfl) ?_
  refine wr_tops (fun σ_7 e_σ_7 => ?_)
  have h := h σ_7 e_σ_7
  refine wr_iload_n (pc := 80) (dget kX9_shotBetter 42 rfl) 2 rfl ?_
  refine wr_if_ne (pc := 81) (tgt := 89) (dget kX9_shotBetter 43 rfl) (by decide) (fun c_8 => ?_) (fun c_8 => ?_)
  · have h := h.2 c_8
    refine wr_iload (pc := 89) (dget kX9_shotBetter 46 rfl) 5 rfl ?_
    exact wr_iret (pc := 91) rfl (dget kX9_shotBetter 47 rfl) ⟨_, rfl, h⟩
  · have h := h.1 c_8
    refine wr_iload (pc := 84) (dget kX9_shotBetter 44 rfl) 4 rfl ?_
    refine wr_goto (pc := 86) (tgt := 91) (dget kX9_shotBetter 45 rfl) (by decide) ?_
    exact wr_iret (pc := 91) rfl (dget kX9_shotBetter 47 rfl) ⟨_, rfl, h⟩
def vX9_aim (p1 : Int32) (p2 : Int32) (σ : Hp) (post : Int32 → Hp → Prop) : Prop := (vX9_find  σ (fun σ_1 => (vX9_isShot p1 σ_1 (fun r_4 σ_3 => ((r_4 = 0 → post (-2 : Int32) σ_3) ∧ (¬ r_4 = 0 → (vX9_isTwo p2 σ_3 (fun r_7 σ_6 => ((r_7 = 0 → post (-2 : Int32) σ_6) ∧ (¬ r_7 = 0 → (vX9_shotBetter (((3 : Int32) * p1) + (2 : Int32)) (6 : Int32) p2 σ_6 (fun r_10 σ_9 => post r_10 σ_9))))))))))))
set_option maxHeartbeats 4000000 in
set_option maxRecDepth 100000 in
theorem tX9_aim {G : GT} {p1 : Int32} {p2 : Int32} {σ : Hp} {post : Int32 → Hp → Prop} (h : vX9_aim p1 p2 σ post) : CT G mX9_aim [.ref (G.1 71), .int p1, .int p2] σ (LI post) := by
  refine CT.of (by decide +kernel) (Nat.le_of_ble_eq_true rfl) ?_
  show WP G mX9_aim 0 [(0, .ref (G.1 71)), (1, .int p1), (2, .int p2)] [] σ (LI post)
  unfold vX9_aim at h
  refine wr_aload_n (pc := 0) (dget kX9_aim 0 rfl) 0 rfl ?_
  refine wr_callVv (pc := 1) (Mc := mX9_find) (o := 71) (rest := []) cf_X9_206 cv_X9_find kd_71 rfl ⟨Nat.le_of_ble_eq_true rfl, Nat.le_of_ble_eq_true rfl⟩ rfl rfl (Nat.le_of_ble_eq_true rfl) (dget kX9_aim 1 rfl) (tX9_find h) (fun σ_1 h => ?_)
  refine wr_aload_n (pc := 4) (dget kX9_aim 2 rfl) 0 rfl ?_
  refine wr_iload_n (pc := 5) (dget kX9_aim 3 rfl) 1 rfl ?_
  refine wr_callVi (pc := 6) (Mc := mX9_isShot) (o := 71) (rest := []) cf_X9_159 cv_X9_isShot kd_71 rfl ⟨Nat.le_of_ble_eq_true rfl, Nat.le_of_ble_eq_true rfl⟩ rfl rfl (Nat.le_of_ble_eq_true rfl) (dget kX9_aim 4 rfl) (tX9_isShot h) (fun r_4 σ_3 h => ?_)
  refine wr_if_eq (pc := 9) (tgt := 34) (dget kX9_aim 5 rfl) (by decide) (fun c_5 => ?_) (fun c_5 => ?_)
  · have h := h.1 c_5
    refine wr_bipush (pc := 34) (dget kX9_aim 19 rfl) bp_m2 ?_
    exact wr_iret (pc := 36) rfl (dget kX9_aim 20 rfl) ⟨_, rfl, h⟩
  · have h := h.2 c_5
    refine wr_iload_n (pc := 12) (dget kX9_aim 6 rfl) 2 rfl ?_
    refine wr_callSi (pc := 13) (Mc := mX9_isTwo) (rest := []) cf_X9_162 cs_X9_isTwo ⟨Nat.le_of_ble_eq_true rfl, Nat.le_of_ble_eq_true rfl⟩ rfl rfl (Nat.le_of_ble_eq_true rfl) (dget kX9_aim 7 rfl) (tX9_isTwo h) (fun r_7 σ_6 h => ?_)
    refine wr_if_eq (pc := 16) (tgt := 34) (dget kX9_aim 8 rfl) (by decide) (fun c_8 => ?_) (fun c_8 => ?_)
    · have h := h.1 c_8
      refine wr_bipush (pc := 34) (dget kX9_aim 19 rfl) bp_m2 ?_
      exact wr_iret (pc := 36) rfl (dget kX9_aim 20 rfl) ⟨_, rfl, h⟩
    · have h := h.2 c_8
      refine wr_aload_n (pc := 19) (dget kX9_aim 9 rfl) 0 rfl ?_
      refine wr_iconst (pc := 20) (dget kX9_aim 10 rfl) ic_3 ?_
      refine wr_iload_n (pc := 21) (dget kX9_aim 11 rfl) 1 rfl ?_
      refine wr_imul (pc := 22) (dget kX9_aim 12 rfl) ?_
      refine wr_iconst (pc := 23) (dget kX9_aim 13 rfl) ic_2 ?_
      refine wr_iadd (pc := 24) (dget kX9_aim 14 rfl) ?_
      refine wr_bipush (pc := 25) (dget kX9_aim 15 rfl) bp_6 ?_
      refine wr_iload_n (pc := 27) (dget kX9_aim 16 rfl) 2 rfl ?_
      refine wr_callVi (pc := 28) (Mc := mX9_shotBetter) (o := 71) (rest := []) cf_X9_242 cv_X9_shotBetter kd_71 rfl ⟨Nat.le_of_ble_eq_true rfl, Nat.le_of_ble_eq_true rfl⟩ rfl rfl (Nat.le_of_ble_eq_true rfl) (dget kX9_aim 17 rfl) (tX9_shotBetter h) (fun r_10 σ_9 h => ?_)
      refine wr_goto (pc := 31) (tgt := 36) (dget kX9_aim 18 rfl) (by decide) ?_
      exact wr_iret (pc := 36) rfl (dget kX9_aim 20 rfl) ⟨_, rfl, h⟩
def vX9_fire (p1 : Int32) (p2 : Int32) (σ : Hp) (post : Int32 → Hp → Prop) : Prop := (vX9_find  σ (fun σ_1 => (vX9_isShot p1 σ_1 (fun r_4 σ_3 => ((r_4 = 0 → post (-2 : Int32) σ_3) ∧ (¬ r_4 = 0 → (vX9_isTwo p2 σ_3 (fun r_7 σ_6 => ((r_7 = 0 → post (-2 : Int32) σ_6) ∧ (¬ r_7 = 0 → (vX9_shotBetter ((3 : Int32) * p1) (24 : Int32) p2 σ_6 (fun r_10 σ_9 => post r_10 σ_9))))))))))))
set_option maxHeartbeats 4000000 in
set_option maxRecDepth 100000 in
theorem tX9_fire {G : GT} {p1 : Int32} {p2 : Int32} {σ : Hp} {post : Int32 → Hp → Prop} (h : vX9_fire p1 p2 σ post) : CT G mX9_fire [.ref (G.1 71), .int p1, .int p2] σ (LI post) := by
  refine CT.of (by decide +kernel) (Nat.le_of_ble_eq_true rfl) ?_
  show WP G mX9_fire 0 [(0, .ref (G.1 71)), (1, .int p1), (2, .int p2)] [] σ (LI post)
  unfold vX9_fire at h
  refine wr_aload_n (pc := 0) (dget kX9_fire 0 rfl) 0 rfl ?_
  refine wr_callVv (pc := 1) (Mc := mX9_find) (o := 71) (rest := []) cf_X9_206 cv_X9_find kd_71 rfl ⟨Nat.le_of_ble_eq_true rfl, Nat.le_of_ble_eq_true rfl⟩ rfl rfl (Nat.le_of_ble_eq_true rfl) (dget kX9_fire 1 rfl) (tX9_find h) (fun σ_1 h => ?_)
  refine wr_aload_n (pc := 4) (dget kX9_fire 2 rfl) 0 rfl ?_
  refine wr_iload_n (pc := 5) (dget kX9_fire 3 rfl) 1 rfl ?_
  refine wr_callVi (pc := 6) (Mc := mX9_isShot) (o := 71) (rest := []) cf_X9_159 cv_X9_isShot kd_71 rfl ⟨Nat.le_of_ble_eq_true rfl, Nat.le_of_ble_eq_true rfl⟩ rfl rfl (Nat.le_of_ble_eq_true rfl) (dget kX9_fire 4 rfl) (tX9_isShot h) (fun r_4 σ_3 h => ?_)
  refine wr_if_eq (pc := 9) (tgt := 32) (dget kX9_fire 5 rfl) (by decide) (fun c_5 => ?_) (fun c_5 => ?_)
  · have h := h.1 c_5
    refine wr_bipush (pc := 32) (dget kX9_fire 17 rfl) bp_m2 ?_
    exact wr_iret (pc := 34) rfl (dget kX9_fire 18 rfl) ⟨_, rfl, h⟩
  · have h := h.2 c_5
    refine wr_iload_n (pc := 12) (dget kX9_fire 6 rfl) 2 rfl ?_
    refine wr_callSi (pc := 13) (Mc := mX9_isTwo) (rest := []) cf_X9_162 cs_X9_isTwo ⟨Nat.le_of_ble_eq_true rfl, Nat.le_of_ble_eq_true rfl⟩ rfl rfl (Nat.le_of_ble_eq_true rfl) (dget kX9_fire 7 rfl) (tX9_isTwo h) (fun r_7 σ_6 h => ?_)
    refine wr_if_eq (pc := 16) (tgt := 32) (dget kX9_fire 8 rfl) (by decide) (fun c_8 => ?_) (fun c_8 => ?_)
    · have h := h.1 c_8
      refine wr_bipush (pc := 32) (dget kX9_fire 17 rfl) bp_m2 ?_
      exact wr_iret (pc := 34) rfl (dget kX9_fire 18 rfl) ⟨_, rfl, h⟩
    · have h := h.2 c_8
      refine wr_aload_n (pc := 19) (dget kX9_fire 9 rfl) 0 rfl ?_
      refine wr_iconst (pc := 20) (dget kX9_fire 10 rfl) ic_3 ?_
      refine wr_iload_n (pc := 21) (dget kX9_fire 11 rfl) 1 rfl ?_
      refine wr_imul (pc := 22) (dget kX9_fire 12 rfl) ?_
      refine wr_bipush (pc := 23) (dget kX9_fire 13 rfl) bp_24 ?_
      refine wr_iload_n (pc := 25) (dget kX9_fire 14 rfl) 2 rfl ?_
      refine wr_callVi (pc := 26) (Mc := mX9_shotBetter) (o := 71) (rest := []) cf_X9_242 cv_X9_shotBetter kd_71 rfl ⟨Nat.le_of_ble_eq_true rfl, Nat.le_of_ble_eq_true rfl⟩ rfl rfl (Nat.le_of_ble_eq_true rfl) (dget kX9_fire 15 rfl) (tX9_shotBetter h) (fun r_10 σ_9 h => ?_)
      refine wr_goto (pc := 29) (tgt := 34) (dget kX9_fire 16 rfl) (by decide) ?_
      exact wr_iret (pc := 34) rfl (dget kX9_fire 18 rfl) ⟨_, rfl, h⟩
