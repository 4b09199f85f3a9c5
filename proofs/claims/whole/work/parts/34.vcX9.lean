def vX9_mendBy_15 (post : Int32 → Hp → Prop) (ex : Int32 → Int32 → Hp → Prop) (x1 : Int32) (x2 : Int32) : Nat → Int32 → Int32 → Int32 → Hp → Prop
  | 0 => fun _ _ _ _ => False
  | n + 1 => fun x3 x4 x5 σ => (((5 : Int32) ≤ x5 → (ex x3 x4 σ)) ∧ (¬ (5 : Int32) ≤ x5 → (vp_in (0 : Int32) 2 ∧ ∀ σ_3 : Hp, σ_3 = wI σ 81 (0 : Int32).toNatClampNeg x5 → (vX9_lives  σ_3 (fun σ_4 => (vX9_score  σ_4 (fun r_7 σ_6 => ((r_7 ≤ x4 → (vX9_greater r_7 x4 σ_6 (fun r_10 σ_9 => (∀ x5_11 : Int32, x5_11 = x5 + (1 : Int32) → vX9_mendBy_15 post ex x1 x2 n x3 r_10 x5_11 σ_9)))) ∧ (¬ r_7 ≤ x4 → (vX9_greater r_7 x4 σ_6 (fun r_13 σ_12 => (∀ x5_14 : Int32, x5_14 = x5 + (1 : Int32) → vX9_mendBy_15 post ex x1 x2 n x5 r_13 x5_14 σ_12))))))))))))
set_option maxHeartbeats 4000000 in
set_option maxRecDepth 100000 in
theorem tX9_mendBy_15 {G : GT} {post : Int32 → Hp → Prop} {ex : Int32 → Int32 → Hp → Prop} {x1 : Int32} {x2 : Int32} (hex : ∀ (z3 : Int32) (z4 : Int32) (τ : Hp), ex z3 z4 τ → WP G mX9_mendBy 68 [(0, .ref (G.1 71)), (1, .int x1), (2, .int x2), (3, .int z3), (4, .int z4)] [] τ (LI post)) : ∀ (n : Nat) (x3 : Int32) (x4 : Int32) (x5 : Int32) (σ : Hp), vX9_mendBy_15 post ex x1 x2 n x3 x4 x5 σ → WP G mX9_mendBy 15 [(0, .ref (G.1 71)), (1, .int x1), (2, .int x2), (3, .int x3), (4, .int x4), (5, .int x5)] [] σ (LI post) := by
  intro n
  induction n with
  | zero => intro x3 x4 x5 σ h; exact False.elim h
  | succ n ih =>
    intro x3 x4 x5 σ h
    simp only [vX9_mendBy_15] at h
    refine wr_iload (pc := 15) (dget kX9_mendBy 11 rfl) 5 rfl ?_
    refine wr_iconst (pc := 17) (dget kX9_mendBy 12 rfl) ic_5 ?_
    refine wr_icmp_ge (pc := 18) (tgt := 68) (dget kX9_mendBy 13 rfl) (by decide) (fun c_1 => ?_) (fun c_1 => ?_)
    · have h := h.1 c_1
      refine wr_sub [0, 1, 2, 3, 4] rfl ?_
      exact hex _ _ _ h
    · have h := h.2 c_1
      refine wr_aload_n (pc := 21) (dget kX9_mendBy 14 rfl) 0 rfl ?_
      refine wr_getRl (pc := 22) fl_X9_37 kd_71 fk_9_12 rt_71_12 (dget kX9_mendBy 15 rfl) ?_
      refine wr_iconst (pc := 25) (dget kX9_mendBy 16 rfl) ic_0 ?_
      refine wr_iload (pc := 26) (dget kX9_mendBy 17 rfl) 5 rfl ?_
      obtain ⟨q_2, h⟩ := h
      refine wr_iastl (pc := 28) il_81 q_2 (dget kX9_mendBy 18 rfl) ?_
      refine wr_tops (fun σ_3 e_σ_3 => ?_)
      have h := h σ_3 e_σ_3
      refine wr_aload_n (pc := 29) (dget kX9_mendBy 19 rfl) 0 rfl ?_
      refine wr_callVv (pc := 30) (Mc := mX9_lives) (o := 71) (rest := []) cf_X9_203 cv_X9_lives kd_71 rfl ⟨Nat.le_of_ble_eq_true rfl, Nat.le_of_ble_eq_true rfl⟩ rfl rfl (Nat.le_of_ble_eq_true rfl) (dget kX9_mendBy 20 rfl) (tX9_lives h) (fun σ_4 h => ?_)
      refine wr_aload_n (pc := 33) (dget kX9_mendBy 21 rfl) 0 rfl ?_
      refine wr_callVi (pc := 34) (Mc := mX9_score) (o := 71) (rest := []) cf_X9_221 cv_X9_score kd_71 rfl ⟨Nat.le_of_ble_eq_true rfl, Nat.le_of_ble_eq_true rfl⟩ rfl rfl (Nat.le_of_ble_eq_true rfl) (dget kX9_mendBy 22 rfl) (tX9_score h) (fun r_7 σ_6 h => ?_)
      refine wr_istore (pc := 37) (lv' := [(6, .int r_7), (0, .ref (G.1 71)), (1, .int x1), (2, .int x2), (3, .int x3), (4, .int x4), (5, .int x5)]) (dget kX9_mendBy 23 rfl) (by decide) rfl ?_
      refine wr_iload (pc := 39) (dget kX9_mendBy 24 rfl) 0 rfl ?_
      refine wr_iload (pc := 41) (dget kX9_mendBy 25 rfl) 5 rfl ?_
      refine wr_icmp_le (pc := 43) (tgt := 51) (dget kX9_mendBy 26 rfl) (by decide) (fun c_8 => ?_) (fun c_8 => ?_)
      · have h := h.1 c_8
        refine wr_iload_n (pc := 51) (dget kX9_mendBy 29 rfl) 4 rfl ?_
        refine wr_istore_n (pc := 52) (lv' := [(3, .int x3), (6, .int r_7), (0, .ref (G.1 71)), (1, .int x1), (2, .int x2), (4, .int x4), (5, .int x5)]) (dget kX9_mendBy 30 rfl) (by decide) rfl ?_
        refine wr_iload (pc := 53) (dget kX9_mendBy 31 rfl) 1 rfl ?_
        refine wr_iload (pc := 55) (dget kX9_mendBy 32 rfl) 5 rfl ?_
        refine wr_callSi (pc := 57) (Mc := mX9_greater) (rest := []) cf_X9_230 cs_X9_greater ⟨Nat.le_of_ble_eq_true rfl, Nat.le_of_ble_eq_true rfl⟩ rfl rfl (Nat.le_of_ble_eq_true rfl) (dget kX9_mendBy 33 rfl) (tX9_greater h) (fun r_10 σ_9 h => ?_)
        refine wr_istore (pc := 60) (lv' := [(4, .int r_10), (3, .int x3), (6, .int r_7), (0, .ref (G.1 71)), (1, .int x1), (2, .int x2), (5, .int x5)]) (dget kX9_mendBy 34 rfl) (by decide) rfl ?_
        obtain ⟨x5_11, e_x5_11⟩ : ∃ y : Int32, y = x5 + (1 : Int32) := ⟨_, rfl⟩
        have h := h x5_11 e_x5_11
        refine wr_iinc (pc := 62) (v := x5_11) (lv' := [(5, .int x5_11), (4, .int r_10), (3, .int x3), (6, .int r_7), (0, .ref (G.1 71)), (1, .int x1), (2, .int x2)]) (dget kX9_mendBy 35 rfl) 6 rfl (by rw [e_x5_11, ic_1]) (by decide) rfl ?_
        refine wr_goto (pc := 65) (tgt := 15) (dget kX9_mendBy 36 rfl) (by decide) ?_
        refine wr_sub [4, 5, 6, 2, 1, 0] rfl ?_
        exact ih _ _ _ _ h
      · have h := h.2 c_8
        refine wr_iload (pc := 46) (dget kX9_mendBy 27 rfl) 6 rfl ?_
        refine wr_goto (pc := 48) (tgt := 52) (dget kX9_mendBy 28 rfl) (by decide) ?_
        refine wr_istore_n (pc := 52) (lv' := [(3, .int x5), (6, .int r_7), (0, .ref (G.1 71)), (1, .int x1), (2, .int x2), (4, .int x4), (5, .int x5)]) (dget kX9_mendBy 30 rfl) (by decide) rfl ?_
        refine wr_iload (pc := 53) (dget kX9_mendBy 31 rfl) 1 rfl ?_
        refine wr_iload (pc := 55) (dget kX9_mendBy 32 rfl) 5 rfl ?_
        refine wr_callSi (pc := 57) (Mc := mX9_greater) (rest := []) cf_X9_230 cs_X9_greater ⟨Nat.le_of_ble_eq_true rfl, Nat.le_of_ble_eq_true rfl⟩ rfl rfl (Nat.le_of_ble_eq_true rfl) (dget kX9_mendBy 33 rfl) (tX9_greater h) (fun r_13 σ_12 h => ?_)
        refine wr_istore (pc := 60) (lv' := [(4, .int r_13), (3, .int x5), (6, .int r_7), (0, .ref (G.1 71)), (1, .int x1), (2, .int x2), (5, .int x5)]) (dget kX9_mendBy 34 rfl) (by decide) rfl ?_
        obtain ⟨x5_14, e_x5_14⟩ : ∃ y : Int32, y = x5 + (1 : Int32) := ⟨_, rfl⟩
        have h := h x5_14 e_x5_14
        refine wr_iinc (pc := 62) (v := x5_14) (lv' := [(5, .int x5_14), (4, .int r_13), (3, .int x5), (6, .int r_7), (0, .ref (G.1 71)), (1, .int x1), (2, .int x2)]) (dget kX9_mendBy 35 rfl) 6 rfl (by rw [e_x5_14, ic_1]) (by decide) rfl ?_
        refine wr_goto (pc := 65) (tgt := 15) (dget kX9_mendBy 36 rfl) (by decide) ?_
        refine wr_sub [4, 5, 6, 2, 1, 0] rfl ?_
        exact ih _ _ _ _ h
def vX9_mendBy (p1 : Int32) (σ : Hp) (post : Int32 → Hp → Prop) : Prop := (vp_in (0 : Int32) 2 ∧ (∀ x2_2 : Int32, x2_2 = (σ.1 81 (0 : Int32).toNatClampNeg) → (∃ fu : Nat, vX9_mendBy_15 post (fun z3_3 z4_4 σ_5 => (vp_in (0 : Int32) 2 ∧ ∀ σ_7 : Hp, σ_7 = wI σ_5 81 (0 : Int32).toNatClampNeg x2_2 → ((p1 = 0 → post z3_3 σ_7) ∧ (¬ p1 = 0 → post z4_4 σ_7)))) p1 x2_2 fu (-1 : Int32) (-1 : Int32) (0 : Int32) σ)))
set_option maxHeartbeats 4000000 in
set_option maxRecDepth 100000 in
theorem tX9_mendBy {G : GT} {p1 : Int32} {σ : Hp} {post : Int32 → Hp → Prop} (h : vX9_mendBy p1 σ post) : CT G mX9_mendBy [.ref (G.1 71), .int p1] σ (LI post) := by
  refine CT.of (by decide +kernel) (Nat.le_of_ble_eq_true rfl) ?_
  show WP G mX9_mendBy 0 [(0, .ref (G.1 71)), (1, .int p1)] [] σ (LI post)
  unfold vX9_mendBy at h
  refine wr_aload_n (pc := 0) (dget kX9_mendBy 0 rfl) 0 rfl ?_
  refine wr_getRl (pc := 1) fl_X9_37 kd_71 fk_9_12 rt_71_12 (dget kX9_mendBy 1 rfl) ?_
  refine wr_iconst (pc := 4) (dget kX9_mendBy 2 rfl) ic_0 ?_
  obtain ⟨q_1, h⟩ := h
  refine wr_ialdl (pc := 5) (σ := σ) il_81 q_1 (dget kX9_mendBy 3 rfl) ?_
  refine wr_topi (fun x2_2 e_x2_2 => ?_)
  have h := h x2_2 e_x2_2
  refine wr_istore_n (pc := 6) (lv' := [(2, .int x2_2), (0, .ref (G.1 71)), (1, .int p1)]) (dget kX9_mendBy 4 rfl) (by decide) rfl ?_
  refine wr_iconst (pc := 7) (dget kX9_mendBy 5 rfl) ic_m1 ?_
  refine wr_istore_n (pc := 8) (lv' := [(3, .int (-1 : Int32)), (2, .int x2_2), (0, .ref (G.1 71)), (1, .int p1)]) (dget kX9_mendBy 6 rfl) (by decide) rfl ?_
  refine wr_iconst (pc := 9) (dget kX9_mendBy 7 rfl) ic_m1 ?_
  refine wr_istore (pc := 10) (lv' := [(4, .int (-1 : Int32)), (3, .int (-1 : Int32)), (2, .int x2_2), (0, .ref (G.1 71)), (1, .int p1)]) (dget kX9_mendBy 8 rfl) (by decide) rfl ?_
  refine wr_iconst (pc := 12) (dget kX9_mendBy 9 rfl) ic_0 ?_
  refine wr_istore (pc := 13) (lv' := [(5, .int (0 : Int32)), (4, .int (-1 : Int32)), (3, .int (-1 : Int32)), (2, .int x2_2), (0, .ref (G.1 71)), (1, .int p1)]) (dget kX9_mendBy 10 rfl) (by decide) rfl ?_
  obtain ⟨fu, h⟩ := h
  refine wr_sub [4, 5, 3, 2, 1, 0] rfl ?_
  refine tX9_mendBy_15 (fun z3_3 z4_4 σ_5 h => ?_) fu _ _ _ _ h
  refine wr_aload_n (pc := 68) (dget kX9_mendBy 37 rfl) 0 rfl ?_
  refine wr_getRl (pc := 69) fl_X9_37 kd_71 fk_9_12 rt_71_12 (dget kX9_mendBy 38 rfl) ?_
  refine wr_iconst (pc := 72) (dget kX9_mendBy 39 rfl) ic_0 ?_
  refine wr_iload_n (pc := 73) (dget kX9_mendBy 40 rfl) 2 rfl ?_
  obtain ⟨q_6, h⟩ := h
  refine wr_iastl (pc := 74) il_81 q_6 (dget kX9_mendBy 41 rfl) ?_
  refine wr_tops (fun σ_7 e_σ_7 => ?_)
  have h := h σ_7 e_σ_7
  refine wr_iload_n (pc := 75) (dget kX9_mendBy 42 rfl) 1 rfl ?_
  refine wr_if_ne (pc := 76) (tgt := 83) (dget kX9_mendBy 43 rfl) (by decide) (fun c_8 => ?_) (fun c_8 => ?_)
  · have h := h.2 c_8
    refine wr_iload (pc := 83) (dget kX9_mendBy 46 rfl) 4 rfl ?_
    exact wr_iret (pc := 85) rfl (dget kX9_mendBy 47 rfl) ⟨_, rfl, h⟩
  · have h := h.1 c_8
    refine wr_iload_n (pc := 79) (dget kX9_mendBy 44 rfl) 3 rfl ?_
    refine wr_goto (pc := 80) (tgt := 85) (dget kX9_mendBy 45 rfl) (by decide) ?_
    exact wr_iret (pc := 85) rfl (dget kX9_mendBy 47 rfl) ⟨_, rfl, h⟩
def vX9_mend (p1 : Int32) (σ : Hp) (post : Int32 → Hp → Prop) : Prop := (vX9_find  σ (fun σ_1 => (vX9_isTwo p1 σ_1 (fun r_4 σ_3 => ((r_4 = 0 → post (-2 : Int32) σ_3) ∧ (¬ r_4 = 0 → (vX9_mendBy p1 σ_3 (fun r_7 σ_6 => post r_7 σ_6))))))))
set_option maxHeartbeats 4000000 in
set_option maxRecDepth 100000 in
theorem tX9_mend {G : GT} {p1 : Int32} {σ : Hp} {post : Int32 → Hp → Prop} (h : vX9_mend p1 σ post) : CT G mX9_mend [.ref (G.1 71), .int p1] σ (LI post) := by
  refine CT.of (by decide +kernel) (Nat.le_of_ble_eq_true rfl) ?_
  show WP G mX9_mend 0 [(0, .ref (G.1 71)), (1, .int p1)] [] σ (LI post)
  unfold vX9_mend at h
  refine wr_aload_n (pc := 0) (dget kX9_mend 0 rfl) 0 rfl ?_
  refine wr_callVv (pc := 1) (Mc := mX9_find) (o := 71) (rest := []) cf_X9_206 cv_X9_find kd_71 rfl ⟨Nat.le_of_ble_eq_true rfl, Nat.le_of_ble_eq_true rfl⟩ rfl rfl (Nat.le_of_ble_eq_true rfl) (dget kX9_mend 1 rfl) (tX9_find h) (fun σ_1 h => ?_)
  refine wr_iload_n (pc := 4) (dget kX9_mend 2 rfl) 1 rfl ?_
  refine wr_callSi (pc := 5) (Mc := mX9_isTwo) (rest := []) cf_X9_162 cs_X9_isTwo ⟨Nat.le_of_ble_eq_true rfl, Nat.le_of_ble_eq_true rfl⟩ rfl rfl (Nat.le_of_ble_eq_true rfl) (dget kX9_mend 3 rfl) (tX9_isTwo h) (fun r_4 σ_3 h => ?_)
  refine wr_if_eq (pc := 8) (tgt := 19) (dget kX9_mend 4 rfl) (by decide) (fun c_5 => ?_) (fun c_5 => ?_)
  · have h := h.1 c_5
    refine wr_bipush (pc := 19) (dget kX9_mend 9 rfl) bp_m2 ?_
    exact wr_iret (pc := 21) rfl (dget kX9_mend 10 rfl) ⟨_, rfl, h⟩
  · have h := h.2 c_5
    refine wr_aload_n (pc := 11) (dget kX9_mend 5 rfl) 0 rfl ?_
    refine wr_iload_n (pc := 12) (dget kX9_mend 6 rfl) 1 rfl ?_
    refine wr_callVi (pc := 13) (Mc := mX9_mendBy) (o := 71) (rest := []) cf_X9_245 cv_X9_mendBy kd_71 rfl ⟨Nat.le_of_ble_eq_true rfl, Nat.le_of_ble_eq_true rfl⟩ rfl rfl (Nat.le_of_ble_eq_true rfl) (dget kX9_mend 7 rfl) (tX9_mendBy h) (fun r_7 σ_6 h => ?_)
    refine wr_goto (pc := 16) (tgt := 21) (dget kX9_mend 8 rfl) (by decide) ?_
    exact wr_iret (pc := 21) rfl (dget kX9_mend 10 rfl) ⟨_, rfl, h⟩
def vX9_isSpared (p1 : Int32) (σ : Hp) (post : Int32 → Hp → Prop) : Prop := (∀ σ_1 : Hp, σ_1 = wI σ 71 15 p1 → (vX9_lives  σ_1 (fun σ_2 => (∀ σ_4 : Hp, σ_4 = wI σ_2 71 15 (0 : Int32) → (vX9_manyHit  σ_4 (fun r_6 σ_5 => ((r_6 = (σ_5.1 71 10) → post (1 : Int32) σ_5) ∧ (¬ r_6 = (σ_5.1 71 10) → post (0 : Int32) σ_5))))))))
set_option maxHeartbeats 4000000 in
set_option maxRecDepth 100000 in
theorem tX9_isSpared {G : GT} {p1 : Int32} {σ : Hp} {post : Int32 → Hp → Prop} (h : vX9_isSpared p1 σ post) : CT G mX9_isSpared [.ref (G.1 71), .int p1] σ (LI post) := by
  refine CT.of (by decide +kernel) (Nat.le_of_ble_eq_true rfl) ?_
  show WP G mX9_isSpared 0 [(0, .ref (G.1 71)), (1, .int p1)] [] σ (LI post)
  unfold vX9_isSpared at h
  refine wr_aload_n (pc := 0) (dget kX9_isSpared 0 rfl) 0 rfl ?_
  refine wr_iload_n (pc := 1) (dget kX9_isSpared 1 rfl) 1 rfl ?_
  refine wr_putI (pc := 2) fl_X9_177 kd_71 fk_9_15 (vp_nar_int _) rfl (dget kX9_isSpared 2 rfl) ?_
  refine wr_tops (fun σ_1 e_σ_1 => ?_)
  have h := h σ_1 e_σ_1
  refine wr_aload_n (pc := 5) (dget kX9_isSpared 3 rfl) 0 rfl ?_
  refine wr_callVv (pc := 6) (Mc := mX9_lives) (o := 71) (rest := []) cf_X9_203 cv_X9_lives kd_71 rfl ⟨Nat.le_of_ble_eq_true rfl, Nat.le_of_ble_eq_true rfl⟩ rfl rfl (Nat.le_of_ble_eq_true rfl) (dget kX9_isSpared 4 rfl) (tX9_lives h) (fun σ_2 h => ?_)
  refine wr_aload_n (pc := 9) (dget kX9_isSpared 5 rfl) 0 rfl ?_
  refine wr_iconst (pc := 10) (dget kX9_isSpared 6 rfl) ic_0 ?_
  refine wr_putI (pc := 11) fl_X9_177 kd_71 fk_9_15 (vp_nar_int _) rfl (dget kX9_isSpared 7 rfl) ?_
  refine wr_tops (fun σ_4 e_σ_4 => ?_)
  have h := h σ_4 e_σ_4
  refine wr_aload_n (pc := 14) (dget kX9_isSpared 8 rfl) 0 rfl ?_
  refine wr_callVi (pc := 15) (Mc := mX9_manyHit) (o := 71) (rest := []) cf_X9_224 cv_X9_manyHit kd_71 rfl ⟨Nat.le_of_ble_eq_true rfl, Nat.le_of_ble_eq_true rfl⟩ rfl rfl (Nat.le_of_ble_eq_true rfl) (dget kX9_isSpared 9 rfl) (tX9_manyHit h) (fun r_6 σ_5 h => ?_)
  refine wr_aload_n (pc := 18) (dget kX9_isSpared 10 rfl) 0 rfl ?_
  refine wr_getI (pc := 19) (σ := σ_5) fl_X9_132 kd_71 fk_9_10 (dget kX9_isSpared 11 rfl) ?_
  refine wr_icmp_ne (pc := 22) (tgt := 29) (dget kX9_isSpared 12 rfl) (by decide) (fun c_7 => ?_) (fun c_7 => ?_)
  · have h := h.2 c_7
    refine wr_iconst (pc := 29) (dget kX9_isSpared 15 rfl) ic_0 ?_
    exact wr_zret (pc := 30) rfl (by decide) (dget kX9_isSpared 16 rfl) ⟨_, rfl, h⟩
  · have h := h.1 c_7
    refine wr_iconst (pc := 25) (dget kX9_isSpared 13 rfl) ic_1 ?_
    refine wr_goto (pc := 26) (tgt := 30) (dget kX9_isSpared 14 rfl) (by decide) ?_
    exact wr_zret (pc := 30) rfl (by decide) (dget kX9_isSpared 16 rfl) ⟨_, rfl, h⟩
def vX9_spareBy_78 (post : Int32 → Hp → Prop) (ex : Hp → Prop) (x1 : Int32) (x2 : Int32) : Nat → Int32 → Hp → Prop
  | 0 => fun _ _ => False
  | n + 1 => fun x3 σ => (((σ.1 71 13) ≤ x3 → (ex σ)) ∧ (¬ (σ.1 71 13) ≤ x3 → (vX9_isSpared (((1 : Int32) <<< (x2 &&& 31)) ||| ((1 : Int32) <<< (x3 &&& 31))) σ (fun r_3 σ_2 => ((r_3 = 0 → (∀ x3_5 : Int32, x3_5 = x3 + (1 : Int32) → vX9_spareBy_78 post ex x1 x2 n x3_5 σ_2)) ∧ (¬ r_3 = 0 → ((x1 = (-1 : Int32) → post (2 : Int32) σ_2) ∧ (¬ x1 = (-1 : Int32) → ((x1 = 0 → post x2 σ_2) ∧ (¬ x1 = 0 → post x3 σ_2))))))))))
set_option maxHeartbeats 4000000 in
set_option maxRecDepth 100000 in
theorem tX9_spareBy_78 {G : GT} {post : Int32 → Hp → Prop} {ex : Hp → Prop} {x1 : Int32} {x2 : Int32} (hex : ∀  (τ : Hp), ex  τ → WP G mX9_spareBy 125 [(0, .ref (G.1 71)), (1, .int x1), (2, .int x2)] [] τ (LI post)) : ∀ (n : Nat) (x3 : Int32) (σ : Hp), vX9_spareBy_78 post ex x1 x2 n x3 σ → WP G mX9_spareBy 78 [(0, .ref (G.1 71)), (1, .int x1), (2, .int x2), (3, .int x3)] [] σ (LI post) := by
  intro n
  induction n with
  | zero => intro x3 σ h; exact False.elim h
  | succ n ih =>
    intro x3 σ h
    simp only [vX9_spareBy_78] at h
    refine wr_iload_n (pc := 78) (dget kX9_spareBy 46 rfl) 3 rfl ?_
    refine wr_aload_n (pc := 79) (dget kX9_spareBy 47 rfl) 0 rfl ?_
    refine wr_getI (pc := 80) (σ := σ) fl_X9_172 kd_71 fk_9_13 (dget kX9_spareBy 48 rfl) ?_
    refine wr_icmp_ge (pc := 83) (tgt := 125) (dget kX9_spareBy 49 rfl) (by decide) (fun c_1 => ?_) (fun c_1 => ?_)
    · have h := h.1 c_1
      refine wr_sub [0, 1, 2] rfl ?_
      exact hex  _ h
    · have h := h.2 c_1
      refine wr_aload_n (pc := 86) (dget kX9_spareBy 50 rfl) 0 rfl ?_
      refine wr_iconst (pc := 87) (dget kX9_spareBy 51 rfl) ic_1 ?_
      refine wr_iload_n (pc := 88) (dget kX9_spareBy 52 rfl) 2 rfl ?_
      refine wr_ishl (pc := 89) (dget kX9_spareBy 53 rfl) ?_
      refine wr_iconst (pc := 90) (dget kX9_spareBy 54 rfl) ic_1 ?_
      refine wr_iload_n (pc := 91) (dget kX9_spareBy 55 rfl) 3 rfl ?_
      refine wr_ishl (pc := 92) (dget kX9_spareBy 56 rfl) ?_
      refine wr_ior (pc := 93) (dget kX9_spareBy 57 rfl) ?_
      refine wr_callVi (pc := 94) (Mc := mX9_isSpared) (o := 71) (rest := []) cf_X9_248 cv_X9_isSpared kd_71 rfl ⟨Nat.le_of_ble_eq_true rfl, Nat.le_of_ble_eq_true rfl⟩ rfl rfl (Nat.le_of_ble_eq_true rfl) (dget kX9_spareBy 58 rfl) (tX9_isSpared h) (fun r_3 σ_2 h => ?_)
      refine wr_if_eq (pc := 97) (tgt := 119) (dget kX9_spareBy 59 rfl) (by decide) (fun c_4 => ?_) (fun c_4 => ?_)
      · have h := h.1 c_4
        obtain ⟨x3_5, e_x3_5⟩ : ∃ y : Int32, y = x3 + (1 : Int32) := ⟨_, rfl⟩
        have h := h x3_5 e_x3_5
        refine wr_iinc (pc := 119) (v := x3_5) (lv' := [(3, .int x3_5), (0, .ref (G.1 71)), (1, .int x1), (2, .int x2)]) (dget kX9_spareBy 71 rfl) 3 rfl (by rw [e_x3_5, ic_1]) (by decide) rfl ?_
        refine wr_goto (pc := 122) (tgt := 78) (dget kX9_spareBy 72 rfl) (by decide) ?_
        refine wr_sub [1, 2, 3, 0] rfl ?_
        exact ih _ _ h
      · have h := h.2 c_4
        refine wr_iload_n (pc := 100) (dget kX9_spareBy 60 rfl) 1 rfl ?_
        refine wr_iconst (pc := 101) (dget kX9_spareBy 61 rfl) ic_m1 ?_
        refine wr_icmp_ne (pc := 102) (tgt := 109) (dget kX9_spareBy 62 rfl) (by decide) (fun c_6 => ?_) (fun c_6 => ?_)
        · have h := h.2 c_6
          refine wr_iload_n (pc := 109) (dget kX9_spareBy 65 rfl) 1 rfl ?_
          refine wr_if_ne (pc := 110) (tgt := 117) (dget kX9_spareBy 66 rfl) (by decide) (fun c_7 => ?_) (fun c_7 => ?_)
          · have h := h.2 c_7
            refine wr_iload_n (pc := 117) (dget kX9_spareBy 69 rfl) 3 rfl ?_
            exact wr_iret (pc := 118) rfl (dget kX9_spareBy 70 rfl) ⟨_, rfl, h⟩
          · have h := h.1 c_7
            refine wr_iload_n (pc := 113) (dget kX9_spareBy 67 rfl) 2 rfl ?_
            refine wr_goto (pc := 114) (tgt := 118) (dget kX9_spareBy 68 rfl) (by decide) ?_
            exact wr_iret (pc := 118) rfl (dget kX9_spareBy 70 rfl) ⟨_, rfl, h⟩
        · have h := h.1 c_6
          refine wr_iconst (pc := 105) (dget kX9_spareBy 63 rfl) ic_2 ?_
          refine wr_goto (pc := 106) (tgt := 118) (dget kX9_spareBy 64 rfl) (by decide) ?_
          exact wr_iret (pc := 118) rfl (dget kX9_spareBy 70 rfl) ⟨_, rfl, h⟩
def vX9_spareBy_66 (post : Int32 → Hp → Prop) (ex : Hp → Prop) (x1 : Int32) : Nat → Int32 → Hp → Prop
  | 0 => fun _ _ => False
  | n + 1 => fun x2 σ => (((σ.1 71 13) ≤ x2 → (ex σ)) ∧ (¬ (σ.1 71 13) ≤ x2 → (∀ x3_2 : Int32, x3_2 = (x2 + (1 : Int32)) → (∃ fu : Nat, vX9_spareBy_78 post (fun σ_3 => (∀ x2_4 : Int32, x2_4 = x2 + (1 : Int32) → vX9_spareBy_66 post ex x1 n x2_4 σ_3)) x1 x2 fu x3_2 σ))))
set_option maxHeartbeats 4000000 in
set_option maxRecDepth 100000 in
theorem tX9_spareBy_66 {G : GT} {post : Int32 → Hp → Prop} {ex : Hp → Prop} {x1 : Int32} (hex : ∀  (τ : Hp), ex  τ → WP G mX9_spareBy 131 [] [] τ (LI post)) : ∀ (n : Nat) (x2 : Int32) (σ : Hp), vX9_spareBy_66 post ex x1 n x2 σ → WP G mX9_spareBy 66 [(0, .ref (G.1 71)), (1, .int x1), (2, .int x2)] [] σ (LI post) := by
  intro n
  induction n with
  | zero => intro x2 σ h; exact False.elim h
  | succ n ih =>
    intro x2 σ h
    simp only [vX9_spareBy_66] at h
    refine wr_iload_n (pc := 66) (dget kX9_spareBy 38 rfl) 2 rfl ?_
    refine wr_aload_n (pc := 67) (dget kX9_spareBy 39 rfl) 0 rfl ?_
    refine wr_getI (pc := 68) (σ := σ) fl_X9_172 kd_71 fk_9_13 (dget kX9_spareBy 40 rfl) ?_
    refine wr_icmp_ge (pc := 71) (tgt := 131) (dget kX9_spareBy 41 rfl) (by decide) (fun c_1 => ?_) (fun c_1 => ?_)
    · have h := h.1 c_1
      refine wr_sub [] rfl ?_
      exact hex  _ h
    · have h := h.2 c_1
      refine wr_iload_n (pc := 74) (dget kX9_spareBy 42 rfl) 2 rfl ?_
      refine wr_iconst (pc := 75) (dget kX9_spareBy 43 rfl) ic_1 ?_
      refine wr_iadd (pc := 76) (dget kX9_spareBy 44 rfl) ?_
      refine wr_topi (fun x3_2 e_x3_2 => ?_)
      have h := h x3_2 e_x3_2
      refine wr_istore_n (pc := 77) (lv' := [(3, .int x3_2), (0, .ref (G.1 71)), (1, .int x1), (2, .int x2)]) (dget kX9_spareBy 45 rfl) (by decide) rfl ?_
      obtain ⟨fu, h⟩ := h
      refine wr_sub [1, 2, 3, 0] rfl ?_
      refine tX9_spareBy_78 (fun σ_3 h => ?_) fu _ _ h
      obtain ⟨x2_4, e_x2_4⟩ : ∃ y : Int32, y = x2 + (1 : Int32) := ⟨_, rfl⟩
      have h := h x2_4 e_x2_4
      refine wr_iinc (pc := 125) (v := x2_4) (lv' := [(2, .int x2_4), (0, .ref (G.1 71)), (1, .int x1)]) (dget kX9_spareBy 73 rfl) 2 rfl (by rw [e_x2_4, ic_1]) (by decide) rfl ?_
      refine wr_goto (pc := 128) (tgt := 66) (dget kX9_spareBy 74 rfl) (by decide) ?_
      refine wr_sub [1, 2, 0] rfl ?_
      exact ih _ _ h
def vX9_spareBy_21 (post : Int32 → Hp → Prop) (ex : Hp → Prop) (x1 : Int32) : Nat → Int32 → Hp → Prop
  | 0 => fun _ _ => False
  | n + 1 => fun x2 σ => (((σ.1 71 13) ≤ x2 → (ex σ)) ∧ (¬ (σ.1 71 13) ≤ x2 → (vX9_isSpared ((1 : Int32) <<< (x2 &&& 31)) σ (fun r_3 σ_2 => ((r_3 = 0 → (∀ x2_5 : Int32, x2_5 = x2 + (1 : Int32) → vX9_spareBy_21 post ex x1 n x2_5 σ_2)) ∧ (¬ r_3 = 0 → ((x1 = (-1 : Int32) → post (1 : Int32) σ_2) ∧ (¬ x1 = (-1 : Int32) → ((x1 = 0 → post x2 σ_2) ∧ (¬ x1 = 0 → post (-1 : Int32) σ_2))))))))))
set_option maxHeartbeats 4000000 in
set_option maxRecDepth 100000 in
theorem tX9_spareBy_21 {G : GT} {post : Int32 → Hp → Prop} {ex : Hp → Prop} {x1 : Int32} (hex : ∀  (τ : Hp), ex  τ → WP G mX9_spareBy 64 [(0, .ref (G.1 71)), (1, .int x1)] [] τ (LI post)) : ∀ (n : Nat) (x2 : Int32) (σ : Hp), vX9_spareBy_21 post ex x1 n x2 σ → WP G mX9_spareBy 21 [(0, .ref (G.1 71)), (1, .int x1), (2, .int x2)] [] σ (LI post) := by
  intro n
  induction n with
  | zero => intro x2 σ h; exact False.elim h
  | succ n ih =>
    intro x2 σ h
    simp only [vX9_spareBy_21] at h
    refine wr_iload_n (pc := 21) (dget kX9_spareBy 13 rfl) 2 rfl ?_
    refine wr_aload_n (pc := 22) (dget kX9_spareBy 14 rfl) 0 rfl ?_
    refine wr_getI (pc := 23) (σ := σ) fl_X9_172 kd_71 fk_9_13 (dget kX9_spareBy 15 rfl) ?_
    refine wr_icmp_ge (pc := 26) (tgt := 64) (dget kX9_spareBy 16 rfl) (by decide) (fun c_1 => ?_) (fun c_1 => ?_)
    · have h := h.1 c_1
      refine wr_sub [0, 1] rfl ?_
      exact hex  _ h
    · have h := h.2 c_1
      refine wr_aload_n (pc := 29) (dget kX9_spareBy 17 rfl) 0 rfl ?_
      refine wr_iconst (pc := 30) (dget kX9_spareBy 18 rfl) ic_1 ?_
      refine wr_iload_n (pc := 31) (dget kX9_spareBy 19 rfl) 2 rfl ?_
      refine wr_ishl (pc := 32) (dget kX9_spareBy 20 rfl) ?_
      refine wr_callVi (pc := 33) (Mc := mX9_isSpared) (o := 71) (rest := []) cf_X9_248 cv_X9_isSpared kd_71 rfl ⟨Nat.le_of_ble_eq_true rfl, Nat.le_of_ble_eq_true rfl⟩ rfl rfl (Nat.le_of_ble_eq_true rfl) (dget kX9_spareBy 21 rfl) (tX9_isSpared h) (fun r_3 σ_2 h => ?_)
      refine wr_if_eq (pc := 36) (tgt := 58) (dget kX9_spareBy 22 rfl) (by decide) (fun c_4 => ?_) (fun c_4 => ?_)
      · have h := h.1 c_4
        obtain ⟨x2_5, e_x2_5⟩ : ∃ y : Int32, y = x2 + (1 : Int32) := ⟨_, rfl⟩
        have h := h x2_5 e_x2_5
        refine wr_iinc (pc := 58) (v := x2_5) (lv' := [(2, .int x2_5), (0, .ref (G.1 71)), (1, .int x1)]) (dget kX9_spareBy 34 rfl) 2 rfl (by rw [e_x2_5, ic_1]) (by decide) rfl ?_
        refine wr_goto (pc := 61) (tgt := 21) (dget kX9_spareBy 35 rfl) (by decide) ?_
        refine wr_sub [1, 2, 0] rfl ?_
        exact ih _ _ h
      · have h := h.2 c_4
        refine wr_iload_n (pc := 39) (dget kX9_spareBy 23 rfl) 1 rfl ?_
        refine wr_iconst (pc := 40) (dget kX9_spareBy 24 rfl) ic_m1 ?_
        refine wr_icmp_ne (pc := 41) (tgt := 48) (dget kX9_spareBy 25 rfl) (by decide) (fun c_6 => ?_) (fun c_6 => ?_)
        · have h := h.2 c_6
          refine wr_iload_n (pc := 48) (dget kX9_spareBy 28 rfl) 1 rfl ?_
          refine wr_if_ne (pc := 49) (tgt := 56) (dget kX9_spareBy 29 rfl) (by decide) (fun c_7 => ?_) (fun c_7 => ?_)
          · have h := h.2 c_7
            refine wr_iconst (pc := 56) (dget kX9_spareBy 32 rfl) ic_m1 ?_
            exact wr_iret (pc := 57) rfl (dget kX9_spareBy 33 rfl) ⟨_, rfl, h⟩
          · have h := h.1 c_7
            refine wr_iload_n (pc := 52) (dget kX9_spareBy 30 rfl) 2 rfl ?_
            refine wr_goto (pc := 53) (tgt := 57) (dget kX9_spareBy 31 rfl) (by decide) ?_
            exact wr_iret (pc := 57) rfl (dget kX9_spareBy 33 rfl) ⟨_, rfl, h⟩
        · have h := h.1 c_6
          refine wr_iconst (pc := 44) (dget kX9_spareBy 26 rfl) ic_1 ?_
          refine wr_goto (pc := 45) (tgt := 57) (dget kX9_spareBy 27 rfl) (by decide) ?_
          exact wr_iret (pc := 57) rfl (dget kX9_spareBy 33 rfl) ⟨_, rfl, h⟩
def vX9_spareBy (p1 : Int32) (σ : Hp) (post : Int32 → Hp → Prop) : Prop := (vX9_isSpared (0 : Int32) σ (fun r_2 σ_1 => ((r_2 = 0 → (∃ fu : Nat, vX9_spareBy_21 post (fun σ_4 => (∃ fu : Nat, vX9_spareBy_66 post (fun σ_5 => post (-1 : Int32) σ_5) p1 fu (0 : Int32) σ_4)) p1 fu (0 : Int32) σ_1)) ∧ (¬ r_2 = 0 → ((p1 = (-1 : Int32) → post (0 : Int32) σ_1) ∧ (¬ p1 = (-1 : Int32) → post (-1 : Int32) σ_1))))))
set_option maxHeartbeats 4000000 in
set_option maxRecDepth 100000 in
theorem tX9_spareBy {G : GT} {p1 : Int32} {σ : Hp} {post : Int32 → Hp → Prop} (h : vX9_spareBy p1 σ post) : CT G mX9_spareBy [.ref (G.1 71), .int p1] σ (LI post) := by
  refine CT.of (by decide +kernel) (Nat.le_of_ble_eq_true rfl) ?_
  show WP G mX9_spareBy 0 [(0, .ref (G.1 71)), (1, .int p1)] [] σ (LI post)
  unfold vX9_spareBy at h
  refine wr_aload_n (pc := 0) (dget kX9_spareBy 0 rfl) 0 rfl ?_
  refine wr_iconst (pc := 1) (dget kX9_spareBy 1 rfl) ic_0 ?_
  refine wr_callVi (pc := 2) (Mc := mX9_isSpared) (o := 71) (rest := []) cf_X9_248 cv_X9_isSpared kd_71 rfl ⟨Nat.le_of_ble_eq_true rfl, Nat.le_of_ble_eq_true rfl⟩ rfl rfl (Nat.le_of_ble_eq_true rfl) (dget kX9_spareBy 2 rfl) (tX9_isSpared h) (fun r_2 σ_1 h => ?_)
  refine wr_if_eq (pc := 5) (tgt := 19) (dget kX9_spareBy 3 rfl) (by decide) (fun c_3 => ?_) (fun c_3 => ?_)
  · have h := h.1 c_3
    refine wr_iconst (pc := 19) (dget kX9_spareBy 11 rfl) ic_0 ?_
    refine wr_istore_n (pc := 20) (lv' := [(2, .int (0 : Int32)), (0, .ref (G.1 71)), (1, .int p1)]) (dget kX9_spareBy 12 rfl) (by decide) rfl ?_
    obtain ⟨fu, h⟩ := h
    refine wr_sub [1, 2, 0] rfl ?_
    refine tX9_spareBy_21 (fun σ_4 h => ?_) fu _ _ h
    refine wr_iconst (pc := 64) (dget kX9_spareBy 36 rfl) ic_0 ?_
    refine wr_istore_n (pc := 65) (lv' := [(2, .int (0 : Int32)), (0, .ref (G.1 71)), (1, .int p1)]) (dget kX9_spareBy 37 rfl) (by decide) rfl ?_
    obtain ⟨fu, h⟩ := h
    refine wr_sub [1, 2, 0] rfl ?_
    refine tX9_spareBy_66 (fun σ_5 h => ?_) fu _ _ h
    refine wr_iconst (pc := 131) (dget kX9_spareBy 75 rfl) ic_m1 ?_
    exact wr_iret (pc := 132) rfl (dget kX9_spareBy 76 rfl) ⟨_, rfl, h⟩
  · have h := h.2 c_3
    refine wr_iload_n (pc := 8) (dget kX9_spareBy 4 rfl) 1 rfl ?_
    refine wr_iconst (pc := 9) (dget kX9_spareBy 5 rfl) ic_m1 ?_
    refine wr_icmp_ne (pc := 10) (tgt := 17) (dget kX9_spareBy 6 rfl) (by decide) (fun c_6 => ?_) (fun c_6 => ?_)
    · have h := h.2 c_6
      refine wr_iconst (pc := 17) (dget kX9_spareBy 9 rfl) ic_m1 ?_
      exact wr_iret (pc := 18) rfl (dget kX9_spareBy 10 rfl) ⟨_, rfl, h⟩
    · have h := h.1 c_6
      refine wr_iconst (pc := 13) (dget kX9_spareBy 7 rfl) ic_0 ?_
      refine wr_goto (pc := 14) (tgt := 18) (dget kX9_spareBy 8 rfl) (by decide) ?_
      exact wr_iret (pc := 18) rfl (dget kX9_spareBy 10 rfl) ⟨_, rfl, h⟩
def vX9_spare (p1 : Int32) (σ : Hp) (post : Int32 → Hp → Prop) : Prop := (vX9_find  σ (fun σ_1 => (vX9_in p1.toInt64 (-1 : Int64) (1 : Int64) σ_1 (fun r_4 σ_3 => ((r_4 = 0 → post (-2 : Int32) σ_3) ∧ (¬ r_4 = 0 → (vX9_spareBy p1 σ_3 (fun r_7 σ_6 => post r_7 σ_6))))))))
set_option maxHeartbeats 4000000 in
set_option maxRecDepth 100000 in
theorem tX9_spare {G : GT} {p1 : Int32} {σ : Hp} {post : Int32 → Hp → Prop} (h : vX9_spare p1 σ post) : CT G mX9_spare [.ref (G.1 71), .int p1] σ (LI post) := by
  refine CT.of (by decide +kernel) (Nat.le_of_ble_eq_true rfl) ?_
  show WP G mX9_spare 0 [(0, .ref (G.1 71)), (1, .int p1)] [] σ (LI post)
  unfold vX9_spare at h
  refine wr_aload_n (pc := 0) (dget kX9_spare 0 rfl) 0 rfl ?_
  refine wr_callVv (pc := 1) (Mc := mX9_find) (o := 71) (rest := []) cf_X9_206 cv_X9_find kd_71 rfl ⟨Nat.le_of_ble_eq_true rfl, Nat.le_of_ble_eq_true rfl⟩ rfl rfl (Nat.le_of_ble_eq_true rfl) (dget kX9_spare 1 rfl) (tX9_find h) (fun σ_1 h => ?_)
  refine wr_iload_n (pc := 4) (dget kX9_spare 2 rfl) 1 rfl ?_
  refine wr_i2l (pc := 5) (dget kX9_spare 3 rfl) rfl ?_
  refine wr_ldc2 (pc := 6) kl_X9_251 (dget kX9_spare 4 rfl) ?_
  refine wr_lconst (pc := 9) (dget kX9_spare 5 rfl) lc_1 ?_
  refine wr_callSi (pc := 10) (Mc := mX9_in) (rest := []) cf_X9_75 cs_X9_in ⟨Nat.le_of_ble_eq_true rfl, Nat.le_of_ble_eq_true rfl⟩ rfl rfl (Nat.le_of_ble_eq_true rfl) (dget kX9_spare 6 rfl) (tX9_in h) (fun r_4 σ_3 h => ?_)
  refine wr_if_eq (pc := 13) (tgt := 24) (dget kX9_spare 7 rfl) (by decide) (fun c_5 => ?_) (fun c_5 => ?_)
  · have h := h.1 c_5
    refine wr_bipush (pc := 24) (dget kX9_spare 12 rfl) bp_m2 ?_
    exact wr_iret (pc := 26) rfl (dget kX9_spare 13 rfl) ⟨_, rfl, h⟩
  · have h := h.2 c_5
    refine wr_aload_n (pc := 16) (dget kX9_spare 8 rfl) 0 rfl ?_
    refine wr_iload_n (pc := 17) (dget kX9_spare 9 rfl) 1 rfl ?_
    refine wr_callVi (pc := 18) (Mc := mX9_spareBy) (o := 71) (rest := []) cf_X9_253 cv_X9_spareBy kd_71 rfl ⟨Nat.le_of_ble_eq_true rfl, Nat.le_of_ble_eq_true rfl⟩ rfl rfl (Nat.le_of_ble_eq_true rfl) (dget kX9_spare 10 rfl) (tX9_spareBy h) (fun r_7 σ_6 h => ?_)
    refine wr_goto (pc := 21) (tgt := 26) (dget kX9_spare 11 rfl) (by decide) ?_
    exact wr_iret (pc := 26) rfl (dget kX9_spare 13 rfl) ⟨_, rfl, h⟩
def vX9_seen (p1 : Int32) (p2 : Int32) (p3 : Int32) (σ : Hp) (post : Int32 → Hp → Prop) : Prop := (vX9_isTick p1 σ (fun r_2 σ_1 => ((r_2 = 0 → post (-2 : Int32) σ_1) ∧ (¬ r_2 = 0 → (vX9_in p2.toInt64 (0 : Int64) (11 : Int64) σ_1 (fun r_5 σ_4 => ((r_5 = 0 → post (-2 : Int32) σ_4) ∧ (¬ r_5 = 0 → (vX9_isTwo p3 σ_4 (fun r_8 σ_7 => ((r_8 = 0 → post (-2 : Int32) σ_7) ∧ (¬ r_8 = 0 → (((σ_7.1 71 24) = (8 : Int32) → post (-4 : Int32) σ_7) ∧ (¬ (σ_7.1 71 24) = (8 : Int32) → (vp_in ((3 : Int32) * (σ_7.1 71 24)) 24 ∧ ∀ σ_12 : Hp, σ_12 = wI σ_7 91 (((3 : Int32) * (σ_7.1 71 24))).toNatClampNeg p1 → (vp_in (((3 : Int32) * (σ_12.1 71 24)) + (1 : Int32)) 24 ∧ ∀ σ_14 : Hp, σ_14 = wI σ_12 91 ((((3 : Int32) * (σ_12.1 71 24)) + (1 : Int32))).toNatClampNeg p2 → (vp_in (((3 : Int32) * (σ_14.1 71 24)) + (2 : Int32)) 24 ∧ ∀ σ_16 : Hp, σ_16 = wI σ_14 91 ((((3 : Int32) * (σ_14.1 71 24)) + (2 : Int32))).toNatClampNeg p3 → (∀ σ_17 : Hp, σ_17 = wI σ_16 71 24 ((σ_16.1 71 24) + (1 : Int32)) → post (σ_17.1 71 24) σ_17))))))))))))))))))
set_option maxHeartbeats 4000000 in
set_option maxRecDepth 100000 in
theorem tX9_seen {G : GT} {p1 : Int32} {p2 : Int32} {p3 : Int32} {σ : Hp} {post : Int32 → Hp → Prop} (h : vX9_seen p1 p2 p3 σ post) : CT G mX9_seen [.ref (G.1 71), .int p1, .int p2, .int p3] σ (LI post) := by
  refine CT.of (by decide +kernel) (Nat.le_of_ble_eq_true rfl) ?_
  show WP G mX9_seen 0 [(0, .ref (G.1 71)), (1, .int p1), (2, .int p2), (3, .int p3)] [] σ (LI post)
  unfold vX9_seen at h
  refine wr_iload_n (pc := 0) (dget kX9_seen 0 rfl) 1 rfl ?_
  refine wr_callSi (pc := 1) (Mc := mX9_isTick) (rest := []) cf_X9_167 cs_X9_isTick ⟨Nat.le_of_ble_eq_true rfl, Nat.le_of_ble_eq_true rfl⟩ rfl rfl (Nat.le_of_ble_eq_true rfl) (dget kX9_seen 1 rfl) (tX9_isTick h) (fun r_2 σ_1 h => ?_)
  refine wr_if_eq (pc := 4) (tgt := 26) (dget kX9_seen 2 rfl) (by decide) (fun c_3 => ?_) (fun c_3 => ?_)
  · have h := h.1 c_3
    refine wr_bipush (pc := 26) (dget kX9_seen 12 rfl) bp_m2 ?_
    exact wr_iret (pc := 28) rfl (dget kX9_seen 13 rfl) ⟨_, rfl, h⟩
  · have h := h.2 c_3
    refine wr_iload_n (pc := 7) (dget kX9_seen 3 rfl) 2 rfl ?_
    refine wr_i2l (pc := 8) (dget kX9_seen 4 rfl) rfl ?_
    refine wr_lconst (pc := 9) (dget kX9_seen 5 rfl) lc_0 ?_
    refine wr_ldc2 (pc := 10) kl_X9_170 (dget kX9_seen 6 rfl) ?_
    refine wr_callSi (pc := 13) (Mc := mX9_in) (rest := []) cf_X9_75 cs_X9_in ⟨Nat.le_of_ble_eq_true rfl, Nat.le_of_ble_eq_true rfl⟩ rfl rfl (Nat.le_of_ble_eq_true rfl) (dget kX9_seen 7 rfl) (tX9_in h) (fun r_5 σ_4 h => ?_)
    refine wr_if_eq (pc := 16) (tgt := 26) (dget kX9_seen 8 rfl) (by decide) (fun c_6 => ?_) (fun c_6 => ?_)
    · have h := h.1 c_6
      refine wr_bipush (pc := 26) (dget kX9_seen 12 rfl) bp_m2 ?_
      exact wr_iret (pc := 28) rfl (dget kX9_seen 13 rfl) ⟨_, rfl, h⟩
    · have h := h.2 c_6
      refine wr_iload_n (pc := 19) (dget kX9_seen 9 rfl) 3 rfl ?_
      refine wr_callSi (pc := 20) (Mc := mX9_isTwo) (rest := []) cf_X9_162 cs_X9_isTwo ⟨Nat.le_of_ble_eq_true rfl, Nat.le_of_ble_eq_true rfl⟩ rfl rfl (Nat.le_of_ble_eq_true rfl) (dget kX9_seen 10 rfl) (tX9_isTwo h) (fun r_8 σ_7 h => ?_)
      refine wr_if_ne (pc := 23) (tgt := 29) (dget kX9_seen 11 rfl) (by decide) (fun c_9 => ?_) (fun c_9 => ?_)
      · have h := h.2 c_9
        refine wr_aload_n (pc := 29) (dget kX9_seen 14 rfl) 0 rfl ?_
        refine wr_getI (pc := 30) (σ := σ_7) fl_X9_256 kd_71 fk_9_24 (dget kX9_seen 15 rfl) ?_
        refine wr_bipush (pc := 33) (dget kX9_seen 16 rfl) bp_8 ?_
        refine wr_icmp_ne (pc := 35) (tgt := 41) (dget kX9_seen 17 rfl) (by decide) (fun c_10 => ?_) (fun c_10 => ?_)
        · have h := h.2 c_10
          refine wr_aload_n (pc := 41) (dget kX9_seen 20 rfl) 0 rfl ?_
          refine wr_getRl (pc := 42) fl_X9_67 kd_71 fk_9_25 rt_71_25 (dget kX9_seen 21 rfl) ?_
          refine wr_iconst (pc := 45) (dget kX9_seen 22 rfl) ic_3 ?_
          refine wr_aload_n (pc := 46) (dget kX9_seen 23 rfl) 0 rfl ?_
          refine wr_getI (pc := 47) (σ := σ_7) fl_X9_256 kd_71 fk_9_24 (dget kX9_seen 24 rfl) ?_
          refine wr_imul (pc := 50) (dget kX9_seen 25 rfl) ?_
          refine wr_iload_n (pc := 51) (dget kX9_seen 26 rfl) 1 rfl ?_
          obtain ⟨q_11, h⟩ := h
          refine wr_iastl (pc := 52) il_91 q_11 (dget kX9_seen 27 rfl) ?_
          refine wr_tops (fun σ_12 e_σ_12 => ?_)
          have h := h σ_12 e_σ_12
          refine wr_aload_n (pc := 53) (dget kX9_seen 28 rfl) 0 rfl ?_
          refine wr_getRl (pc := 54) fl_X9_67 kd_71 fk_9_25 rt_71_25 (dget kX9_seen 29 rfl) ?_
          refine wr_iconst (pc := 57) (dget kX9_seen 30 rfl) ic_3 ?_
          refine wr_aload_n (pc := 58) (dget kX9_seen 31 rfl) 0 rfl ?_
          refine wr_getI (pc := 59) (σ := σ_12) fl_X9_256 kd_71 fk_9_24 (dget kX9_seen 32 rfl) ?_
          refine wr_imul (pc := 62) (dget kX9_seen 33 rfl) ?_
          refine wr_iconst (pc := 63) (dget kX9_seen 34 rfl) ic_1 ?_
          refine wr_iadd (pc := 64) (dget kX9_seen 35 rfl) ?_
          refine wr_iload_n (pc := 65) (dget kX9_seen 36 rfl) 2 rfl ?_
          obtain ⟨q_13, h⟩ := h
          refine wr_iastl (pc := 66) il_91 q_13 (dget kX9_seen 37 rfl) ?_
          refine wr_tops (fun σ_14 e_σ_14 => ?_)
          have h := h σ_14 e_σ_14
          refine wr_aload_n (pc := 67) (dget kX9_seen 38 rfl) 0 rfl ?_
          refine wr_getRl (pc := 68) fl_X9_67 kd_71 fk_9_25 rt_71_25 (dget kX9_seen 39 rfl) ?_
          refine wr_iconst (pc := 71) (dget kX9_seen 40 rfl) ic_3 ?_
          refine wr_aload_n (pc := 72) (dget kX9_seen 41 rfl) 0 rfl ?_
          refine wr_getI (pc := 73) (σ := σ_14) fl_X9_256 kd_71 fk_9_24 (dget kX9_seen 42 rfl) ?_
          refine wr_imul (pc := 76) (dget kX9_seen 43 rfl) ?_
          refine wr_iconst (pc := 77) (dget kX9_seen 44 rfl) ic_2 ?_
          refine wr_iadd (pc := 78) (dget kX9_seen 45 rfl) ?_
          refine wr_iload_n (pc := 79) (dget kX9_seen 46 rfl) 3 rfl ?_
          obtain ⟨q_15, h⟩ := h
          refine wr_iastl (pc := 80) il_91 q_15 (dget kX9_seen 47 rfl) ?_
          refine wr_tops (fun σ_16 e_σ_16 => ?_)
          have h := h σ_16 e_σ_16
          refine wr_aload_n (pc := 81) (dget kX9_seen 48 rfl) 0 rfl ?_
          refine wr_dup (pc := 82) (dget kX9_seen 49 rfl) rfl ?_
          refine wr_getI (pc := 83) (σ := σ_16) fl_X9_256 kd_71 fk_9_24 (dget kX9_seen 50 rfl) ?_
          refine wr_iconst (pc := 86) (dget kX9_seen 51 rfl) ic_1 ?_
          refine wr_iadd (pc := 87) (dget kX9_seen 52 rfl) ?_
          refine wr_putI (pc := 88) fl_X9_256 kd_71 fk_9_24 (vp_nar_int _) rfl (dget kX9_seen 53 rfl) ?_
          refine wr_tops (fun σ_17 e_σ_17 => ?_)
          have h := h σ_17 e_σ_17
          refine wr_aload_n (pc := 91) (dget kX9_seen 54 rfl) 0 rfl ?_
          refine wr_getI (pc := 92) (σ := σ_17) fl_X9_256 kd_71 fk_9_24 (dget kX9_seen 55 rfl) ?_
          exact wr_iret (pc := 95) rfl (dget kX9_seen 56 rfl) ⟨_, rfl, h⟩
        · have h := h.1 c_10
          refine wr_bipush (pc := 38) (dget kX9_seen 18 rfl) bp_m4 ?_
          exact wr_iret (pc := 40) rfl (dget kX9_seen 19 rfl) ⟨_, rfl, h⟩
      · have h := h.1 c_9
        refine wr_bipush (pc := 26) (dget kX9_seen 12 rfl) bp_m2 ?_
        exact wr_iret (pc := 28) rfl (dget kX9_seen 13 rfl) ⟨_, rfl, h⟩
def vX9_forget (σ : Hp) (post : Int32 → Hp → Prop) : Prop := (∀ x1_1 : Int32, x1_1 = (σ.1 71 24) → (∀ σ_2 : Hp, σ_2 = wI σ 71 24 (0 : Int32) → post x1_1 σ_2))
set_option maxHeartbeats 4000000 in
set_option maxRecDepth 100000 in
theorem tX9_forget {G : GT} {σ : Hp} {post : Int32 → Hp → Prop} (h : vX9_forget  σ post) : CT G mX9_forget [.ref (G.1 71)] σ (LI post) := by
  refine CT.of (by decide +kernel) (Nat.le_of_ble_eq_true rfl) ?_
  show WP G mX9_forget 0 [(0, .ref (G.1 71))] [] σ (LI post)
  unfold vX9_forget at h
  refine wr_aload_n (pc := 0) (dget kX9_forget 0 rfl) 0 rfl ?_
  refine wr_getI (pc := 1) (σ := σ) fl_X9_256 kd_71 fk_9_24 (dget kX9_forget 1 rfl) ?_
  refine wr_topi (fun x1_1 e_x1_1 => ?_)
  have h := h x1_1 e_x1_1
  refine wr_istore_n (pc := 4) (lv' := [(1, .int x1_1), (0, .ref (G.1 71))]) (dget kX9_forget 2 rfl) (by decide) rfl ?_
  refine wr_aload_n (pc := 5) (dget kX9_forget 3 rfl) 1 rfl ?_
  refine wr_iconst (pc := 6) (dget kX9_forget 4 rfl) ic_0 ?_
  refine wr_putI (pc := 7) fl_X9_256 kd_71 fk_9_24 (vp_nar_int _) rfl (dget kX9_forget 5 rfl) ?_
  refine wr_tops (fun σ_2 e_σ_2 => ?_)
  have h := h σ_2 e_σ_2
  refine wr_iload_n (pc := 10) (dget kX9_forget 6 rfl) 0 rfl ?_
  exact wr_iret (pc := 11) rfl (dget kX9_forget 7 rfl) ⟨_, rfl, h⟩
def vX9_isSeen_66 (post : Int32 → Hp → Prop) (ex : Int32 → Hp → Prop) (rc : Int32 → Int32 → Hp → Prop) (x2 : Int32) (y0 : Int32) (σ : Hp) : Prop := (vp_in (((3 : Int32) * x2) + (2 : Int32)) 24 ∧ (((σ.1 91 ((((3 : Int32) * x2) + (2 : Int32))).toNatClampNeg) = (1 : Int32) → ((y0 = (1 : Int32) → (∀ x2_8 : Int32, x2_8 = x2 + (1 : Int32) → (rc (1 : Int32) x2_8 σ))) ∧ (¬ y0 = (1 : Int32) → (∀ x2_7 : Int32, x2_7 = x2 + (1 : Int32) → (rc (0 : Int32) x2_7 σ))))) ∧ (¬ (σ.1 91 ((((3 : Int32) * x2) + (2 : Int32))).toNatClampNeg) = (1 : Int32) → ((y0 = (0 : Int32) → (∀ x2_5 : Int32, x2_5 = x2 + (1 : Int32) → (rc (1 : Int32) x2_5 σ))) ∧ (¬ y0 = (0 : Int32) → (∀ x2_4 : Int32, x2_4 = x2 + (1 : Int32) → (rc (0 : Int32) x2_4 σ)))))))
set_option maxHeartbeats 4000000 in
set_option maxRecDepth 100000 in
theorem tX9_isSeen_66 {G : GT} {post : Int32 → Hp → Prop} {ex : Int32 → Hp → Prop} {rc : Int32 → Int32 → Hp → Prop} {x2 : Int32} {y0 : Int32} {σ : Hp} (hex : ∀ (z1 : Int32) (τ : Hp), ex z1 τ → WP G mX9_isSeen 100 [(1, .int z1)] [] τ (LI post)) (hrc : ∀ (z1 : Int32) (z2 : Int32) (τ : Hp), rc z1 z2 τ → WP G mX9_isSeen 8 [(0, .ref (G.1 71)), (1, .int z1), (2, .int z2)] [] τ (LI post)) (h : vX9_isSeen_66 post ex rc x2 y0 σ) : WP G mX9_isSeen 66 [(0, .ref (G.1 71)), (2, .int x2)] [.int y0] σ (LI post) := by
  unfold vX9_isSeen_66 at h
  refine wr_aload_n (pc := 66) (dget kX9_isSeen 43 rfl) 0 rfl ?_
  refine wr_getRl (pc := 67) fl_X9_67 kd_71 fk_9_25 rt_71_25 (dget kX9_isSeen 44 rfl) ?_
  refine wr_iconst (pc := 70) (dget kX9_isSeen 45 rfl) ic_3 ?_
  refine wr_iload_n (pc := 71) (dget kX9_isSeen 46 rfl) 1 rfl ?_
  refine wr_imul (pc := 72) (dget kX9_isSeen 47 rfl) ?_
  refine wr_iconst (pc := 73) (dget kX9_isSeen 48 rfl) ic_2 ?_
  refine wr_iadd (pc := 74) (dget kX9_isSeen 49 rfl) ?_
  obtain ⟨q_1, h⟩ := h
  refine wr_ialdl (pc := 75) (σ := σ) il_91 q_1 (dget kX9_isSeen 50 rfl) ?_
  refine wr_iconst (pc := 76) (dget kX9_isSeen 51 rfl) ic_1 ?_
  refine wr_icmp_ne (pc := 77) (tgt := 84) (dget kX9_isSeen 52 rfl) (by decide) (fun c_2 => ?_) (fun c_2 => ?_)
  · have h := h.2 c_2
    refine wr_iconst (pc := 84) (dget kX9_isSeen 55 rfl) ic_0 ?_
    refine wr_icmp_ne (pc := 85) (tgt := 92) (dget kX9_isSeen 56 rfl) (by decide) (fun c_3 => ?_) (fun c_3 => ?_)
    · have h := h.2 c_3
      refine wr_iconst (pc := 92) (dget kX9_isSeen 59 rfl) ic_0 ?_
      refine wr_istore_n (pc := 93) (lv' := [(1, .int (0 : Int32)), (0, .ref (G.1 71)), (2, .int x2)]) (dget kX9_isSeen 60 rfl) (by decide) rfl ?_
      obtain ⟨x2_4, e_x2_4⟩ : ∃ y : Int32, y = x2 + (1 : Int32) := ⟨_, rfl⟩
      have h := h x2_4 e_x2_4
      refine wr_iinc (pc := 94) (v := x2_4) (lv' := [(2, .int x2_4), (1, .int (0 : Int32)), (0, .ref (G.1 71))]) (dget kX9_isSeen 61 rfl) 2 rfl (by rw [e_x2_4, ic_1]) (by decide) rfl ?_
      refine wr_goto (pc := 97) (tgt := 8) (dget kX9_isSeen 62 rfl) (by decide) ?_
      refine wr_sub [2, 1, 0] rfl ?_
      exact hrc _ _ _ h
    · have h := h.1 c_3
      refine wr_iconst (pc := 88) (dget kX9_isSeen 57 rfl) ic_1 ?_
      refine wr_goto (pc := 89) (tgt := 93) (dget kX9_isSeen 58 rfl) (by decide) ?_
      refine wr_istore_n (pc := 93) (lv' := [(1, .int (1 : Int32)), (0, .ref (G.1 71)), (2, .int x2)]) (dget kX9_isSeen 60 rfl) (by decide) rfl ?_
      obtain ⟨x2_5, e_x2_5⟩ : ∃ y : Int32, y = x2 + (1 : Int32) := ⟨_, rfl⟩
      have h := h x2_5 e_x2_5
      refine wr_iinc (pc := 94) (v := x2_5) (lv' := [(2, .int x2_5), (1, .int (1 : Int32)), (0, .ref (G.1 71))]) (dget kX9_isSeen 61 rfl) 2 rfl (by rw [e_x2_5, ic_1]) (by decide) rfl ?_
      refine wr_goto (pc := 97) (tgt := 8) (dget kX9_isSeen 62 rfl) (by decide) ?_
      refine wr_sub [2, 1, 0] rfl ?_
      exact hrc _ _ _ h
  · have h := h.1 c_2
    refine wr_iconst (pc := 80) (dget kX9_isSeen 53 rfl) ic_1 ?_
    refine wr_goto (pc := 81) (tgt := 85) (dget kX9_isSeen 54 rfl) (by decide) ?_
    refine wr_icmp_ne (pc := 85) (tgt := 92) (dget kX9_isSeen 56 rfl) (by decide) (fun c_6 => ?_) (fun c_6 => ?_)
    · have h := h.2 c_6
      refine wr_iconst (pc := 92) (dget kX9_isSeen 59 rfl) ic_0 ?_
      refine wr_istore_n (pc := 93) (lv' := [(1, .int (0 : Int32)), (0, .ref (G.1 71)), (2, .int x2)]) (dget kX9_isSeen 60 rfl) (by decide) rfl ?_
      obtain ⟨x2_7, e_x2_7⟩ : ∃ y : Int32, y = x2 + (1 : Int32) := ⟨_, rfl⟩
      have h := h x2_7 e_x2_7
      refine wr_iinc (pc := 94) (v := x2_7) (lv' := [(2, .int x2_7), (1, .int (0 : Int32)), (0, .ref (G.1 71))]) (dget kX9_isSeen 61 rfl) 2 rfl (by rw [e_x2_7, ic_1]) (by decide) rfl ?_
      refine wr_goto (pc := 97) (tgt := 8) (dget kX9_isSeen 62 rfl) (by decide) ?_
      refine wr_sub [2, 1, 0] rfl ?_
      exact hrc _ _ _ h
    · have h := h.1 c_6
      refine wr_iconst (pc := 88) (dget kX9_isSeen 57 rfl) ic_1 ?_
      refine wr_goto (pc := 89) (tgt := 93) (dget kX9_isSeen 58 rfl) (by decide) ?_
      refine wr_istore_n (pc := 93) (lv' := [(1, .int (1 : Int32)), (0, .ref (G.1 71)), (2, .int x2)]) (dget kX9_isSeen 60 rfl) (by decide) rfl ?_
      obtain ⟨x2_8, e_x2_8⟩ : ∃ y : Int32, y = x2 + (1 : Int32) := ⟨_, rfl⟩
      have h := h x2_8 e_x2_8
      refine wr_iinc (pc := 94) (v := x2_8) (lv' := [(2, .int x2_8), (1, .int (1 : Int32)), (0, .ref (G.1 71))]) (dget kX9_isSeen 61 rfl) 2 rfl (by rw [e_x2_8, ic_1]) (by decide) rfl ?_
      refine wr_goto (pc := 97) (tgt := 8) (dget kX9_isSeen 62 rfl) (by decide) ?_
      refine wr_sub [2, 1, 0] rfl ?_
      exact hrc _ _ _ h
def vX9_isSeen_8 (post : Int32 → Hp → Prop) (ex : Int32 → Hp → Prop) : Nat → Int32 → Int32 → Hp → Prop
  | 0 => fun _ _ _ => False
  | n + 1 => fun x1 x2 σ => (((σ.1 71 24) ≤ x2 → (ex x1 σ)) ∧ (¬ (σ.1 71 24) ≤ x2 → (vp_in (((3 : Int32) * x2) + (1 : Int32)) 24 ∧ (∀ x3_3 : Int32, x3_3 = (σ.1 91 ((((3 : Int32) * x2) + (1 : Int32))).toNatClampNeg) → ((x1 = 0 → (∀ x2_5 : Int32, x2_5 = x2 + (1 : Int32) → vX9_isSeen_8 post ex  n (0 : Int32) x2_5 σ)) ∧ (¬ x1 = 0 → (vX9_isDuck x3_3 σ (fun r_7 σ_6 => ((r_7 = 0 → (∀ x2_9 : Int32, x2_9 = x2 + (1 : Int32) → vX9_isSeen_8 post ex  n (0 : Int32) x2_9 σ_6)) ∧ (¬ r_7 = 0 → (vp_in ((3 : Int32) * x2) 24 ∧ (vp_in (((12 : Int32) * (σ_6.1 91 (((3 : Int32) * x2)).toNatClampNeg)) + x3_3) 288 ∧ (((σ_6.1 89 ((((12 : Int32) * (σ_6.1 91 (((3 : Int32) * x2)).toNatClampNeg)) + x3_3)).toNatClampNeg) = (2 : Int32) → vX9_isSeen_66 post ex (vX9_isSeen_8 post ex  n) x2 (1 : Int32) σ_6) ∧ (¬ (σ_6.1 89 ((((12 : Int32) * (σ_6.1 91 (((3 : Int32) * x2)).toNatClampNeg)) + x3_3)).toNatClampNeg) = (2 : Int32) → vX9_isSeen_66 post ex (vX9_isSeen_8 post ex  n) x2 (0 : Int32) σ_6))))))))))))))
set_option maxHeartbeats 4000000 in
set_option maxRecDepth 100000 in
theorem tX9_isSeen_8 {G : GT} {post : Int32 → Hp → Prop} {ex : Int32 → Hp → Prop} (hex : ∀ (z1 : Int32) (τ : Hp), ex z1 τ → WP G mX9_isSeen 100 [(1, .int z1)] [] τ (LI post)) : ∀ (n : Nat) (x1 : Int32) (x2 : Int32) (σ : Hp), vX9_isSeen_8 post ex  n x1 x2 σ → WP G mX9_isSeen 8 [(0, .ref (G.1 71)), (1, .int x1), (2, .int x2)] [] σ (LI post) := by
  intro n
  induction n with
  | zero => intro x1 x2 σ h; exact False.elim h
  | succ n ih =>
    intro x1 x2 σ h
    simp only [vX9_isSeen_8] at h
    refine wr_iload_n (pc := 8) (dget kX9_isSeen 6 rfl) 2 rfl ?_
    refine wr_aload_n (pc := 9) (dget kX9_isSeen 7 rfl) 0 rfl ?_
    refine wr_getI (pc := 10) (σ := σ) fl_X9_256 kd_71 fk_9_24 (dget kX9_isSeen 8 rfl) ?_
    refine wr_icmp_ge (pc := 13) (tgt := 100) (dget kX9_isSeen 9 rfl) (by decide) (fun c_1 => ?_) (fun c_1 => ?_)
    · have h := h.1 c_1
      refine wr_sub [1] rfl ?_
      exact hex _ _ h
    · have h := h.2 c_1
      refine wr_aload_n (pc := 16) (dget kX9_isSeen 10 rfl) 0 rfl ?_
      refine wr_getRl (pc := 17) fl_X9_67 kd_71 fk_9_25 rt_71_25 (dget kX9_isSeen 11 rfl) ?_
      refine wr_iconst (pc := 20) (dget kX9_isSeen 12 rfl) ic_3 ?_
      refine wr_iload_n (pc := 21) (dget kX9_isSeen 13 rfl) 2 rfl ?_
      refine wr_imul (pc := 22) (dget kX9_isSeen 14 rfl) ?_
      refine wr_iconst (pc := 23) (dget kX9_isSeen 15 rfl) ic_1 ?_
      refine wr_iadd (pc := 24) (dget kX9_isSeen 16 rfl) ?_
      obtain ⟨q_2, h⟩ := h
      refine wr_ialdl (pc := 25) (σ := σ) il_91 q_2 (dget kX9_isSeen 17 rfl) ?_
      refine wr_topi (fun x3_3 e_x3_3 => ?_)
      have h := h x3_3 e_x3_3
      refine wr_istore_n (pc := 26) (lv' := [(3, .int x3_3), (0, .ref (G.1 71)), (1, .int x1), (2, .int x2)]) (dget kX9_isSeen 18 rfl) (by decide) rfl ?_
      refine wr_iload_n (pc := 27) (dget kX9_isSeen 19 rfl) 2 rfl ?_
      refine wr_if_eq (pc := 28) (tgt := 92) (dget kX9_isSeen 20 rfl) (by decide) (fun c_4 => ?_) (fun c_4 => ?_)
      · have h := h.1 c_4
        refine wr_iconst (pc := 92) (dget kX9_isSeen 59 rfl) ic_0 ?_
        refine wr_istore_n (pc := 93) (lv' := [(1, .int (0 : Int32)), (3, .int x3_3), (0, .ref (G.1 71)), (2, .int x2)]) (dget kX9_isSeen 60 rfl) (by decide) rfl ?_
        obtain ⟨x2_5, e_x2_5⟩ : ∃ y : Int32, y = x2 + (1 : Int32) := ⟨_, rfl⟩
        have h := h x2_5 e_x2_5
        refine wr_iinc (pc := 94) (v := x2_5) (lv' := [(2, .int x2_5), (1, .int (0 : Int32)), (3, .int x3_3), (0, .ref (G.1 71))]) (dget kX9_isSeen 61 rfl) 3 rfl (by rw [e_x2_5, ic_1]) (by decide) rfl ?_
        refine wr_goto (pc := 97) (tgt := 8) (dget kX9_isSeen 62 rfl) (by decide) ?_
        refine wr_sub [3, 1, 0] rfl ?_
        exact ih _ _ _ h
      · have h := h.2 c_4
        refine wr_aload_n (pc := 31) (dget kX9_isSeen 21 rfl) 1 rfl ?_
        refine wr_iload_n (pc := 32) (dget kX9_isSeen 22 rfl) 0 rfl ?_
        refine wr_callVi (pc := 33) (Mc := mX9_isDuck) (o := 71) (rest := []) cf_X9_156 cv_X9_isDuck kd_71 rfl ⟨Nat.le_of_ble_eq_true rfl, Nat.le_of_ble_eq_true rfl⟩ rfl rfl (Nat.le_of_ble_eq_true rfl) (dget kX9_isSeen 23 rfl) (tX9_isDuck h) (fun r_7 σ_6 h => ?_)
        refine wr_if_eq (pc := 36) (tgt := 92) (dget kX9_isSeen 24 rfl) (by decide) (fun c_8 => ?_) (fun c_8 => ?_)
        · have h := h.1 c_8
          refine wr_iconst (pc := 92) (dget kX9_isSeen 59 rfl) ic_0 ?_
          refine wr_istore_n (pc := 93) (lv' := [(1, .int (0 : Int32)), (3, .int x3_3), (0, .ref (G.1 71)), (2, .int x2)]) (dget kX9_isSeen 60 rfl) (by decide) rfl ?_
          obtain ⟨x2_9, e_x2_9⟩ : ∃ y : Int32, y = x2 + (1 : Int32) := ⟨_, rfl⟩
          have h := h x2_9 e_x2_9
          refine wr_iinc (pc := 94) (v := x2_9) (lv' := [(2, .int x2_9), (1, .int (0 : Int32)), (3, .int x3_3), (0, .ref (G.1 71))]) (dget kX9_isSeen 61 rfl) 3 rfl (by rw [e_x2_9, ic_1]) (by decide) rfl ?_
          refine wr_goto (pc := 97) (tgt := 8) (dget kX9_isSeen 62 rfl) (by decide) ?_
          refine wr_sub [3, 1, 0] rfl ?_
          exact ih _ _ _ h
        · have h := h.2 c_8
          refine wr_aload_n (pc := 39) (dget kX9_isSeen 25 rfl) 1 rfl ?_
          refine wr_getRl (pc := 40) fl_X9_61 kd_71 fk_9_22 rt_71_22 (dget kX9_isSeen 26 rfl) ?_
          refine wr_bipush (pc := 43) (dget kX9_isSeen 27 rfl) bp_12 ?_
          refine wr_aload_n (pc := 45) (dget kX9_isSeen 28 rfl) 1 rfl ?_
          refine wr_getRl (pc := 46) fl_X9_67 kd_71 fk_9_25 rt_71_25 (dget kX9_isSeen 29 rfl) ?_
          refine wr_iconst (pc := 49) (dget kX9_isSeen 30 rfl) ic_3 ?_
          refine wr_iload_n (pc := 50) (dget kX9_isSeen 31 rfl) 3 rfl ?_
          refine wr_imul (pc := 51) (dget kX9_isSeen 32 rfl) ?_
          obtain ⟨q_10, h⟩ := h
          refine wr_ialdl (pc := 52) (σ := σ_6) il_91 q_10 (dget kX9_isSeen 33 rfl) ?_
          refine wr_imul (pc := 53) (dget kX9_isSeen 34 rfl) ?_
          refine wr_iload_n (pc := 54) (dget kX9_isSeen 35 rfl) 0 rfl ?_
          refine wr_iadd (pc := 55) (dget kX9_isSeen 36 rfl) ?_
          obtain ⟨q_11, h⟩ := h
          refine wr_ialdl (pc := 56) (σ := σ_6) il_89 q_11 (dget kX9_isSeen 37 rfl) ?_
          refine wr_iconst (pc := 57) (dget kX9_isSeen 38 rfl) ic_2 ?_
          refine wr_icmp_ne (pc := 58) (tgt := 65) (dget kX9_isSeen 39 rfl) (by decide) (fun c_12 => ?_) (fun c_12 => ?_)
          · have h := h.2 c_12
            refine wr_iconst (pc := 65) (dget kX9_isSeen 42 rfl) ic_0 ?_
            refine wr_sub [1, 3] rfl ?_
            exact tX9_isSeen_66 hex ih h
          · have h := h.1 c_12
            refine wr_iconst (pc := 61) (dget kX9_isSeen 40 rfl) ic_1 ?_
            refine wr_goto (pc := 62) (tgt := 66) (dget kX9_isSeen 41 rfl) (by decide) ?_
            refine wr_sub [1, 3] rfl ?_
            exact tX9_isSeen_66 hex ih h
def vX9_isSeen (σ : Hp) (post : Int32 → Hp → Prop) : Prop := (vX9_lives  σ (fun σ_1 => (∃ fu : Nat, vX9_isSeen_8 post (fun z1_3 σ_4 => ((z1_3 = 0 ∨ z1_3 = 1) ∧ post z1_3 σ_4))  fu (1 : Int32) (0 : Int32) σ_1)))
set_option maxHeartbeats 4000000 in
set_option maxRecDepth 100000 in
theorem tX9_isSeen {G : GT} {σ : Hp} {post : Int32 → Hp → Prop} (h : vX9_isSeen  σ post) : CT G mX9_isSeen [.ref (G.1 71)] σ (LI post) := by
  refine CT.of (by decide +kernel) (Nat.le_of_ble_eq_true rfl) ?_
  show WP G mX9_isSeen 0 [(0, .ref (G.1 71))] [] σ (LI post)
  unfold vX9_isSeen at h
  refine wr_aload_n (pc := 0) (dget kX9_isSeen 0 rfl) 0 rfl ?_
  refine wr_callVv (pc := 1) (Mc := mX9_lives) (o := 71) (rest := []) cf_X9_203 cv_X9_lives kd_71 rfl ⟨Nat.le_of_ble_eq_true rfl, Nat.le_of_ble_eq_true rfl⟩ rfl rfl (Nat.le_of_ble_eq_true rfl) (dget kX9_isSeen 1 rfl) (tX9_lives h) (fun σ_1 h => ?_)
  refine wr_iconst (pc := 4) (dget kX9_isSeen 2 rfl) ic_1 ?_
  refine wr_istore_n (pc := 5) (lv' := [(1, .int (1 : Int32)), (0, .ref (G.1 71))]) (dget kX9_isSeen 3 rfl) (by decide) rfl ?_
  refine wr_iconst (pc := 6) (dget kX9_isSeen 4 rfl) ic_0 ?_
  refine wr_istore_n (pc := 7) (lv' := [(2, .int (0 : Int32)), (1, .int (1 : Int32)), (0, .ref (G.1 71))]) (dget kX9_isSeen 5 rfl) (by decide) rfl ?_
  obtain ⟨fu, h⟩ := h
  refine wr_sub [2, 1, 0] rfl ?_
  refine tX9_isSeen_8 (fun z1_3 σ_4 h => ?_) fu _ _ _ h
  refine wr_iload_n (pc := 100) (dget kX9_isSeen 63 rfl) 0 rfl ?_
  obtain ⟨q_5, h⟩ := h
  exact wr_zret (pc := 101) rfl (nar_z q_5) (dget kX9_isSeen 64 rfl) ⟨_, rfl, h⟩
def vX9_neverNow_4 (post : Int32 → Hp → Prop) (ex : Int32 → Hp → Prop) : Nat → Int32 → Int32 → Hp → Prop
  | 0 => fun _ _ _ => False
  | n + 1 => fun x1 x2 σ => (((σ.1 71 13) ≤ x2 → (ex x1 σ)) ∧ (¬ (σ.1 71 13) ≤ x2 → (∀ σ_2 : Hp, σ_2 = wI σ 71 15 ((1 : Int32) <<< (x2 &&& 31)) → (vX9_isSeen  σ_2 (fun r_4 σ_3 => ((r_4 = 0 → (∀ x1_6 : Int32, x1_6 = (x1 ||| (0 : Int32)) → (∀ x2_7 : Int32, x2_7 = x2 + (1 : Int32) → vX9_neverNow_4 post ex  n x1_6 x2_7 σ_3))) ∧ (¬ r_4 = 0 → (∀ x1_8 : Int32, x1_8 = (x1 ||| ((1 : Int32) <<< (x2 &&& 31))) → (∀ x2_9 : Int32, x2_9 = x2 + (1 : Int32) → vX9_neverNow_4 post ex  n x1_8 x2_9 σ_3)))))))))
set_option maxHeartbeats 4000000 in
set_option maxRecDepth 100000 in
theorem tX9_neverNow_4 {G : GT} {post : Int32 → Hp → Prop} {ex : Int32 → Hp → Prop} (hex : ∀ (z1 : Int32) (τ : Hp), ex z1 τ → WP G mX9_neverNow 42 [(0, .ref (G.1 71)), (1, .int z1)] [] τ (LI post)) : ∀ (n : Nat) (x1 : Int32) (x2 : Int32) (σ : Hp), vX9_neverNow_4 post ex  n x1 x2 σ → WP G mX9_neverNow 4 [(0, .ref (G.1 71)), (1, .int x1), (2, .int x2)] [] σ (LI post) := by
  intro n
  induction n with
  | zero => intro x1 x2 σ h; exact False.elim h
  | succ n ih =>
    intro x1 x2 σ h
    simp only [vX9_neverNow_4] at h
    refine wr_iload_n (pc := 4) (dget kX9_neverNow 4 rfl) 2 rfl ?_
    refine wr_aload_n (pc := 5) (dget kX9_neverNow 5 rfl) 0 rfl ?_
    refine wr_getI (pc := 6) (σ := σ) fl_X9_172 kd_71 fk_9_13 (dget kX9_neverNow 6 rfl) ?_
    refine wr_icmp_ge (pc := 9) (tgt := 42) (dget kX9_neverNow 7 rfl) (by decide) (fun c_1 => ?_) (fun c_1 => ?_)
    · have h := h.1 c_1
      refine wr_sub [0, 1] rfl ?_
      exact hex _ _ h
    · have h := h.2 c_1
      refine wr_aload_n (pc := 12) (dget kX9_neverNow 8 rfl) 0 rfl ?_
      refine wr_iconst (pc := 13) (dget kX9_neverNow 9 rfl) ic_1 ?_
      refine wr_iload_n (pc := 14) (dget kX9_neverNow 10 rfl) 2 rfl ?_
      refine wr_ishl (pc := 15) (dget kX9_neverNow 11 rfl) ?_
      refine wr_putI (pc := 16) fl_X9_177 kd_71 fk_9_15 (vp_nar_int _) rfl (dget kX9_neverNow 12 rfl) ?_
      refine wr_tops (fun σ_2 e_σ_2 => ?_)
      have h := h σ_2 e_σ_2
      refine wr_iload_n (pc := 19) (dget kX9_neverNow 13 rfl) 1 rfl ?_
      refine wr_aload_n (pc := 20) (dget kX9_neverNow 14 rfl) 0 rfl ?_
      refine wr_callVi (pc := 21) (Mc := mX9_isSeen) (o := 71) (rest := [.int x1]) cf_X9_259 cv_X9_isSeen kd_71 rfl ⟨Nat.le_of_ble_eq_true rfl, Nat.le_of_ble_eq_true rfl⟩ rfl rfl (Nat.le_of_ble_eq_true rfl) (dget kX9_neverNow 15 rfl) (tX9_isSeen h) (fun r_4 σ_3 h => ?_)
      refine wr_if_eq (pc := 24) (tgt := 33) (dget kX9_neverNow 16 rfl) (by decide) (fun c_5 => ?_) (fun c_5 => ?_)
      · have h := h.1 c_5
        refine wr_iconst (pc := 33) (dget kX9_neverNow 21 rfl) ic_0 ?_
        refine wr_ior (pc := 34) (dget kX9_neverNow 22 rfl) ?_
        refine wr_topi (fun x1_6 e_x1_6 => ?_)
        have h := h x1_6 e_x1_6
        refine wr_istore_n (pc := 35) (lv' := [(1, .int x1_6), (0, .ref (G.1 71)), (2, .int x2)]) (dget kX9_neverNow 23 rfl) (by decide) rfl ?_
        obtain ⟨x2_7, e_x2_7⟩ : ∃ y : Int32, y = x2 + (1 : Int32) := ⟨_, rfl⟩
        have h := h x2_7 e_x2_7
        refine wr_iinc (pc := 36) (v := x2_7) (lv' := [(2, .int x2_7), (1, .int x1_6), (0, .ref (G.1 71))]) (dget kX9_neverNow 24 rfl) 2 rfl (by rw [e_x2_7, ic_1]) (by decide) rfl ?_
        refine wr_goto (pc := 39) (tgt := 4) (dget kX9_neverNow 25 rfl) (by decide) ?_
        refine wr_sub [2, 1, 0] rfl ?_
        exact ih _ _ _ h
      · have h := h.2 c_5
        refine wr_iconst (pc := 27) (dget kX9_neverNow 17 rfl) ic_1 ?_
        refine wr_iload_n (pc := 28) (dget kX9_neverNow 18 rfl) 2 rfl ?_
        refine wr_ishl (pc := 29) (dget kX9_neverNow 19 rfl) ?_
        refine wr_goto (pc := 30) (tgt := 34) (dget kX9_neverNow 20 rfl) (by decide) ?_
        refine wr_ior (pc := 34) (dget kX9_neverNow 22 rfl) ?_
        refine wr_topi (fun x1_8 e_x1_8 => ?_)
        have h := h x1_8 e_x1_8
        refine wr_istore_n (pc := 35) (lv' := [(1, .int x1_8), (0, .ref (G.1 71)), (2, .int x2)]) (dget kX9_neverNow 23 rfl) (by decide) rfl ?_
        obtain ⟨x2_9, e_x2_9⟩ : ∃ y : Int32, y = x2 + (1 : Int32) := ⟨_, rfl⟩
        have h := h x2_9 e_x2_9
        refine wr_iinc (pc := 36) (v := x2_9) (lv' := [(2, .int x2_9), (1, .int x1_8), (0, .ref (G.1 71))]) (dget kX9_neverNow 24 rfl) 2 rfl (by rw [e_x2_9, ic_1]) (by decide) rfl ?_
        refine wr_goto (pc := 39) (tgt := 4) (dget kX9_neverNow 25 rfl) (by decide) ?_
        refine wr_sub [2, 1, 0] rfl ?_
        exact ih _ _ _ h
def vX9_neverNow (σ : Hp) (post : Int32 → Hp → Prop) : Prop := (∃ fu : Nat, vX9_neverNow_4 post (fun z1_1 σ_2 => (∀ σ_3 : Hp, σ_3 = wI σ_2 71 15 (0 : Int32) → post z1_1 σ_3))  fu (0 : Int32) (0 : Int32) σ)
set_option maxHeartbeats 4000000 in
set_option maxRecDepth 100000 in
theorem tX9_neverNow {G : GT} {σ : Hp} {post : Int32 → Hp → Prop} (h : vX9_neverNow  σ post) : CT G mX9_neverNow [.ref (G.1 71)] σ (LI post) := by
  refine CT.of (by decide +kernel) (Nat.le_of_ble_eq_true rfl) ?_
  show WP G mX9_neverNow 0 [(0, .ref (G.1 71))] [] σ (LI post)
  unfold vX9_neverNow at h
  refine wr_iconst (pc := 0) (dget kX9_neverNow 0 rfl) ic_0 ?_
  refine wr_istore_n (pc := 1) (lv' := [(1, .int (0 : Int32)), (0, .ref (G.1 71))]) (dget kX9_neverNow 1 rfl) (by decide) rfl ?_
  refine wr_iconst (pc := 2) (dget kX9_neverNow 2 rfl) ic_0 ?_
  refine wr_istore_n (pc := 3) (lv' := [(2, .int (0 : Int32)), (1, .int (0 : Int32)), (0, .ref (G.1 71))]) (dget kX9_neverNow 3 rfl) (by decide) rfl ?_
  obtain ⟨fu, h⟩ := h
  refine wr_sub [2, 1, 0] rfl ?_
  refine tX9_neverNow_4 (fun z1_1 σ_2 h => ?_) fu _ _ _ h
  refine wr_aload_n (pc := 42) (dget kX9_neverNow 26 rfl) 0 rfl ?_
  refine wr_iconst (pc := 43) (dget kX9_neverNow 27 rfl) ic_0 ?_
  refine wr_putI (pc := 44) fl_X9_177 kd_71 fk_9_15 (vp_nar_int _) rfl (dget kX9_neverNow 28 rfl) ?_
  refine wr_tops (fun σ_3 e_σ_3 => ?_)
  have h := h σ_3 e_σ_3
  refine wr_iload_n (pc := 47) (dget kX9_neverNow 29 rfl) 1 rfl ?_
  exact wr_iret (pc := 48) rfl (dget kX9_neverNow 30 rfl) ⟨_, rfl, h⟩
def vX9_pullsNow_43 (post : Int32 → Hp → Prop) (ex : Hp → Prop) (x1 : Int32) (x2 : Int32) (x3 : Int32) : Nat → Int32 → Hp → Prop
  | 0 => fun _ _ => False
  | n + 1 => fun x4 σ => (((24 : Int32) ≤ x4 → (ex σ)) ∧ (¬ (24 : Int32) ≤ x4 → (vX9_downBits x4 σ (fun r_3 σ_2 => (vp_in (((24 : Int32) * x3) + x4) 120 ∧ ∀ σ_5 : Hp, σ_5 = wI σ_2 92 ((((24 : Int32) * x3) + x4)).toNatClampNeg r_3 → (∀ x4_6 : Int32, x4_6 = x4 + (1 : Int32) → vX9_pullsNow_43 post ex x1 x2 x3 n x4_6 σ_5))))))
set_option maxHeartbeats 4000000 in
set_option maxRecDepth 100000 in
theorem tX9_pullsNow_43 {G : GT} {post : Int32 → Hp → Prop} {ex : Hp → Prop} {x1 : Int32} {x2 : Int32} {x3 : Int32} (hex : ∀  (τ : Hp), ex  τ → WP G mX9_pullsNow 74 [(0, .ref (G.1 71)), (1, .int x1), (2, .int x2), (3, .int x3)] [] τ (LI post)) : ∀ (n : Nat) (x4 : Int32) (σ : Hp), vX9_pullsNow_43 post ex x1 x2 x3 n x4 σ → WP G mX9_pullsNow 43 [(0, .ref (G.1 71)), (1, .int x1), (2, .int x2), (3, .int x3), (4, .int x4)] [] σ (LI post) := by
  intro n
  induction n with
  | zero => intro x4 σ h; exact False.elim h
  | succ n ih =>
    intro x4 σ h
    simp only [vX9_pullsNow_43] at h
    refine wr_iload (pc := 43) (dget kX9_pullsNow 30 rfl) 4 rfl ?_
    refine wr_bipush (pc := 45) (dget kX9_pullsNow 31 rfl) bp_24 ?_
    refine wr_icmp_ge (pc := 47) (tgt := 74) (dget kX9_pullsNow 32 rfl) (by decide) (fun c_1 => ?_) (fun c_1 => ?_)
    · have h := h.1 c_1
      refine wr_sub [0, 1, 2, 3] rfl ?_
      exact hex  _ h
    · have h := h.2 c_1
      refine wr_aload_n (pc := 50) (dget kX9_pullsNow 33 rfl) 0 rfl ?_
      refine wr_getRl (pc := 51) fl_X9_70 kd_71 fk_9_26 rt_71_26 (dget kX9_pullsNow 34 rfl) ?_
      refine wr_bipush (pc := 54) (dget kX9_pullsNow 35 rfl) bp_24 ?_
      refine wr_iload_n (pc := 56) (dget kX9_pullsNow 36 rfl) 3 rfl ?_
      refine wr_imul (pc := 57) (dget kX9_pullsNow 37 rfl) ?_
      refine wr_iload (pc := 58) (dget kX9_pullsNow 38 rfl) 4 rfl ?_
      refine wr_iadd (pc := 60) (dget kX9_pullsNow 39 rfl) ?_
      refine wr_aload_n (pc := 61) (dget kX9_pullsNow 40 rfl) 0 rfl ?_
      refine wr_iload (pc := 62) (dget kX9_pullsNow 41 rfl) 4 rfl ?_
      refine wr_callVi (pc := 64) (Mc := mX9_downBits) (o := 71) (rest := [.int (((24 : Int32) * x3) + x4), .ref (G.1 92)]) cf_X9_263 cv_X9_downBits kd_71 rfl ⟨Nat.le_of_ble_eq_true rfl, Nat.le_of_ble_eq_true rfl⟩ rfl rfl (Nat.le_of_ble_eq_true rfl) (dget kX9_pullsNow 42 rfl) (tX9_downBits h) (fun r_3 σ_2 h => ?_)
      obtain ⟨q_4, h⟩ := h
      refine wr_iastl (pc := 67) il_92 q_4 (dget kX9_pullsNow 43 rfl) ?_
      refine wr_tops (fun σ_5 e_σ_5 => ?_)
      have h := h σ_5 e_σ_5
      obtain ⟨x4_6, e_x4_6⟩ : ∃ y : Int32, y = x4 + (1 : Int32) := ⟨_, rfl⟩
      have h := h x4_6 e_x4_6
      refine wr_iinc (pc := 68) (v := x4_6) (lv' := [(4, .int x4_6), (0, .ref (G.1 71)), (1, .int x1), (2, .int x2), (3, .int x3)]) (dget kX9_pullsNow 44 rfl) 4 rfl (by rw [e_x4_6, ic_1]) (by decide) rfl ?_
      refine wr_goto (pc := 71) (tgt := 43) (dget kX9_pullsNow 45 rfl) (by decide) ?_
      refine wr_sub [1, 2, 3, 4, 0] rfl ?_
      exact ih _ _ h
def vX9_pullsNow_11 (post : Int32 → Hp → Prop) (ex : Int32 → Hp → Prop) (x1 : Int32) : Nat → Int32 → Int32 → Hp → Prop
  | 0 => fun _ _ _ => False
  | n + 1 => fun x2 x3 σ => (((5 : Int32) ≤ x3 → (ex x2 σ)) ∧ (¬ (5 : Int32) ≤ x3 → (vp_in (0 : Int32) 2 ∧ ∀ σ_3 : Hp, σ_3 = wI σ 81 (0 : Int32).toNatClampNeg x3 → (vX9_isSeen  σ_3 (fun r_5 σ_4 => ((r_5 = 0 → (∀ x2_7 : Int32, x2_7 = (x2 ||| (0 : Int32)) → (∃ fu : Nat, vX9_pullsNow_43 post (fun σ_8 => (∀ x3_9 : Int32, x3_9 = x3 + (1 : Int32) → vX9_pullsNow_11 post ex x1 n x2_7 x3_9 σ_8)) x1 x2_7 x3 fu (0 : Int32) σ_4))) ∧ (¬ r_5 = 0 → (∀ x2_10 : Int32, x2_10 = (x2 ||| ((1 : Int32) <<< (x3 &&& 31))) → (∃ fu : Nat, vX9_pullsNow_43 post (fun σ_11 => (∀ x3_12 : Int32, x3_12 = x3 + (1 : Int32) → vX9_pullsNow_11 post ex x1 n x2_10 x3_12 σ_11)) x1 x2_10 x3 fu (0 : Int32) σ_4)))))))))
set_option maxHeartbeats 4000000 in
set_option maxRecDepth 100000 in
theorem tX9_pullsNow_11 {G : GT} {post : Int32 → Hp → Prop} {ex : Int32 → Hp → Prop} {x1 : Int32} (hex : ∀ (z2 : Int32) (τ : Hp), ex z2 τ → WP G mX9_pullsNow 80 [(0, .ref (G.1 71)), (1, .int x1), (2, .int z2)] [] τ (LI post)) : ∀ (n : Nat) (x2 : Int32) (x3 : Int32) (σ : Hp), vX9_pullsNow_11 post ex x1 n x2 x3 σ → WP G mX9_pullsNow 11 [(0, .ref (G.1 71)), (1, .int x1), (2, .int x2), (3, .int x3)] [] σ (LI post) := by
  intro n
  induction n with
  | zero => intro x2 x3 σ h; exact False.elim h
  | succ n ih =>
    intro x2 x3 σ h
    simp only [vX9_pullsNow_11] at h
    refine wr_iload_n (pc := 11) (dget kX9_pullsNow 9 rfl) 3 rfl ?_
    refine wr_iconst (pc := 12) (dget kX9_pullsNow 10 rfl) ic_5 ?_
    refine wr_icmp_ge (pc := 13) (tgt := 80) (dget kX9_pullsNow 11 rfl) (by decide) (fun c_1 => ?_) (fun c_1 => ?_)
    · have h := h.1 c_1
      refine wr_sub [0, 1, 2] rfl ?_
      exact hex _ _ h
    · have h := h.2 c_1
      refine wr_aload_n (pc := 16) (dget kX9_pullsNow 12 rfl) 0 rfl ?_
      refine wr_getRl (pc := 17) fl_X9_37 kd_71 fk_9_12 rt_71_12 (dget kX9_pullsNow 13 rfl) ?_
      refine wr_iconst (pc := 20) (dget kX9_pullsNow 14 rfl) ic_0 ?_
      refine wr_iload_n (pc := 21) (dget kX9_pullsNow 15 rfl) 3 rfl ?_
      obtain ⟨q_2, h⟩ := h
      refine wr_iastl (pc := 22) il_81 q_2 (dget kX9_pullsNow 16 rfl) ?_
      refine wr_tops (fun σ_3 e_σ_3 => ?_)
      have h := h σ_3 e_σ_3
      refine wr_iload_n (pc := 23) (dget kX9_pullsNow 17 rfl) 2 rfl ?_
      refine wr_aload_n (pc := 24) (dget kX9_pullsNow 18 rfl) 0 rfl ?_
      refine wr_callVi (pc := 25) (Mc := mX9_isSeen) (o := 71) (rest := [.int x2]) cf_X9_259 cv_X9_isSeen kd_71 rfl ⟨Nat.le_of_ble_eq_true rfl, Nat.le_of_ble_eq_true rfl⟩ rfl rfl (Nat.le_of_ble_eq_true rfl) (dget kX9_pullsNow 19 rfl) (tX9_isSeen h) (fun r_5 σ_4 h => ?_)
      refine wr_if_eq (pc := 28) (tgt := 37) (dget kX9_pullsNow 20 rfl) (by decide) (fun c_6 => ?_) (fun c_6 => ?_)
      · have h := h.1 c_6
        refine wr_iconst (pc := 37) (dget kX9_pullsNow 25 rfl) ic_0 ?_
        refine wr_ior (pc := 38) (dget kX9_pullsNow 26 rfl) ?_
        refine wr_topi (fun x2_7 e_x2_7 => ?_)
        have h := h x2_7 e_x2_7
        refine wr_istore_n (pc := 39) (lv' := [(2, .int x2_7), (0, .ref (G.1 71)), (1, .int x1), (3, .int x3)]) (dget kX9_pullsNow 27 rfl) (by decide) rfl ?_
        refine wr_iconst (pc := 40) (dget kX9_pullsNow 28 rfl) ic_0 ?_
        refine wr_istore (pc := 41) (lv' := [(4, .int (0 : Int32)), (2, .int x2_7), (0, .ref (G.1 71)), (1, .int x1), (3, .int x3)]) (dget kX9_pullsNow 29 rfl) (by decide) rfl ?_
        obtain ⟨fu, h⟩ := h
        refine wr_sub [2, 3, 1, 4, 0] rfl ?_
        refine tX9_pullsNow_43 (fun σ_8 h => ?_) fu _ _ h
        obtain ⟨x3_9, e_x3_9⟩ : ∃ y : Int32, y = x3 + (1 : Int32) := ⟨_, rfl⟩
        have h := h x3_9 e_x3_9
        refine wr_iinc (pc := 74) (v := x3_9) (lv' := [(3, .int x3_9), (0, .ref (G.1 71)), (1, .int x1), (2, .int x2_7)]) (dget kX9_pullsNow 46 rfl) 3 rfl (by rw [e_x3_9, ic_1]) (by decide) rfl ?_
        refine wr_goto (pc := 77) (tgt := 11) (dget kX9_pullsNow 47 rfl) (by decide) ?_
        refine wr_sub [1, 2, 3, 0] rfl ?_
        exact ih _ _ _ h
      · have h := h.2 c_6
        refine wr_iconst (pc := 31) (dget kX9_pullsNow 21 rfl) ic_1 ?_
        refine wr_iload_n (pc := 32) (dget kX9_pullsNow 22 rfl) 3 rfl ?_
        refine wr_ishl (pc := 33) (dget kX9_pullsNow 23 rfl) ?_
        refine wr_goto (pc := 34) (tgt := 38) (dget kX9_pullsNow 24 rfl) (by decide) ?_
        refine wr_ior (pc := 38) (dget kX9_pullsNow 26 rfl) ?_
        refine wr_topi (fun x2_10 e_x2_10 => ?_)
        have h := h x2_10 e_x2_10
        refine wr_istore_n (pc := 39) (lv' := [(2, .int x2_10), (0, .ref (G.1 71)), (1, .int x1), (3, .int x3)]) (dget kX9_pullsNow 27 rfl) (by decide) rfl ?_
        refine wr_iconst (pc := 40) (dget kX9_pullsNow 28 rfl) ic_0 ?_
        refine wr_istore (pc := 41) (lv' := [(4, .int (0 : Int32)), (2, .int x2_10), (0, .ref (G.1 71)), (1, .int x1), (3, .int x3)]) (dget kX9_pullsNow 29 rfl) (by decide) rfl ?_
        obtain ⟨fu, h⟩ := h
        refine wr_sub [2, 3, 1, 4, 0] rfl ?_
        refine tX9_pullsNow_43 (fun σ_11 h => ?_) fu _ _ h
        obtain ⟨x3_12, e_x3_12⟩ : ∃ y : Int32, y = x3 + (1 : Int32) := ⟨_, rfl⟩
        have h := h x3_12 e_x3_12
        refine wr_iinc (pc := 74) (v := x3_12) (lv' := [(3, .int x3_12), (0, .ref (G.1 71)), (1, .int x1), (2, .int x2_10)]) (dget kX9_pullsNow 46 rfl) 3 rfl (by rw [e_x3_12, ic_1]) (by decide) rfl ?_
        refine wr_goto (pc := 77) (tgt := 11) (dget kX9_pullsNow 47 rfl) (by decide) ?_
        refine wr_sub [1, 2, 3, 0] rfl ?_
        exact ih _ _ _ h
def vX9_pullsNow (σ : Hp) (post : Int32 → Hp → Prop) : Prop := (vp_in (0 : Int32) 2 ∧ (∀ x1_2 : Int32, x1_2 = (σ.1 81 (0 : Int32).toNatClampNeg) → (∃ fu : Nat, vX9_pullsNow_11 post (fun z2_3 σ_4 => (vp_in (0 : Int32) 2 ∧ ∀ σ_6 : Hp, σ_6 = wI σ_4 81 (0 : Int32).toNatClampNeg x1_2 → post z2_3 σ_6)) x1_2 fu (0 : Int32) (0 : Int32) σ)))
set_option maxHeartbeats 4000000 in
set_option maxRecDepth 100000 in
theorem tX9_pullsNow {G : GT} {σ : Hp} {post : Int32 → Hp → Prop} (h : vX9_pullsNow  σ post) : CT G mX9_pullsNow [.ref (G.1 71)] σ (LI post) := by
  refine CT.of (by decide +kernel) (Nat.le_of_ble_eq_true rfl) ?_
  show WP G mX9_pullsNow 0 [(0, .ref (G.1 71))] [] σ (LI post)
  unfold vX9_pullsNow at h
  refine wr_aload_n (pc := 0) (dget kX9_pullsNow 0 rfl) 0 rfl ?_
  refine wr_getRl (pc := 1) fl_X9_37 kd_71 fk_9_12 rt_71_12 (dget kX9_pullsNow 1 rfl) ?_
  refine wr_iconst (pc := 4) (dget kX9_pullsNow 2 rfl) ic_0 ?_
  obtain ⟨q_1, h⟩ := h
  refine wr_ialdl (pc := 5) (σ := σ) il_81 q_1 (dget kX9_pullsNow 3 rfl) ?_
  refine wr_topi (fun x1_2 e_x1_2 => ?_)
  have h := h x1_2 e_x1_2
  refine wr_istore_n (pc := 6) (lv' := [(1, .int x1_2), (0, .ref (G.1 71))]) (dget kX9_pullsNow 4 rfl) (by decide) rfl ?_
  refine wr_iconst (pc := 7) (dget kX9_pullsNow 5 rfl) ic_0 ?_
  refine wr_istore_n (pc := 8) (lv' := [(2, .int (0 : Int32)), (1, .int x1_2), (0, .ref (G.1 71))]) (dget kX9_pullsNow 6 rfl) (by decide) rfl ?_
  refine wr_iconst (pc := 9) (dget kX9_pullsNow 7 rfl) ic_0 ?_
  refine wr_istore_n (pc := 10) (lv' := [(3, .int (0 : Int32)), (2, .int (0 : Int32)), (1, .int x1_2), (0, .ref (G.1 71))]) (dget kX9_pullsNow 8 rfl) (by decide) rfl ?_
  obtain ⟨fu, h⟩ := h
  refine wr_sub [3, 2, 1, 0] rfl ?_
  refine tX9_pullsNow_11 (fun z2_3 σ_4 h => ?_) fu _ _ _ h
  refine wr_aload_n (pc := 80) (dget kX9_pullsNow 48 rfl) 0 rfl ?_
  refine wr_getRl (pc := 81) fl_X9_37 kd_71 fk_9_12 rt_71_12 (dget kX9_pullsNow 49 rfl) ?_
  refine wr_iconst (pc := 84) (dget kX9_pullsNow 50 rfl) ic_0 ?_
  refine wr_iload_n (pc := 85) (dget kX9_pullsNow 51 rfl) 1 rfl ?_
  obtain ⟨q_5, h⟩ := h
  refine wr_iastl (pc := 86) il_81 q_5 (dget kX9_pullsNow 52 rfl) ?_
  refine wr_tops (fun σ_6 e_σ_6 => ?_)
  have h := h σ_6 e_σ_6
  refine wr_iload_n (pc := 87) (dget kX9_pullsNow 53 rfl) 2 rfl ?_
  exact wr_iret (pc := 88) rfl (dget kX9_pullsNow 54 rfl) ⟨_, rfl, h⟩
def vX9_mightBy (p1 : Int32) (σ : Hp) (post : Int32 → Hp → Prop) : Prop := ((p1 = 0 → (vX9_neverNow  σ (fun r_5 σ_4 => post r_5 σ_4))) ∧ (¬ p1 = 0 → (vX9_pullsNow  σ (fun r_3 σ_2 => post r_3 σ_2))))
set_option maxHeartbeats 4000000 in
set_option maxRecDepth 100000 in
theorem tX9_mightBy {G : GT} {p1 : Int32} {σ : Hp} {post : Int32 → Hp → Prop} (h : vX9_mightBy p1 σ post) : CT G mX9_mightBy [.ref (G.1 71), .int p1] σ (LI post) := by
  refine CT.of (by decide +kernel) (Nat.le_of_ble_eq_true rfl) ?_
  show WP G mX9_mightBy 0 [(0, .ref (G.1 71)), (1, .int p1)] [] σ (LI post)
  unfold vX9_mightBy at h
  refine wr_iload_n (pc := 0) (dget kX9_mightBy 0 rfl) 1 rfl ?_
  refine wr_if_ne (pc := 1) (tgt := 11) (dget kX9_mightBy 1 rfl) (by decide) (fun c_1 => ?_) (fun c_1 => ?_)
  · have h := h.2 c_1
    refine wr_aload_n (pc := 11) (dget kX9_mightBy 5 rfl) 0 rfl ?_
    refine wr_callVi (pc := 12) (Mc := mX9_pullsNow) (o := 71) (rest := []) cf_X9_269 cv_X9_pullsNow kd_71 rfl ⟨Nat.le_of_ble_eq_true rfl, Nat.le_of_ble_eq_true rfl⟩ rfl rfl (Nat.le_of_ble_eq_true rfl) (dget kX9_mightBy 6 rfl) (tX9_pullsNow h) (fun r_3 σ_2 h => ?_)
    exact wr_iret (pc := 15) rfl (dget kX9_mightBy 7 rfl) ⟨_, rfl, h⟩
  · have h := h.1 c_1
    refine wr_aload_n (pc := 4) (dget kX9_mightBy 2 rfl) 0 rfl ?_
    refine wr_callVi (pc := 5) (Mc := mX9_neverNow) (o := 71) (rest := []) cf_X9_266 cv_X9_neverNow kd_71 rfl ⟨Nat.le_of_ble_eq_true rfl, Nat.le_of_ble_eq_true rfl⟩ rfl rfl (Nat.le_of_ble_eq_true rfl) (dget kX9_mightBy 3 rfl) (tX9_neverNow h) (fun r_5 σ_4 h => ?_)
    refine wr_goto (pc := 8) (tgt := 15) (dget kX9_mightBy 4 rfl) (by decide) ?_
    exact wr_iret (pc := 15) rfl (dget kX9_mightBy 7 rfl) ⟨_, rfl, h⟩
def vX9_might (p1 : Int32) (σ : Hp) (post : Int32 → Hp → Prop) : Prop := (vX9_find  σ (fun σ_1 => (vX9_isTwo p1 σ_1 (fun r_4 σ_3 => ((r_4 = 0 → post (-2 : Int32) σ_3) ∧ (¬ r_4 = 0 → (vX9_mightBy p1 σ_3 (fun r_7 σ_6 => post r_7 σ_6))))))))
set_option maxHeartbeats 4000000 in
set_option maxRecDepth 100000 in
theorem tX9_might {G : GT} {p1 : Int32} {σ : Hp} {post : Int32 → Hp → Prop} (h : vX9_might p1 σ post) : CT G mX9_might [.ref (G.1 71), .int p1] σ (LI post) := by
  refine CT.of (by decide +kernel) (Nat.le_of_ble_eq_true rfl) ?_
  show WP G mX9_might 0 [(0, .ref (G.1 71)), (1, .int p1)] [] σ (LI post)
  unfold vX9_might at h
  refine wr_aload_n (pc := 0) (dget kX9_might 0 rfl) 0 rfl ?_
  refine wr_callVv (pc := 1) (Mc := mX9_find) (o := 71) (rest := []) cf_X9_206 cv_X9_find kd_71 rfl ⟨Nat.le_of_ble_eq_true rfl, Nat.le_of_ble_eq_true rfl⟩ rfl rfl (Nat.le_of_ble_eq_true rfl) (dget kX9_might 1 rfl) (tX9_find h) (fun σ_1 h => ?_)
  refine wr_iload_n (pc := 4) (dget kX9_might 2 rfl) 1 rfl ?_
  refine wr_callSi (pc := 5) (Mc := mX9_isTwo) (rest := []) cf_X9_162 cs_X9_isTwo ⟨Nat.le_of_ble_eq_true rfl, Nat.le_of_ble_eq_true rfl⟩ rfl rfl (Nat.le_of_ble_eq_true rfl) (dget kX9_might 3 rfl) (tX9_isTwo h) (fun r_4 σ_3 h => ?_)
  refine wr_if_eq (pc := 8) (tgt := 19) (dget kX9_might 4 rfl) (by decide) (fun c_5 => ?_) (fun c_5 => ?_)
  · have h := h.1 c_5
    refine wr_bipush (pc := 19) (dget kX9_might 9 rfl) bp_m2 ?_
    exact wr_iret (pc := 21) rfl (dget kX9_might 10 rfl) ⟨_, rfl, h⟩
  · have h := h.2 c_5
    refine wr_aload_n (pc := 11) (dget kX9_might 5 rfl) 0 rfl ?_
    refine wr_iload_n (pc := 12) (dget kX9_might 6 rfl) 1 rfl ?_
    refine wr_callVi (pc := 13) (Mc := mX9_mightBy) (o := 71) (rest := []) cf_X9_272 cv_X9_mightBy kd_71 rfl ⟨Nat.le_of_ble_eq_true rfl, Nat.le_of_ble_eq_true rfl⟩ rfl rfl (Nat.le_of_ble_eq_true rfl) (dget kX9_might 7 rfl) (tX9_mightBy h) (fun r_7 σ_6 h => ?_)
    refine wr_goto (pc := 16) (tgt := 21) (dget kX9_might 8 rfl) (by decide) ?_
    exact wr_iret (pc := 21) rfl (dget kX9_might 10 rfl) ⟨_, rfl, h⟩
def vX9_kindOf_19 (post : Int32 → Hp → Prop) (ex : Int32 → Hp → Prop) (x2 : Int32) (x3 : Int32) : Nat → Int32 → Int32 → Hp → Prop
  | 0 => fun _ _ _ => False
  | n + 1 => fun x4 x5 σ => (((3 : Int32) ≤ x5 → (ex x4 σ)) ∧ (¬ (3 : Int32) ≤ x5 → (vp_in x2 48 ∧ ∀ σ_3 : Hp, σ_3 = wI σ 79 x2.toNatClampNeg x5 → (vX9_isSeen  σ_3 (fun r_5 σ_4 => ((r_5 = 0 → (∀ x4_7 : Int32, x4_7 = (x4 ||| (0 : Int32)) → (∀ x5_8 : Int32, x5_8 = x5 + (1 : Int32) → vX9_kindOf_19 post ex x2 x3 n x4_7 x5_8 σ_4))) ∧ (¬ r_5 = 0 → (∀ x4_9 : Int32, x4_9 = (x4 ||| ((1 : Int32) <<< (x5 &&& 31))) → (∀ x5_10 : Int32, x5_10 = x5 + (1 : Int32) → vX9_kindOf_19 post ex x2 x3 n x4_9 x5_10 σ_4)))))))))
set_option maxHeartbeats 4000000 in
set_option maxRecDepth 100000 in
theorem tX9_kindOf_19 {G : GT} {post : Int32 → Hp → Prop} {ex : Int32 → Hp → Prop} {x2 : Int32} {x3 : Int32} (hex : ∀ (z4 : Int32) (τ : Hp), ex z4 τ → WP G mX9_kindOf 59 [(0, .ref (G.1 71)), (2, .int x2), (3, .int x3), (4, .int z4)] [] τ (LI post)) : ∀ (n : Nat) (x4 : Int32) (x5 : Int32) (σ : Hp), vX9_kindOf_19 post ex x2 x3 n x4 x5 σ → WP G mX9_kindOf 19 [(0, .ref (G.1 71)), (2, .int x2), (3, .int x3), (4, .int x4), (5, .int x5)] [] σ (LI post) := by
  intro n
  induction n with
  | zero => intro x4 x5 σ h; exact False.elim h
  | succ n ih =>
    intro x4 x5 σ h
    simp only [vX9_kindOf_19] at h
    refine wr_iload (pc := 19) (dget kX9_kindOf 15 rfl) 4 rfl ?_
    refine wr_iconst (pc := 21) (dget kX9_kindOf 16 rfl) ic_3 ?_
    refine wr_icmp_ge (pc := 22) (tgt := 59) (dget kX9_kindOf 17 rfl) (by decide) (fun c_1 => ?_) (fun c_1 => ?_)
    · have h := h.1 c_1
      refine wr_sub [0, 1, 2, 3] rfl ?_
      exact hex _ _ h
    · have h := h.2 c_1
      refine wr_aload_n (pc := 25) (dget kX9_kindOf 18 rfl) 0 rfl ?_
      refine wr_getRl (pc := 26) fl_X9_31 kd_71 fk_9_9 rt_71_9 (dget kX9_kindOf 19 rfl) ?_
      refine wr_iload_n (pc := 29) (dget kX9_kindOf 20 rfl) 1 rfl ?_
      refine wr_iload (pc := 30) (dget kX9_kindOf 21 rfl) 4 rfl ?_
      obtain ⟨q_2, h⟩ := h
      refine wr_iastl (pc := 32) il_79 q_2 (dget kX9_kindOf 22 rfl) ?_
      refine wr_tops (fun σ_3 e_σ_3 => ?_)
      have h := h σ_3 e_σ_3
      refine wr_iload (pc := 33) (dget kX9_kindOf 23 rfl) 3 rfl ?_
      refine wr_aload_n (pc := 35) (dget kX9_kindOf 24 rfl) 0 rfl ?_
      refine wr_callVi (pc := 36) (Mc := mX9_isSeen) (o := 71) (rest := [.int x4]) cf_X9_259 cv_X9_isSeen kd_71 rfl ⟨Nat.le_of_ble_eq_true rfl, Nat.le_of_ble_eq_true rfl⟩ rfl rfl (Nat.le_of_ble_eq_true rfl) (dget kX9_kindOf 25 rfl) (tX9_isSeen h) (fun r_5 σ_4 h => ?_)
      refine wr_if_eq (pc := 39) (tgt := 49) (dget kX9_kindOf 26 rfl) (by decide) (fun c_6 => ?_) (fun c_6 => ?_)
      · have h := h.1 c_6
        refine wr_iconst (pc := 49) (dget kX9_kindOf 31 rfl) ic_0 ?_
        refine wr_ior (pc := 50) (dget kX9_kindOf 32 rfl) ?_
        refine wr_topi (fun x4_7 e_x4_7 => ?_)
        have h := h x4_7 e_x4_7
        refine wr_istore (pc := 51) (lv' := [(4, .int x4_7), (0, .ref (G.1 71)), (2, .int x2), (3, .int x3), (5, .int x5)]) (dget kX9_kindOf 33 rfl) (by decide) rfl ?_
        obtain ⟨x5_8, e_x5_8⟩ : ∃ y : Int32, y = x5 + (1 : Int32) := ⟨_, rfl⟩
        have h := h x5_8 e_x5_8
        refine wr_iinc (pc := 53) (v := x5_8) (lv' := [(5, .int x5_8), (4, .int x4_7), (0, .ref (G.1 71)), (2, .int x2), (3, .int x3)]) (dget kX9_kindOf 34 rfl) 4 rfl (by rw [e_x5_8, ic_1]) (by decide) rfl ?_
        refine wr_goto (pc := 56) (tgt := 19) (dget kX9_kindOf 35 rfl) (by decide) ?_
        refine wr_sub [2, 3, 4, 1, 0] rfl ?_
        exact ih _ _ _ h
      · have h := h.2 c_6
        refine wr_iconst (pc := 42) (dget kX9_kindOf 27 rfl) ic_1 ?_
        refine wr_iload (pc := 43) (dget kX9_kindOf 28 rfl) 4 rfl ?_
        refine wr_ishl (pc := 45) (dget kX9_kindOf 29 rfl) ?_
        refine wr_goto (pc := 46) (tgt := 50) (dget kX9_kindOf 30 rfl) (by decide) ?_
        refine wr_ior (pc := 50) (dget kX9_kindOf 32 rfl) ?_
        refine wr_topi (fun x4_9 e_x4_9 => ?_)
        have h := h x4_9 e_x4_9
        refine wr_istore (pc := 51) (lv' := [(4, .int x4_9), (0, .ref (G.1 71)), (2, .int x2), (3, .int x3), (5, .int x5)]) (dget kX9_kindOf 33 rfl) (by decide) rfl ?_
        obtain ⟨x5_10, e_x5_10⟩ : ∃ y : Int32, y = x5 + (1 : Int32) := ⟨_, rfl⟩
        have h := h x5_10 e_x5_10
        refine wr_iinc (pc := 53) (v := x5_10) (lv' := [(5, .int x5_10), (4, .int x4_9), (0, .ref (G.1 71)), (2, .int x2), (3, .int x3)]) (dget kX9_kindOf 34 rfl) 4 rfl (by rw [e_x5_10, ic_1]) (by decide) rfl ?_
        refine wr_goto (pc := 56) (tgt := 19) (dget kX9_kindOf 35 rfl) (by decide) ?_
        refine wr_sub [2, 3, 4, 1, 0] rfl ?_
        exact ih _ _ _ h
def vX9_kindOf (p1 : Int32) (σ : Hp) (post : Int32 → Hp → Prop) : Prop := (∀ x2_1 : Int32, x2_1 = (((4 : Int32) * p1) + (2 : Int32)) → (vp_in x2_1 48 ∧ (∀ x3_3 : Int32, x3_3 = (σ.1 79 x2_1.toNatClampNeg) → (∃ fu : Nat, vX9_kindOf_19 post (fun z4_4 σ_5 => (vp_in x2_1 48 ∧ ∀ σ_7 : Hp, σ_7 = wI σ_5 79 x2_1.toNatClampNeg x3_3 → post z4_4 σ_7)) x2_1 x3_3 fu (0 : Int32) (0 : Int32) σ))))
set_option maxHeartbeats 4000000 in
set_option maxRecDepth 100000 in
theorem tX9_kindOf {G : GT} {p1 : Int32} {σ : Hp} {post : Int32 → Hp → Prop} (h : vX9_kindOf p1 σ post) : CT G mX9_kindOf [.ref (G.1 71), .int p1] σ (LI post) := by
  refine CT.of (by decide +kernel) (Nat.le_of_ble_eq_true rfl) ?_
  show WP G mX9_kindOf 0 [(0, .ref (G.1 71)), (1, .int p1)] [] σ (LI post)
  unfold vX9_kindOf at h
  refine wr_iconst (pc := 0) (dget kX9_kindOf 0 rfl) ic_4 ?_
  refine wr_iload_n (pc := 1) (dget kX9_kindOf 1 rfl) 1 rfl ?_
  refine wr_imul (pc := 2) (dget kX9_kindOf 2 rfl) ?_
  refine wr_iconst (pc := 3) (dget kX9_kindOf 3 rfl) ic_2 ?_
  refine wr_iadd (pc := 4) (dget kX9_kindOf 4 rfl) ?_
  refine wr_topi (fun x2_1 e_x2_1 => ?_)
  have h := h x2_1 e_x2_1
  refine wr_istore_n (pc := 5) (lv' := [(2, .int x2_1), (0, .ref (G.1 71)), (1, .int p1)]) (dget kX9_kindOf 5 rfl) (by decide) rfl ?_
  refine wr_aload_n (pc := 6) (dget kX9_kindOf 6 rfl) 1 rfl ?_
  refine wr_getRl (pc := 7) fl_X9_31 kd_71 fk_9_9 rt_71_9 (dget kX9_kindOf 7 rfl) ?_
  refine wr_iload_n (pc := 10) (dget kX9_kindOf 8 rfl) 0 rfl ?_
  obtain ⟨q_2, h⟩ := h
  refine wr_ialdl (pc := 11) (σ := σ) il_79 q_2 (dget kX9_kindOf 9 rfl) ?_
  refine wr_topi (fun x3_3 e_x3_3 => ?_)
  have h := h x3_3 e_x3_3
  refine wr_istore_n (pc := 12) (lv' := [(3, .int x3_3), (2, .int x2_1), (0, .ref (G.1 71)), (1, .int p1)]) (dget kX9_kindOf 10 rfl) (by decide) rfl ?_
  refine wr_iconst (pc := 13) (dget kX9_kindOf 11 rfl) ic_0 ?_
  refine wr_istore (pc := 14) (lv' := [(4, .int (0 : Int32)), (3, .int x3_3), (2, .int x2_1), (0, .ref (G.1 71)), (1, .int p1)]) (dget kX9_kindOf 12 rfl) (by decide) rfl ?_
  refine wr_iconst (pc := 16) (dget kX9_kindOf 13 rfl) ic_0 ?_
  refine wr_istore (pc := 17) (lv' := [(5, .int (0 : Int32)), (4, .int (0 : Int32)), (3, .int x3_3), (2, .int x2_1), (0, .ref (G.1 71)), (1, .int p1)]) (dget kX9_kindOf 14 rfl) (by decide) rfl ?_
  obtain ⟨fu, h⟩ := h
  refine wr_sub [4, 3, 2, 1, 0] rfl ?_
  refine tX9_kindOf_19 (fun z4_4 σ_5 h => ?_) fu _ _ _ h
  refine wr_aload_n (pc := 59) (dget kX9_kindOf 36 rfl) 0 rfl ?_
  refine wr_getRl (pc := 60) fl_X9_31 kd_71 fk_9_9 rt_71_9 (dget kX9_kindOf 37 rfl) ?_
  refine wr_iload_n (pc := 63) (dget kX9_kindOf 38 rfl) 1 rfl ?_
  refine wr_iload_n (pc := 64) (dget kX9_kindOf 39 rfl) 2 rfl ?_
  obtain ⟨q_6, h⟩ := h
  refine wr_iastl (pc := 65) il_79 q_6 (dget kX9_kindOf 40 rfl) ?_
  refine wr_tops (fun σ_7 e_σ_7 => ?_)
  have h := h σ_7 e_σ_7
  refine wr_iload (pc := 66) (dget kX9_kindOf 41 rfl) 3 rfl ?_
  exact wr_iret (pc := 68) rfl (dget kX9_kindOf 42 rfl) ⟨_, rfl, h⟩
def vX9_kind (p1 : Int32) (σ : Hp) (post : Int32 → Hp → Prop) : Prop := (vX9_find  σ (fun σ_1 => (vX9_isDuck p1 σ_1 (fun r_4 σ_3 => ((r_4 = 0 → post (-2 : Int32) σ_3) ∧ (¬ r_4 = 0 → (vX9_kindOf p1 σ_3 (fun r_7 σ_6 => post r_7 σ_6))))))))
set_option maxHeartbeats 4000000 in
set_option maxRecDepth 100000 in
theorem tX9_kind {G : GT} {p1 : Int32} {σ : Hp} {post : Int32 → Hp → Prop} (h : vX9_kind p1 σ post) : CT G mX9_kind [.ref (G.1 71), .int p1] σ (LI post) := by
  refine CT.of (by decide +kernel) (Nat.le_of_ble_eq_true rfl) ?_
  show WP G mX9_kind 0 [(0, .ref (G.1 71)), (1, .int p1)] [] σ (LI post)
  unfold vX9_kind at h
  refine wr_aload_n (pc := 0) (dget kX9_kind 0 rfl) 0 rfl ?_
  refine wr_callVv (pc := 1) (Mc := mX9_find) (o := 71) (rest := []) cf_X9_206 cv_X9_find kd_71 rfl ⟨Nat.le_of_ble_eq_true rfl, Nat.le_of_ble_eq_true rfl⟩ rfl rfl (Nat.le_of_ble_eq_true rfl) (dget kX9_kind 1 rfl) (tX9_find h) (fun σ_1 h => ?_)
  refine wr_aload_n (pc := 4) (dget kX9_kind 2 rfl) 0 rfl ?_
  refine wr_iload_n (pc := 5) (dget kX9_kind 3 rfl) 1 rfl ?_
  refine wr_callVi (pc := 6) (Mc := mX9_isDuck) (o := 71) (rest := []) cf_X9_156 cv_X9_isDuck kd_71 rfl ⟨Nat.le_of_ble_eq_true rfl, Nat.le_of_ble_eq_true rfl⟩ rfl rfl (Nat.le_of_ble_eq_true rfl) (dget kX9_kind 4 rfl) (tX9_isDuck h) (fun r_4 σ_3 h => ?_)
  refine wr_if_eq (pc := 9) (tgt := 20) (dget kX9_kind 5 rfl) (by decide) (fun c_5 => ?_) (fun c_5 => ?_)
  · have h := h.1 c_5
    refine wr_bipush (pc := 20) (dget kX9_kind 10 rfl) bp_m2 ?_
    exact wr_iret (pc := 22) rfl (dget kX9_kind 11 rfl) ⟨_, rfl, h⟩
  · have h := h.2 c_5
    refine wr_aload_n (pc := 12) (dget kX9_kind 6 rfl) 0 rfl ?_
    refine wr_iload_n (pc := 13) (dget kX9_kind 7 rfl) 1 rfl ?_
    refine wr_callVi (pc := 14) (Mc := mX9_kindOf) (o := 71) (rest := []) cf_X9_275 cv_X9_kindOf kd_71 rfl ⟨Nat.le_of_ble_eq_true rfl, Nat.le_of_ble_eq_true rfl⟩ rfl rfl (Nat.le_of_ble_eq_true rfl) (dget kX9_kind 8 rfl) (tX9_kindOf h) (fun r_7 σ_6 h => ?_)
    refine wr_goto (pc := 17) (tgt := 22) (dget kX9_kind 9 rfl) (by decide) ?_
    exact wr_iret (pc := 22) rfl (dget kX9_kind 11 rfl) ⟨_, rfl, h⟩
