def vX8_type (p1 : Int32) (p2 : Int32) (σ : Hp) (post : Int32 → Hp → Prop) : Prop := (vX8_within p1 (3 : Int32) σ (fun r_2 σ_1 => ((r_2 = 0 → post (-2 : Int32) σ_1) ∧ (¬ r_2 = 0 → (vX8_within p2 (256 : Int32) σ_1 (fun r_5 σ_4 => ((r_5 = 0 → post (-2 : Int32) σ_4) ∧ (¬ r_5 = 0 → (vp_in p1 3 ∧ (kd (rt 1 p1.toNatClampNeg) = 7 ∧ (vX7_isFull (rt 1 p1.toNatClampNeg) σ_4 (fun r_10 σ_9 => ((r_10 = 0 → (vp_in p1 3 ∧ (vX7_append (rt 1 p1.toNatClampNeg) p2 σ_9 (fun σ_13 => (∀ σ_15 : Hp, σ_15 = wI σ_13 0 9 (0 : Int32) → (vp_in p1 3 ∧ post (σ_15.1 (rt 1 p1.toNatClampNeg) 5) σ_15)))))) ∧ (¬ r_10 = 0 → post (-4 : Int32) σ_9))))))))))))))
set_option maxHeartbeats 4000000 in
set_option maxRecDepth 100000 in
theorem tX8_type {G : GT} {p1 : Int32} {p2 : Int32} {σ : Hp} {post : Int32 → Hp → Prop} (h : vX8_type p1 p2 σ post) : CT G mX8_type [.ref (G.1 0), .int p1, .int p2] σ (LI post) := by
  refine CT.of (by decide +kernel) (Nat.le_of_ble_eq_true rfl) ?_
  show WP G mX8_type 0 [(0, .ref (G.1 0)), (1, .int p1), (2, .int p2)] [] σ (LI post)
  unfold vX8_type at h
  refine wr_iload_n (pc := 0) (dget kX8_type 0 rfl) 1 rfl ?_
  refine wr_iconst (pc := 1) (dget kX8_type 1 rfl) ic_3 ?_
  refine wr_callSi (pc := 2) (Mc := mX8_within) (rest := []) cf_X8_77 cs_X8_within ⟨Nat.le_of_ble_eq_true rfl, Nat.le_of_ble_eq_true rfl⟩ rfl rfl (Nat.le_of_ble_eq_true rfl) (dget kX8_type 2 rfl) (tX8_within h) (fun r_2 σ_1 h => ?_)
  refine wr_if_eq (pc := 5) (tgt := 18) (dget kX8_type 3 rfl) (by decide) (fun c_3 => ?_) (fun c_3 => ?_)
  · have h := h.1 c_3
    refine wr_bipush (pc := 18) (dget kX8_type 8 rfl) bp_m2 ?_
    exact wr_iret (pc := 20) rfl (dget kX8_type 9 rfl) ⟨_, rfl, h⟩
  · have h := h.2 c_3
    refine wr_iload_n (pc := 8) (dget kX8_type 4 rfl) 2 rfl ?_
    refine wr_sipush (pc := 9) (dget kX8_type 5 rfl) sp_256 ?_
    refine wr_callSi (pc := 12) (Mc := mX8_within) (rest := []) cf_X8_77 cs_X8_within ⟨Nat.le_of_ble_eq_true rfl, Nat.le_of_ble_eq_true rfl⟩ rfl rfl (Nat.le_of_ble_eq_true rfl) (dget kX8_type 6 rfl) (tX8_within h) (fun r_5 σ_4 h => ?_)
    refine wr_if_ne (pc := 15) (tgt := 21) (dget kX8_type 7 rfl) (by decide) (fun c_6 => ?_) (fun c_6 => ?_)
    · have h := h.2 c_6
      refine wr_aload_n (pc := 21) (dget kX8_type 10 rfl) 0 rfl ?_
      refine wr_getRl (pc := 22) fl_X8_11 kd_0 fk_8_0 rt_0_0 (dget kX8_type 11 rfl) ?_
      refine wr_iload_n (pc := 25) (dget kX8_type 12 rfl) 1 rfl ?_
      obtain ⟨q_7, h⟩ := h
      refine wr_aaldl (pc := 26) (σ := σ_4) rl_1 q_7 (dget kX8_type 13 rfl) ?_
      obtain ⟨q_8, h⟩ := h
      refine wr_callVi (pc := 27) (Mc := mX7_isFull) (o := (rt 1 p1.toNatClampNeg)) (rest := []) cf_X8_81 cv_X7_isFull q_8 rfl ⟨Nat.le_of_ble_eq_true rfl, Nat.le_of_ble_eq_true rfl⟩ rfl rfl (Nat.le_of_ble_eq_true rfl) (dget kX8_type 14 rfl) (tX7_isFull h) (fun r_10 σ_9 h => ?_)
      refine wr_if_eq (pc := 30) (tgt := 36) (dget kX8_type 15 rfl) (by decide) (fun c_11 => ?_) (fun c_11 => ?_)
      · have h := h.1 c_11
        refine wr_aload_n (pc := 36) (dget kX8_type 18 rfl) 0 rfl ?_
        refine wr_getRl (pc := 37) fl_X8_11 kd_0 fk_8_0 rt_0_0 (dget kX8_type 19 rfl) ?_
        refine wr_iload_n (pc := 40) (dget kX8_type 20 rfl) 1 rfl ?_
        obtain ⟨q_12, h⟩ := h
        refine wr_aaldl (pc := 41) (σ := σ_9) rl_1 q_12 (dget kX8_type 21 rfl) ?_
        refine wr_iload_n (pc := 42) (dget kX8_type 22 rfl) 2 rfl ?_
        refine wr_callVv (pc := 43) (Mc := mX7_append) (o := (rt 1 p1.toNatClampNeg)) (rest := []) cf_X8_85 cv_X7_append q_8 rfl ⟨Nat.le_of_ble_eq_true rfl, Nat.le_of_ble_eq_true rfl⟩ rfl rfl (Nat.le_of_ble_eq_true rfl) (dget kX8_type 23 rfl) (tX7_append h) (fun σ_13 h => ?_)
        refine wr_aload_n (pc := 46) (dget kX8_type 24 rfl) 0 rfl ?_
        refine wr_iconst (pc := 47) (dget kX8_type 25 rfl) ic_0 ?_
        refine wr_putI (pc := 48) fl_X8_89 kd_0 fk_8_9 (by decide) (by decide) (dget kX8_type 26 rfl) ?_
        refine wr_tops (fun σ_15 e_σ_15 => ?_)
        have h := h σ_15 e_σ_15
        refine wr_aload_n (pc := 51) (dget kX8_type 27 rfl) 0 rfl ?_
        refine wr_getRl (pc := 52) fl_X8_11 kd_0 fk_8_0 rt_0_0 (dget kX8_type 28 rfl) ?_
        refine wr_iload_n (pc := 55) (dget kX8_type 29 rfl) 1 rfl ?_
        obtain ⟨q_16, h⟩ := h
        refine wr_aaldl (pc := 56) (σ := σ_15) rl_1 q_16 (dget kX8_type 30 rfl) ?_
        refine wr_getI (pc := 57) (σ := σ_15) fl_X8_93 q_8 fk_7_5 (dget kX8_type 31 rfl) ?_
        exact wr_iret (pc := 60) rfl (dget kX8_type 32 rfl) ⟨_, rfl, h⟩
      · have h := h.2 c_11
        refine wr_bipush (pc := 33) (dget kX8_type 16 rfl) bp_m4 ?_
        exact wr_iret (pc := 35) rfl (dget kX8_type 17 rfl) ⟨_, rfl, h⟩
    · have h := h.1 c_6
      refine wr_bipush (pc := 18) (dget kX8_type 8 rfl) bp_m2 ?_
      exact wr_iret (pc := 20) rfl (dget kX8_type 9 rfl) ⟨_, rfl, h⟩
def vX8_wipe (p1 : Int32) (σ : Hp) (post : Int32 → Hp → Prop) : Prop := (vX8_within p1 (3 : Int32) σ (fun r_2 σ_1 => ((r_2 = 0 → post (-2 : Int32) σ_1) ∧ (¬ r_2 = 0 → (vp_in p1 3 ∧ (kd (rt 1 p1.toNatClampNeg) = 7 ∧ (∀ x2_6 : Int32, x2_6 = (σ_1.1 (rt 1 p1.toNatClampNeg) 5) → (vp_in p1 3 ∧ (∀ σ_8 : Hp, σ_8 = wI σ_1 (rt 1 p1.toNatClampNeg) 5 (0 : Int32) → (∀ σ_9 : Hp, σ_9 = wI σ_8 0 9 (0 : Int32) → post x2_6 σ_9))))))))))
set_option maxHeartbeats 4000000 in
set_option maxRecDepth 100000 in
theorem tX8_wipe {G : GT} {p1 : Int32} {σ : Hp} {post : Int32 → Hp → Prop} (h : vX8_wipe p1 σ post) : CT G mX8_wipe [.ref (G.1 0), .int p1] σ (LI post) := by
  refine CT.of (by decide +kernel) (Nat.le_of_ble_eq_true rfl) ?_
  show WP G mX8_wipe 0 [(0, .ref (G.1 0)), (1, .int p1)] [] σ (LI post)
  unfold vX8_wipe at h
  refine wr_iload_n (pc := 0) (dget kX8_wipe 0 rfl) 1 rfl ?_
  refine wr_iconst (pc := 1) (dget kX8_wipe 1 rfl) ic_3 ?_
  refine wr_callSi (pc := 2) (Mc := mX8_within) (rest := []) cf_X8_77 cs_X8_within ⟨Nat.le_of_ble_eq_true rfl, Nat.le_of_ble_eq_true rfl⟩ rfl rfl (Nat.le_of_ble_eq_true rfl) (dget kX8_wipe 2 rfl) (tX8_within h) (fun r_2 σ_1 h => ?_)
  refine wr_if_ne (pc := 5) (tgt := 11) (dget kX8_wipe 3 rfl) (by decide) (fun c_3 => ?_) (fun c_3 => ?_)
  · have h := h.2 c_3
    refine wr_aload_n (pc := 11) (dget kX8_wipe 6 rfl) 0 rfl ?_
    refine wr_getRl (pc := 12) fl_X8_11 kd_0 fk_8_0 rt_0_0 (dget kX8_wipe 7 rfl) ?_
    refine wr_iload_n (pc := 15) (dget kX8_wipe 8 rfl) 1 rfl ?_
    obtain ⟨q_4, h⟩ := h
    refine wr_aaldl (pc := 16) (σ := σ_1) rl_1 q_4 (dget kX8_wipe 9 rfl) ?_
    obtain ⟨q_5, h⟩ := h
    refine wr_getI (pc := 17) (σ := σ_1) fl_X8_93 q_5 fk_7_5 (dget kX8_wipe 10 rfl) ?_
    refine wr_topi (fun x2_6 e_x2_6 => ?_)
    have h := h x2_6 e_x2_6
    refine wr_istore_n (pc := 20) (lv' := [(2, .int x2_6), (0, .ref (G.1 0)), (1, .int p1)]) (dget kX8_wipe 11 rfl) (by decide) rfl ?_
    refine wr_aload_n (pc := 21) (dget kX8_wipe 12 rfl) 1 rfl ?_
    refine wr_getRl (pc := 22) fl_X8_11 kd_0 fk_8_0 rt_0_0 (dget kX8_wipe 13 rfl) ?_
    refine wr_iload_n (pc := 25) (dget kX8_wipe 14 rfl) 2 rfl ?_
    obtain ⟨q_7, h⟩ := h
    refine wr_aaldl (pc := 26) (σ := σ_1) rl_1 q_7 (dget kX8_wipe 15 rfl) ?_
    refine wr_iconst (pc := 27) (dget kX8_wipe 16 rfl) ic_0 ?_
    refine wr_putI (pc := 28) fl_X8_93 q_5 fk_7_5 (vp_nar_int _) rfl (dget kX8_wipe 17 rfl) ?_
    refine wr_tops (fun σ_8 e_σ_8 => ?_)
    have h := h σ_8 e_σ_8
    refine wr_aload_n (pc := 31) (dget kX8_wipe 18 rfl) 1 rfl ?_
    refine wr_iconst (pc := 32) (dget kX8_wipe 19 rfl) ic_0 ?_
    refine wr_putI (pc := 33) fl_X8_89 kd_0 fk_8_9 (by decide) (by decide) (dget kX8_wipe 20 rfl) ?_
    refine wr_tops (fun σ_9 e_σ_9 => ?_)
    have h := h σ_9 e_σ_9
    refine wr_iload_n (pc := 36) (dget kX8_wipe 21 rfl) 0 rfl ?_
    exact wr_iret (pc := 37) rfl (dget kX8_wipe 22 rfl) ⟨_, rfl, h⟩
  · have h := h.1 c_3
    refine wr_bipush (pc := 8) (dget kX8_wipe 4 rfl) bp_m2 ?_
    exact wr_iret (pc := 10) rfl (dget kX8_wipe 5 rfl) ⟨_, rfl, h⟩
def vX8_undo (p1 : Int32) (σ : Hp) (post : Int32 → Hp → Prop) : Prop := (vX8_within p1 (3 : Int32) σ (fun r_2 σ_1 => ((r_2 = 0 → post (-2 : Int32) σ_1) ∧ (¬ r_2 = 0 → (vp_in p1 3 ∧ (kd (rt 1 p1.toNatClampNeg) = 7 ∧ (((σ_1.1 (rt 1 p1.toNatClampNeg) 5) = 0 → post (-3 : Int32) σ_1) ∧ (¬ (σ_1.1 (rt 1 p1.toNatClampNeg) 5) = 0 → (vp_in p1 3 ∧ (∀ σ_8 : Hp, σ_8 = wI σ_1 (rt 1 p1.toNatClampNeg) 5 ((σ_1.1 (rt 1 p1.toNatClampNeg) 5) - (1 : Int32)) → (∀ σ_9 : Hp, σ_9 = wI σ_8 0 9 (0 : Int32) → (vp_in p1 3 ∧ post (σ_9.1 (rt 1 p1.toNatClampNeg) 5) σ_9))))))))))))
set_option maxHeartbeats 4000000 in
set_option maxRecDepth 100000 in
theorem tX8_undo {G : GT} {p1 : Int32} {σ : Hp} {post : Int32 → Hp → Prop} (h : vX8_undo p1 σ post) : CT G mX8_undo [.ref (G.1 0), .int p1] σ (LI post) := by
  refine CT.of (by decide +kernel) (Nat.le_of_ble_eq_true rfl) ?_
  show WP G mX8_undo 0 [(0, .ref (G.1 0)), (1, .int p1)] [] σ (LI post)
  unfold vX8_undo at h
  refine wr_iload_n (pc := 0) (dget kX8_undo 0 rfl) 1 rfl ?_
  refine wr_iconst (pc := 1) (dget kX8_undo 1 rfl) ic_3 ?_
  refine wr_callSi (pc := 2) (Mc := mX8_within) (rest := []) cf_X8_77 cs_X8_within ⟨Nat.le_of_ble_eq_true rfl, Nat.le_of_ble_eq_true rfl⟩ rfl rfl (Nat.le_of_ble_eq_true rfl) (dget kX8_undo 2 rfl) (tX8_within h) (fun r_2 σ_1 h => ?_)
  refine wr_if_ne (pc := 5) (tgt := 11) (dget kX8_undo 3 rfl) (by decide) (fun c_3 => ?_) (fun c_3 => ?_)
  · have h := h.2 c_3
    refine wr_aload_n (pc := 11) (dget kX8_undo 6 rfl) 0 rfl ?_
    refine wr_getRl (pc := 12) fl_X8_11 kd_0 fk_8_0 rt_0_0 (dget kX8_undo 7 rfl) ?_
    refine wr_iload_n (pc := 15) (dget kX8_undo 8 rfl) 1 rfl ?_
    obtain ⟨q_4, h⟩ := h
    refine wr_aaldl (pc := 16) (σ := σ_1) rl_1 q_4 (dget kX8_undo 9 rfl) ?_
    obtain ⟨q_5, h⟩ := h
    refine wr_getI (pc := 17) (σ := σ_1) fl_X8_93 q_5 fk_7_5 (dget kX8_undo 10 rfl) ?_
    refine wr_if_ne (pc := 20) (tgt := 26) (dget kX8_undo 11 rfl) (by decide) (fun c_6 => ?_) (fun c_6 => ?_)
    · have h := h.2 c_6
      refine wr_aload_n (pc := 26) (dget kX8_undo 14 rfl) 0 rfl ?_
      refine wr_getRl (pc := 27) fl_X8_11 kd_0 fk_8_0 rt_0_0 (dget kX8_undo 15 rfl) ?_
      refine wr_iload_n (pc := 30) (dget kX8_undo 16 rfl) 1 rfl ?_
      obtain ⟨q_7, h⟩ := h
      refine wr_aaldl (pc := 31) (σ := σ_1) rl_1 q_7 (dget kX8_undo 17 rfl) ?_
      refine wr_dup (pc := 32) (dget kX8_undo 18 rfl) rfl ?_
      refine wr_getI (pc := 33) (σ := σ_1) fl_X8_93 q_5 fk_7_5 (dget kX8_undo 19 rfl) ?_
      refine wr_iconst (pc := 36) (dget kX8_undo 20 rfl) ic_1 ?_
      refine wr_isub (pc := 37) (dget kX8_undo 21 rfl) ?_
      refine wr_putI (pc := 38) fl_X8_93 q_5 fk_7_5 (vp_nar_int _) rfl (dget kX8_undo 22 rfl) ?_
      refine wr_tops (fun σ_8 e_σ_8 => ?_)
      have h := h σ_8 e_σ_8
      refine wr_aload_n (pc := 41) (dget kX8_undo 23 rfl) 0 rfl ?_
      refine wr_iconst (pc := 42) (dget kX8_undo 24 rfl) ic_0 ?_
      refine wr_putI (pc := 43) fl_X8_89 kd_0 fk_8_9 (by decide) (by decide) (dget kX8_undo 25 rfl) ?_
      refine wr_tops (fun σ_9 e_σ_9 => ?_)
      have h := h σ_9 e_σ_9
      refine wr_aload_n (pc := 46) (dget kX8_undo 26 rfl) 0 rfl ?_
      refine wr_getRl (pc := 47) fl_X8_11 kd_0 fk_8_0 rt_0_0 (dget kX8_undo 27 rfl) ?_
      refine wr_iload_n (pc := 50) (dget kX8_undo 28 rfl) 1 rfl ?_
      obtain ⟨q_10, h⟩ := h
      refine wr_aaldl (pc := 51) (σ := σ_9) rl_1 q_10 (dget kX8_undo 29 rfl) ?_
      refine wr_getI (pc := 52) (σ := σ_9) fl_X8_93 q_5 fk_7_5 (dget kX8_undo 30 rfl) ?_
      exact wr_iret (pc := 55) rfl (dget kX8_undo 31 rfl) ⟨_, rfl, h⟩
    · have h := h.1 c_6
      refine wr_bipush (pc := 23) (dget kX8_undo 12 rfl) bp_m3 ?_
      exact wr_iret (pc := 25) rfl (dget kX8_undo 13 rfl) ⟨_, rfl, h⟩
  · have h := h.1 c_3
    refine wr_bipush (pc := 8) (dget kX8_undo 4 rfl) bp_m2 ?_
    exact wr_iret (pc := 10) rfl (dget kX8_undo 5 rfl) ⟨_, rfl, h⟩
def vX8_settle_10 (post : Hp → Prop) (ex : Hp → Prop) : Nat → Int32 → Hp → Prop
  | 0 => fun _ _ => False
  | n + 1 => fun x1 σ => (((3 : Int32) ≤ x1 → (ex σ)) ∧ (¬ (3 : Int32) ≤ x1 → (vp_in x1 3 ∧ (kd (rt 1 x1.toNatClampNeg) = 7 ∧ (vX7_examine (rt 1 x1.toNatClampNeg) σ (fun σ_4 => (∀ x1_6 : Int32, x1_6 = x1 + (1 : Int32) → vX8_settle_10 post ex  n x1_6 σ_4)))))))
set_option maxHeartbeats 4000000 in
set_option maxRecDepth 100000 in
theorem tX8_settle_10 {G : GT} {post : Hp → Prop} {ex : Hp → Prop} (hex : ∀  (τ : Hp), ex  τ → WP G mX8_settle 30 [(0, .ref (G.1 0))] [] τ (LV post)) : ∀ (n : Nat) (x1 : Int32) (σ : Hp), vX8_settle_10 post ex  n x1 σ → WP G mX8_settle 10 [(0, .ref (G.1 0)), (1, .int x1)] [] σ (LV post) := by
  intro n
  induction n with
  | zero => intro x1 σ h; exact False.elim h
  | succ n ih =>
    intro x1 σ h
    simp only [vX8_settle_10] at h
    refine wr_iload_n (pc := 10) (dget kX8_settle 6 rfl) 1 rfl ?_
    refine wr_iconst (pc := 11) (dget kX8_settle 7 rfl) ic_3 ?_
    refine wr_icmp_ge (pc := 12) (tgt := 30) (dget kX8_settle 8 rfl) (by decide) (fun c_1 => ?_) (fun c_1 => ?_)
    · have h := h.1 c_1
      refine wr_sub [0] rfl ?_
      exact hex  _ h
    · have h := h.2 c_1
      refine wr_aload_n (pc := 15) (dget kX8_settle 9 rfl) 0 rfl ?_
      refine wr_getRl (pc := 16) fl_X8_11 kd_0 fk_8_0 rt_0_0 (dget kX8_settle 10 rfl) ?_
      refine wr_iload_n (pc := 19) (dget kX8_settle 11 rfl) 1 rfl ?_
      obtain ⟨q_2, h⟩ := h
      refine wr_aaldl (pc := 20) (σ := σ) rl_1 q_2 (dget kX8_settle 12 rfl) ?_
      obtain ⟨q_3, h⟩ := h
      refine wr_callVv (pc := 21) (Mc := mX7_examine) (o := (rt 1 x1.toNatClampNeg)) (rest := []) cf_X8_314 cv_X7_examine q_3 rfl ⟨Nat.le_of_ble_eq_true rfl, Nat.le_of_ble_eq_true rfl⟩ rfl rfl (Nat.le_of_ble_eq_true rfl) (dget kX8_settle 13 rfl) (tX7_examine h) (fun σ_4 h => ?_)
      obtain ⟨x1_6, e_x1_6⟩ : ∃ y : Int32, y = x1 + (1 : Int32) := ⟨_, rfl⟩
      have h := h x1_6 e_x1_6
      refine wr_iinc (pc := 24) (v := x1_6) (lv' := [(1, .int x1_6), (0, .ref (G.1 0))]) (dget kX8_settle 14 rfl) 1 rfl (by rw [e_x1_6, ic_1]) (by decide) rfl ?_
      refine wr_goto (pc := 27) (tgt := 10) (dget kX8_settle 15 rfl) (by decide) ?_
      refine wr_sub [1, 0] rfl ?_
      exact ih _ _ h
def vX8_settle (σ : Hp) (post : Hp → Prop) : Prop := (((σ.1 0 9) = 0 → (∃ fu : Nat, vX8_settle_10 post (fun σ_2 => (vp_in (0 : Int32) 3 ∧ (vp_in (1 : Int32) 3 ∧ (vX6_arrange (rt 1 (0 : Int32).toNatClampNeg) (rt 1 (1 : Int32).toNatClampNeg) σ_2 (fun σ_5 => (vX1_all  σ_5 (fun r_8 σ_7 => (vX0_go 15 r_8 σ_7 (fun σ_9 => (vp_in (2 : Int32) 3 ∧ (vX5_takeText 24 (rt 1 (2 : Int32).toNatClampNeg) σ_9 (fun σ_12 => (¬ (0 : Int32) < 0 ∧ ¬ (0 : Int32) < 0 ∧ ¬ (12 : Int32) < 0 ∧ (0 : Int32).toNatClampNeg + (12 : Int32).toNatClampNeg ≤ (iln 6) ∧ (0 : Int32).toNatClampNeg + (12 : Int32).toNatClampNeg ≤ (iln 28) ∧ ∀ σ_14 : Hp, σ_14 = wR σ_12 28 (va_cpy (σ_12.1 6) (σ_12.1 28) (0 : Int32).toNatClampNeg (0 : Int32).toNatClampNeg (12 : Int32).toNatClampNeg) → (vX2_play 23 σ_14 (fun σ_20 => (∀ σ_22 : Hp, σ_22 = wI σ_20 0 9 (1 : Int32) → (∀ σ_23 : Hp, σ_23 = wI σ_22 0 10 (0 : Int32) → post σ_23)))))))))))))))))  fu (0 : Int32) σ)) ∧ (¬ (σ.1 0 9) = 0 → post σ))
set_option maxHeartbeats 4000000 in
set_option maxRecDepth 100000 in
theorem tX8_settle {G : GT} {σ : Hp} {post : Hp → Prop} (h : vX8_settle  σ post) : CT G mX8_settle [.ref (G.1 0)] σ (LV post) := by
  refine CT.of (by decide +kernel) (Nat.le_of_ble_eq_true rfl) ?_
  show WP G mX8_settle 0 [(0, .ref (G.1 0))] [] σ (LV post)
  unfold vX8_settle at h
  refine wr_aload_n (pc := 0) (dget kX8_settle 0 rfl) 0 rfl ?_
  refine wr_getI (pc := 1) (σ := σ) fl_X8_89 kd_0 fk_8_9 (dget kX8_settle 1 rfl) ?_
  refine wr_if_eq (pc := 4) (tgt := 8) (dget kX8_settle 2 rfl) (by decide) (fun c_1 => ?_) (fun c_1 => ?_)
  · have h := h.1 c_1
    refine wr_iconst (pc := 8) (dget kX8_settle 4 rfl) ic_0 ?_
    refine wr_istore_n (pc := 9) (lv' := [(1, .int (0 : Int32)), (0, .ref (G.1 0))]) (dget kX8_settle 5 rfl) (by decide) rfl ?_
    obtain ⟨fu, h⟩ := h
    refine wr_sub [1, 0] rfl ?_
    refine tX8_settle_10 (fun σ_2 h => ?_) fu _ _ h
    refine wr_aload_n (pc := 30) (dget kX8_settle 16 rfl) 0 rfl ?_
    refine wr_getRl (pc := 31) fl_X8_18 kd_0 fk_8_1 rt_0_1 (dget kX8_settle 17 rfl) ?_
    refine wr_aload_n (pc := 34) (dget kX8_settle 18 rfl) 0 rfl ?_
    refine wr_getRl (pc := 35) fl_X8_11 kd_0 fk_8_0 rt_0_0 (dget kX8_settle 19 rfl) ?_
    refine wr_iconst (pc := 38) (dget kX8_settle 20 rfl) ic_0 ?_
    obtain ⟨q_3, h⟩ := h
    refine wr_aaldl (pc := 39) (σ := σ_2) rl_1 q_3 (dget kX8_settle 21 rfl) ?_
    refine wr_aload_n (pc := 40) (dget kX8_settle 22 rfl) 0 rfl ?_
    refine wr_getRl (pc := 41) fl_X8_11 kd_0 fk_8_0 rt_0_0 (dget kX8_settle 23 rfl) ?_
    refine wr_iconst (pc := 44) (dget kX8_settle 24 rfl) ic_1 ?_
    obtain ⟨q_4, h⟩ := h
    refine wr_aaldl (pc := 45) (σ := σ_2) rl_1 q_4 (dget kX8_settle 25 rfl) ?_
    refine wr_callVv (pc := 46) (Mc := mX6_arrange) (o := 2) (rest := []) cf_X8_317 cv_X6_arrange kd_2 rfl ⟨Nat.le_of_ble_eq_true rfl, Nat.le_of_ble_eq_true rfl⟩ rfl rfl (Nat.le_of_ble_eq_true rfl) (dget kX8_settle 26 rfl) (tX6_arrange h) (fun σ_5 h => ?_)
    refine wr_aload_n (pc := 49) (dget kX8_settle 27 rfl) 0 rfl ?_
    refine wr_getRl (pc := 50) fl_X8_34 kd_0 fk_8_3 rt_0_3 (dget kX8_settle 28 rfl) ?_
    refine wr_aload_n (pc := 53) (dget kX8_settle 29 rfl) 0 rfl ?_
    refine wr_getRl (pc := 54) fl_X8_25 kd_0 fk_8_2 rt_0_2 (dget kX8_settle 30 rfl) ?_
    refine wr_callVi (pc := 57) (Mc := mX1_all) (o := 10) (rest := [.ref (G.1 15)]) cf_X8_321 cv_X1_all kd_10 rfl ⟨Nat.le_of_ble_eq_true rfl, Nat.le_of_ble_eq_true rfl⟩ rfl rfl (Nat.le_of_ble_eq_true rfl) (dget kX8_settle 31 rfl) (tX1_all h) (fun r_8 σ_7 h => ?_)
    refine wr_callVv (pc := 60) (Mc := mX0_go) (o := 15) (rest := []) cf_X8_324 cv_X0_go kd_15 rfl ⟨Nat.le_of_ble_eq_true rfl, Nat.le_of_ble_eq_true rfl⟩ rfl rfl (Nat.le_of_ble_eq_true rfl) (dget kX8_settle 32 rfl) (tX0_go h) (fun σ_9 h => ?_)
    refine wr_aload_n (pc := 63) (dget kX8_settle 33 rfl) 0 rfl ?_
    refine wr_getRl (pc := 64) fl_X8_46 kd_0 fk_8_5 rt_0_5 (dget kX8_settle 34 rfl) ?_
    refine wr_getRl (pc := 67) fl_X8_118 kd_23 fk_2_1 rt_23_1 (dget kX8_settle 35 rfl) ?_
    refine wr_aload_n (pc := 70) (dget kX8_settle 36 rfl) 0 rfl ?_
    refine wr_getRl (pc := 71) fl_X8_11 kd_0 fk_8_0 rt_0_0 (dget kX8_settle 37 rfl) ?_
    refine wr_iconst (pc := 74) (dget kX8_settle 38 rfl) ic_2 ?_
    obtain ⟨q_11, h⟩ := h
    refine wr_aaldl (pc := 75) (σ := σ_9) rl_1 q_11 (dget kX8_settle 39 rfl) ?_
    refine wr_callVv (pc := 76) (Mc := mX5_takeText) (o := 24) (rest := []) cf_X8_327 cv_X5_takeText kd_24 rfl ⟨Nat.le_of_ble_eq_true rfl, Nat.le_of_ble_eq_true rfl⟩ rfl rfl (Nat.le_of_ble_eq_true rfl) (dget kX8_settle 40 rfl) (tX5_takeText h) (fun σ_12 h => ?_)
    refine wr_aload_n (pc := 79) (dget kX8_settle 41 rfl) 0 rfl ?_
    refine wr_getRl (pc := 80) fl_X8_18 kd_0 fk_8_1 rt_0_1 (dget kX8_settle 42 rfl) ?_
    refine wr_getRl (pc := 83) fl_X8_331 kd_2 fk_6_3 rt_2_3 (dget kX8_settle 43 rfl) ?_
    refine wr_iconst (pc := 86) (dget kX8_settle 44 rfl) ic_0 ?_
    refine wr_aload_n (pc := 87) (dget kX8_settle 45 rfl) 0 rfl ?_
    refine wr_getRl (pc := 88) fl_X8_46 kd_0 fk_8_5 rt_0_5 (dget kX8_settle 46 rfl) ?_
    refine wr_getRl (pc := 91) fl_X8_334 kd_23 fk_2_2 rt_23_2 (dget kX8_settle 47 rfl) ?_
    refine wr_iconst (pc := 94) (dget kX8_settle 48 rfl) ic_0 ?_
    refine wr_bipush (pc := 95) (dget kX8_settle 49 rfl) bp_12 ?_
    obtain ⟨q_15, q_16, q_17, q_18, q_19, h⟩ := h
    refine wr_copy (pc := 97) (σ := σ_12) ml_X8_259 kd_6 kd_28 q_15 q_16 q_17 q_18 q_19 (by decide) (by decide) (dget kX8_settle 50 rfl) ?_
    refine wr_tops (fun σ_14 e_σ_14 => ?_)
    have h := h σ_14 e_σ_14
    refine wr_aload_n (pc := 100) (dget kX8_settle 51 rfl) 0 rfl ?_
    refine wr_getRl (pc := 101) fl_X8_46 kd_0 fk_8_5 rt_0_5 (dget kX8_settle 52 rfl) ?_
    refine wr_callVv (pc := 104) (Mc := mX2_play) (o := 23) (rest := []) cf_X8_335 cv_X2_play kd_23 rfl ⟨Nat.le_of_ble_eq_true rfl, Nat.le_of_ble_eq_true rfl⟩ rfl rfl (Nat.le_of_ble_eq_true rfl) (dget kX8_settle 53 rfl) (tX2_play h) (fun σ_20 h => ?_)
    refine wr_aload_n (pc := 107) (dget kX8_settle 54 rfl) 0 rfl ?_
    refine wr_iconst (pc := 108) (dget kX8_settle 55 rfl) ic_1 ?_
    refine wr_putI (pc := 109) fl_X8_89 kd_0 fk_8_9 (by decide) (by decide) (dget kX8_settle 56 rfl) ?_
    refine wr_tops (fun σ_22 e_σ_22 => ?_)
    have h := h σ_22 e_σ_22
    refine wr_aload_n (pc := 112) (dget kX8_settle 57 rfl) 0 rfl ?_
    refine wr_iconst (pc := 113) (dget kX8_settle 58 rfl) ic_0 ?_
    refine wr_putI (pc := 114) fl_X8_338 kd_0 fk_8_10 (by decide) (by decide) (dget kX8_settle 59 rfl) ?_
    refine wr_tops (fun σ_23 e_σ_23 => ?_)
    have h := h σ_23 e_σ_23
    exact wr_vret (pc := 117) rfl (dget kX8_settle 60 rfl) ⟨rfl, h⟩
  · have h := h.2 c_1
    exact wr_vret (pc := 7) rfl (dget kX8_settle 3 rfl) ⟨rfl, h⟩
def vX8_fault (p1 : Int32) (σ : Hp) (post : Int32 → Hp → Prop) : Prop := (vX8_within p1 (3 : Int32) σ (fun r_2 σ_1 => ((r_2 = 0 → post (-2 : Int32) σ_1) ∧ (¬ r_2 = 0 → (vX8_settle  σ_1 (fun σ_4 => (vp_in p1 3 ∧ (kd (rt 1 p1.toNatClampNeg) = 7 ∧ post (σ_4.1 (rt 1 p1.toNatClampNeg) 7) σ_4))))))))
set_option maxHeartbeats 4000000 in
set_option maxRecDepth 100000 in
theorem tX8_fault {G : GT} {p1 : Int32} {σ : Hp} {post : Int32 → Hp → Prop} (h : vX8_fault p1 σ post) : CT G mX8_fault [.ref (G.1 0), .int p1] σ (LI post) := by
  refine CT.of (by decide +kernel) (Nat.le_of_ble_eq_true rfl) ?_
  show WP G mX8_fault 0 [(0, .ref (G.1 0)), (1, .int p1)] [] σ (LI post)
  unfold vX8_fault at h
  refine wr_iload_n (pc := 0) (dget kX8_fault 0 rfl) 1 rfl ?_
  refine wr_iconst (pc := 1) (dget kX8_fault 1 rfl) ic_3 ?_
  refine wr_callSi (pc := 2) (Mc := mX8_within) (rest := []) cf_X8_77 cs_X8_within ⟨Nat.le_of_ble_eq_true rfl, Nat.le_of_ble_eq_true rfl⟩ rfl rfl (Nat.le_of_ble_eq_true rfl) (dget kX8_fault 2 rfl) (tX8_within h) (fun r_2 σ_1 h => ?_)
  refine wr_if_ne (pc := 5) (tgt := 11) (dget kX8_fault 3 rfl) (by decide) (fun c_3 => ?_) (fun c_3 => ?_)
  · have h := h.2 c_3
    refine wr_aload_n (pc := 11) (dget kX8_fault 6 rfl) 0 rfl ?_
    refine wr_callVv (pc := 12) (Mc := mX8_settle) (o := 0) (rest := []) cf_X8_97 cv_X8_settle kd_0 rfl ⟨Nat.le_of_ble_eq_true rfl, Nat.le_of_ble_eq_true rfl⟩ rfl rfl (Nat.le_of_ble_eq_true rfl) (dget kX8_fault 7 rfl) (tX8_settle h) (fun σ_4 h => ?_)
    refine wr_aload_n (pc := 15) (dget kX8_fault 8 rfl) 0 rfl ?_
    refine wr_getRl (pc := 16) fl_X8_11 kd_0 fk_8_0 rt_0_0 (dget kX8_fault 9 rfl) ?_
    refine wr_iload_n (pc := 19) (dget kX8_fault 10 rfl) 1 rfl ?_
    obtain ⟨q_6, h⟩ := h
    refine wr_aaldl (pc := 20) (σ := σ_4) rl_1 q_6 (dget kX8_fault 11 rfl) ?_
    obtain ⟨q_7, h⟩ := h
    refine wr_getI (pc := 21) (σ := σ_4) fl_X8_100 q_7 fk_7_7 (dget kX8_fault 12 rfl) ?_
    exact wr_iret (pc := 24) rfl (dget kX8_fault 13 rfl) ⟨_, rfl, h⟩
  · have h := h.1 c_3
    refine wr_bipush (pc := 8) (dget kX8_fault 4 rfl) bp_m2 ?_
    exact wr_iret (pc := 10) rfl (dget kX8_fault 5 rfl) ⟨_, rfl, h⟩
def vX8_chain (p1 : Int32) (σ : Hp) (post : Int32 → Hp → Prop) : Prop := (vX8_within p1 (3 : Int32) σ (fun r_2 σ_1 => ((r_2 = 0 → post (-2147483648 : Int32) σ_1) ∧ (¬ r_2 = 0 → (vX8_settle  σ_1 (fun σ_4 => (vp_in p1 3 ∧ post (σ_4.1 3 p1.toNatClampNeg) σ_4)))))))
set_option maxHeartbeats 4000000 in
set_option maxRecDepth 100000 in
theorem tX8_chain {G : GT} {p1 : Int32} {σ : Hp} {post : Int32 → Hp → Prop} (h : vX8_chain p1 σ post) : CT G mX8_chain [.ref (G.1 0), .int p1] σ (LI post) := by
  refine CT.of (by decide +kernel) (Nat.le_of_ble_eq_true rfl) ?_
  show WP G mX8_chain 0 [(0, .ref (G.1 0)), (1, .int p1)] [] σ (LI post)
  unfold vX8_chain at h
  refine wr_iload_n (pc := 0) (dget kX8_chain 0 rfl) 1 rfl ?_
  refine wr_iconst (pc := 1) (dget kX8_chain 1 rfl) ic_3 ?_
  refine wr_callSi (pc := 2) (Mc := mX8_within) (rest := []) cf_X8_77 cs_X8_within ⟨Nat.le_of_ble_eq_true rfl, Nat.le_of_ble_eq_true rfl⟩ rfl rfl (Nat.le_of_ble_eq_true rfl) (dget kX8_chain 2 rfl) (tX8_within h) (fun r_2 σ_1 h => ?_)
  refine wr_if_ne (pc := 5) (tgt := 11) (dget kX8_chain 3 rfl) (by decide) (fun c_3 => ?_) (fun c_3 => ?_)
  · have h := h.2 c_3
    refine wr_aload_n (pc := 11) (dget kX8_chain 6 rfl) 0 rfl ?_
    refine wr_callVv (pc := 12) (Mc := mX8_settle) (o := 0) (rest := []) cf_X8_97 cv_X8_settle kd_0 rfl ⟨Nat.le_of_ble_eq_true rfl, Nat.le_of_ble_eq_true rfl⟩ rfl rfl (Nat.le_of_ble_eq_true rfl) (dget kX8_chain 7 rfl) (tX8_settle h) (fun σ_4 h => ?_)
    refine wr_aload_n (pc := 15) (dget kX8_chain 8 rfl) 0 rfl ?_
    refine wr_getRl (pc := 16) fl_X8_18 kd_0 fk_8_1 rt_0_1 (dget kX8_chain 9 rfl) ?_
    refine wr_getRl (pc := 19) fl_X8_104 kd_2 fk_6_0 rt_2_0 (dget kX8_chain 10 rfl) ?_
    refine wr_iload_n (pc := 22) (dget kX8_chain 11 rfl) 1 rfl ?_
    obtain ⟨q_6, h⟩ := h
    refine wr_ialdl (pc := 23) (σ := σ_4) il_3 q_6 (dget kX8_chain 12 rfl) ?_
    exact wr_iret (pc := 24) rfl (dget kX8_chain 13 rfl) ⟨_, rfl, h⟩
  · have h := h.1 c_3
    refine wr_ldc (pc := 8) ki_X8_103 (dget kX8_chain 4 rfl) ?_
    exact wr_iret (pc := 10) rfl (dget kX8_chain 5 rfl) ⟨_, rfl, h⟩
def vX8_isDuck (p1 : Int32) (σ : Hp) (post : Int32 → Hp → Prop) : Prop := (vX8_within p1 (σ.1 2 5) σ (fun r_2 σ_1 => ((r_2 = 0 ∨ r_2 = 1) ∧ post r_2 σ_1)))
set_option maxHeartbeats 4000000 in
set_option maxRecDepth 100000 in
theorem tX8_isDuck {G : GT} {p1 : Int32} {σ : Hp} {post : Int32 → Hp → Prop} (h : vX8_isDuck p1 σ post) : CT G mX8_isDuck [.ref (G.1 0), .int p1] σ (LI post) := by
  refine CT.of (by decide +kernel) (Nat.le_of_ble_eq_true rfl) ?_
  show WP G mX8_isDuck 0 [(0, .ref (G.1 0)), (1, .int p1)] [] σ (LI post)
  unfold vX8_isDuck at h
  refine wr_iload_n (pc := 0) (dget kX8_isDuck 0 rfl) 1 rfl ?_
  refine wr_aload_n (pc := 1) (dget kX8_isDuck 1 rfl) 0 rfl ?_
  refine wr_getRl (pc := 2) fl_X8_18 kd_0 fk_8_1 rt_0_1 (dget kX8_isDuck 2 rfl) ?_
  refine wr_getI (pc := 5) (σ := σ) fl_X8_282 kd_2 fk_6_5 (dget kX8_isDuck 3 rfl) ?_
  refine wr_callSi (pc := 8) (Mc := mX8_within) (rest := []) cf_X8_77 cs_X8_within ⟨Nat.le_of_ble_eq_true rfl, Nat.le_of_ble_eq_true rfl⟩ rfl rfl (Nat.le_of_ble_eq_true rfl) (dget kX8_isDuck 4 rfl) (tX8_within h) (fun r_2 σ_1 h => ?_)
  obtain ⟨q_3, h⟩ := h
  exact wr_zret (pc := 11) rfl (nar_z q_3) (dget kX8_isDuck 5 rfl) ⟨_, rfl, h⟩
def vX8_duck (p1 : Int32) (p2 : Int32) (σ : Hp) (post : Int32 → Hp → Prop) : Prop := (vX8_settle  σ (fun σ_1 => (vX8_isDuck p1 σ_1 (fun r_4 σ_3 => ((r_4 = 0 → post (-2 : Int32) σ_3) ∧ (¬ r_4 = 0 → (vX8_within p2 (4 : Int32) σ_3 (fun r_7 σ_6 => ((r_7 = 0 → post (-2 : Int32) σ_6) ∧ (¬ r_7 = 0 → (vX6_tellDuck p1 p2 σ_6 (fun r_10 σ_9 => post r_10 σ_9))))))))))))
set_option maxHeartbeats 4000000 in
set_option maxRecDepth 100000 in
theorem tX8_duck {G : GT} {p1 : Int32} {p2 : Int32} {σ : Hp} {post : Int32 → Hp → Prop} (h : vX8_duck p1 p2 σ post) : CT G mX8_duck [.ref (G.1 0), .int p1, .int p2] σ (LI post) := by
  refine CT.of (by decide +kernel) (Nat.le_of_ble_eq_true rfl) ?_
  show WP G mX8_duck 0 [(0, .ref (G.1 0)), (1, .int p1), (2, .int p2)] [] σ (LI post)
  unfold vX8_duck at h
  refine wr_aload_n (pc := 0) (dget kX8_duck 0 rfl) 0 rfl ?_
  refine wr_callVv (pc := 1) (Mc := mX8_settle) (o := 0) (rest := []) cf_X8_97 cv_X8_settle kd_0 rfl ⟨Nat.le_of_ble_eq_true rfl, Nat.le_of_ble_eq_true rfl⟩ rfl rfl (Nat.le_of_ble_eq_true rfl) (dget kX8_duck 1 rfl) (tX8_settle h) (fun σ_1 h => ?_)
  refine wr_aload_n (pc := 4) (dget kX8_duck 2 rfl) 0 rfl ?_
  refine wr_iload_n (pc := 5) (dget kX8_duck 3 rfl) 1 rfl ?_
  refine wr_callVi (pc := 6) (Mc := mX8_isDuck) (o := 0) (rest := []) cf_X8_107 cv_X8_isDuck kd_0 rfl ⟨Nat.le_of_ble_eq_true rfl, Nat.le_of_ble_eq_true rfl⟩ rfl rfl (Nat.le_of_ble_eq_true rfl) (dget kX8_duck 4 rfl) (tX8_isDuck h) (fun r_4 σ_3 h => ?_)
  refine wr_if_eq (pc := 9) (tgt := 20) (dget kX8_duck 5 rfl) (by decide) (fun c_5 => ?_) (fun c_5 => ?_)
  · have h := h.1 c_5
    refine wr_bipush (pc := 20) (dget kX8_duck 10 rfl) bp_m2 ?_
    exact wr_iret (pc := 22) rfl (dget kX8_duck 11 rfl) ⟨_, rfl, h⟩
  · have h := h.2 c_5
    refine wr_iload_n (pc := 12) (dget kX8_duck 6 rfl) 2 rfl ?_
    refine wr_iconst (pc := 13) (dget kX8_duck 7 rfl) ic_4 ?_
    refine wr_callSi (pc := 14) (Mc := mX8_within) (rest := []) cf_X8_77 cs_X8_within ⟨Nat.le_of_ble_eq_true rfl, Nat.le_of_ble_eq_true rfl⟩ rfl rfl (Nat.le_of_ble_eq_true rfl) (dget kX8_duck 8 rfl) (tX8_within h) (fun r_7 σ_6 h => ?_)
    refine wr_if_ne (pc := 17) (tgt := 23) (dget kX8_duck 9 rfl) (by decide) (fun c_8 => ?_) (fun c_8 => ?_)
    · have h := h.2 c_8
      refine wr_aload_n (pc := 23) (dget kX8_duck 12 rfl) 0 rfl ?_
      refine wr_getRl (pc := 24) fl_X8_18 kd_0 fk_8_1 rt_0_1 (dget kX8_duck 13 rfl) ?_
      refine wr_iload_n (pc := 27) (dget kX8_duck 14 rfl) 1 rfl ?_
      refine wr_iload_n (pc := 28) (dget kX8_duck 15 rfl) 2 rfl ?_
      refine wr_callVi (pc := 29) (Mc := mX6_tellDuck) (o := 2) (rest := []) cf_X8_111 cv_X6_tellDuck kd_2 rfl ⟨Nat.le_of_ble_eq_true rfl, Nat.le_of_ble_eq_true rfl⟩ rfl rfl (Nat.le_of_ble_eq_true rfl) (dget kX8_duck 16 rfl) (tX6_tellDuck h) (fun r_10 σ_9 h => ?_)
      exact wr_iret (pc := 32) rfl (dget kX8_duck 17 rfl) ⟨_, rfl, h⟩
    · have h := h.1 c_8
      refine wr_bipush (pc := 20) (dget kX8_duck 10 rfl) bp_m2 ?_
      exact wr_iret (pc := 22) rfl (dget kX8_duck 11 rfl) ⟨_, rfl, h⟩
def vX8_isShot (p1 : Int32) (σ : Hp) (post : Int32 → Hp → Prop) : Prop := (vX8_within p1 (σ.1 24 3) σ (fun r_2 σ_1 => ((r_2 = 0 ∨ r_2 = 1) ∧ post r_2 σ_1)))
set_option maxHeartbeats 4000000 in
set_option maxRecDepth 100000 in
theorem tX8_isShot {G : GT} {p1 : Int32} {σ : Hp} {post : Int32 → Hp → Prop} (h : vX8_isShot p1 σ post) : CT G mX8_isShot [.ref (G.1 0), .int p1] σ (LI post) := by
  refine CT.of (by decide +kernel) (Nat.le_of_ble_eq_true rfl) ?_
  show WP G mX8_isShot 0 [(0, .ref (G.1 0)), (1, .int p1)] [] σ (LI post)
  unfold vX8_isShot at h
  refine wr_iload_n (pc := 0) (dget kX8_isShot 0 rfl) 1 rfl ?_
  refine wr_aload_n (pc := 1) (dget kX8_isShot 1 rfl) 0 rfl ?_
  refine wr_getRl (pc := 2) fl_X8_46 kd_0 fk_8_5 rt_0_5 (dget kX8_isShot 2 rfl) ?_
  refine wr_getRl (pc := 5) fl_X8_118 kd_23 fk_2_1 rt_23_1 (dget kX8_isShot 3 rfl) ?_
  refine wr_getI (pc := 8) (σ := σ) fl_X8_289 kd_24 fk_5_3 (dget kX8_isShot 4 rfl) ?_
  refine wr_callSi (pc := 11) (Mc := mX8_within) (rest := []) cf_X8_77 cs_X8_within ⟨Nat.le_of_ble_eq_true rfl, Nat.le_of_ble_eq_true rfl⟩ rfl rfl (Nat.le_of_ble_eq_true rfl) (dget kX8_isShot 5 rfl) (tX8_within h) (fun r_2 σ_1 h => ?_)
  obtain ⟨q_3, h⟩ := h
  exact wr_zret (pc := 14) rfl (nar_z q_3) (dget kX8_isShot 6 rfl) ⟨_, rfl, h⟩
def vX8_shot (p1 : Int32) (p2 : Int32) (σ : Hp) (post : Int32 → Hp → Prop) : Prop := (vX8_settle  σ (fun σ_1 => (vX8_isShot p1 σ_1 (fun r_4 σ_3 => ((r_4 = 0 → post (-2 : Int32) σ_3) ∧ (¬ r_4 = 0 → (vX8_within p2 (3 : Int32) σ_3 (fun r_7 σ_6 => ((r_7 = 0 → post (-2 : Int32) σ_6) ∧ (¬ r_7 = 0 → (vX5_tellShot 24 p1 p2 σ_6 (fun r_10 σ_9 => post r_10 σ_9))))))))))))
set_option maxHeartbeats 4000000 in
set_option maxRecDepth 100000 in
theorem tX8_shot {G : GT} {p1 : Int32} {p2 : Int32} {σ : Hp} {post : Int32 → Hp → Prop} (h : vX8_shot p1 p2 σ post) : CT G mX8_shot [.ref (G.1 0), .int p1, .int p2] σ (LI post) := by
  refine CT.of (by decide +kernel) (Nat.le_of_ble_eq_true rfl) ?_
  show WP G mX8_shot 0 [(0, .ref (G.1 0)), (1, .int p1), (2, .int p2)] [] σ (LI post)
  unfold vX8_shot at h
  refine wr_aload_n (pc := 0) (dget kX8_shot 0 rfl) 0 rfl ?_
  refine wr_callVv (pc := 1) (Mc := mX8_settle) (o := 0) (rest := []) cf_X8_97 cv_X8_settle kd_0 rfl ⟨Nat.le_of_ble_eq_true rfl, Nat.le_of_ble_eq_true rfl⟩ rfl rfl (Nat.le_of_ble_eq_true rfl) (dget kX8_shot 1 rfl) (tX8_settle h) (fun σ_1 h => ?_)
  refine wr_aload_n (pc := 4) (dget kX8_shot 2 rfl) 0 rfl ?_
  refine wr_iload_n (pc := 5) (dget kX8_shot 3 rfl) 1 rfl ?_
  refine wr_callVi (pc := 6) (Mc := mX8_isShot) (o := 0) (rest := []) cf_X8_115 cv_X8_isShot kd_0 rfl ⟨Nat.le_of_ble_eq_true rfl, Nat.le_of_ble_eq_true rfl⟩ rfl rfl (Nat.le_of_ble_eq_true rfl) (dget kX8_shot 4 rfl) (tX8_isShot h) (fun r_4 σ_3 h => ?_)
  refine wr_if_eq (pc := 9) (tgt := 20) (dget kX8_shot 5 rfl) (by decide) (fun c_5 => ?_) (fun c_5 => ?_)
  · have h := h.1 c_5
    refine wr_bipush (pc := 20) (dget kX8_shot 10 rfl) bp_m2 ?_
    exact wr_iret (pc := 22) rfl (dget kX8_shot 11 rfl) ⟨_, rfl, h⟩
  · have h := h.2 c_5
    refine wr_iload_n (pc := 12) (dget kX8_shot 6 rfl) 2 rfl ?_
    refine wr_iconst (pc := 13) (dget kX8_shot 7 rfl) ic_3 ?_
    refine wr_callSi (pc := 14) (Mc := mX8_within) (rest := []) cf_X8_77 cs_X8_within ⟨Nat.le_of_ble_eq_true rfl, Nat.le_of_ble_eq_true rfl⟩ rfl rfl (Nat.le_of_ble_eq_true rfl) (dget kX8_shot 8 rfl) (tX8_within h) (fun r_7 σ_6 h => ?_)
    refine wr_if_ne (pc := 17) (tgt := 23) (dget kX8_shot 9 rfl) (by decide) (fun c_8 => ?_) (fun c_8 => ?_)
    · have h := h.2 c_8
      refine wr_aload_n (pc := 23) (dget kX8_shot 12 rfl) 0 rfl ?_
      refine wr_getRl (pc := 24) fl_X8_46 kd_0 fk_8_5 rt_0_5 (dget kX8_shot 13 rfl) ?_
      refine wr_getRl (pc := 27) fl_X8_118 kd_23 fk_2_1 rt_23_1 (dget kX8_shot 14 rfl) ?_
      refine wr_iload_n (pc := 30) (dget kX8_shot 15 rfl) 1 rfl ?_
      refine wr_iload_n (pc := 31) (dget kX8_shot 16 rfl) 2 rfl ?_
      refine wr_callVi (pc := 32) (Mc := mX5_tellShot) (o := 24) (rest := []) cf_X8_122 cv_X5_tellShot kd_24 rfl ⟨Nat.le_of_ble_eq_true rfl, Nat.le_of_ble_eq_true rfl⟩ rfl rfl (Nat.le_of_ble_eq_true rfl) (dget kX8_shot 17 rfl) (tX5_tellShot h) (fun r_10 σ_9 h => ?_)
      exact wr_iret (pc := 35) rfl (dget kX8_shot 18 rfl) ⟨_, rfl, h⟩
    · have h := h.1 c_8
      refine wr_bipush (pc := 20) (dget kX8_shot 10 rfl) bp_m2 ?_
      exact wr_iret (pc := 22) rfl (dget kX8_shot 11 rfl) ⟨_, rfl, h⟩
def vX8_rifle_48 (post : Int32 → Hp → Prop) (x1 : Int32) (x2 : Int32) (y0 : Int32) (σ : Hp) : Prop := ((x1 = 0 → (∀ σ_4 : Hp, σ_4 = wI σ 23 3 x2 → (∀ σ_5 : Hp, σ_5 = wI σ_4 0 9 (0 : Int32) → post y0 σ_5))) ∧ (¬ x1 = 0 → (∀ σ_2 : Hp, σ_2 = wI σ 23 4 x2 → (∀ σ_3 : Hp, σ_3 = wI σ_2 0 9 (0 : Int32) → post y0 σ_3))))
set_option maxHeartbeats 4000000 in
set_option maxRecDepth 100000 in
theorem tX8_rifle_48 {G : GT} {post : Int32 → Hp → Prop} {x1 : Int32} {x2 : Int32} {y0 : Int32} {σ : Hp} (h : vX8_rifle_48 post x1 x2 y0 σ) : WP G mX8_rifle 48 [(0, .ref (G.1 0)), (1, .int x1), (2, .int x2)] [.int y0] σ (LI post) := by
  unfold vX8_rifle_48 at h
  refine wr_istore_n (pc := 48) (lv' := [(3, .int y0), (0, .ref (G.1 0)), (1, .int x1), (2, .int x2)]) (dget kX8_rifle 23 rfl) (by decide) rfl ?_
  refine wr_iload_n (pc := 49) (dget kX8_rifle 24 rfl) 2 rfl ?_
  refine wr_if_ne (pc := 50) (tgt := 64) (dget kX8_rifle 25 rfl) (by decide) (fun c_1 => ?_) (fun c_1 => ?_)
  · have h := h.2 c_1
    refine wr_aload_n (pc := 64) (dget kX8_rifle 31 rfl) 1 rfl ?_
    refine wr_getRl (pc := 65) fl_X8_46 kd_0 fk_8_5 rt_0_5 (dget kX8_rifle 32 rfl) ?_
    refine wr_iload_n (pc := 68) (dget kX8_rifle 33 rfl) 3 rfl ?_
    refine wr_putI (pc := 69) fl_X8_130 kd_23 fk_2_4 (vp_nar_int _) rfl (dget kX8_rifle 34 rfl) ?_
    refine wr_tops (fun σ_2 e_σ_2 => ?_)
    have h := h σ_2 e_σ_2
    refine wr_aload_n (pc := 72) (dget kX8_rifle 35 rfl) 1 rfl ?_
    refine wr_iconst (pc := 73) (dget kX8_rifle 36 rfl) ic_0 ?_
    refine wr_putI (pc := 74) fl_X8_89 kd_0 fk_8_9 (by decide) (by decide) (dget kX8_rifle 37 rfl) ?_
    refine wr_tops (fun σ_3 e_σ_3 => ?_)
    have h := h σ_3 e_σ_3
    refine wr_iload_n (pc := 77) (dget kX8_rifle 38 rfl) 0 rfl ?_
    exact wr_iret (pc := 78) rfl (dget kX8_rifle 39 rfl) ⟨_, rfl, h⟩
  · have h := h.1 c_1
    refine wr_aload_n (pc := 53) (dget kX8_rifle 26 rfl) 1 rfl ?_
    refine wr_getRl (pc := 54) fl_X8_46 kd_0 fk_8_5 rt_0_5 (dget kX8_rifle 27 rfl) ?_
    refine wr_iload_n (pc := 57) (dget kX8_rifle 28 rfl) 3 rfl ?_
    refine wr_putI (pc := 58) fl_X8_127 kd_23 fk_2_3 (vp_nar_int _) rfl (dget kX8_rifle 29 rfl) ?_
    refine wr_tops (fun σ_4 e_σ_4 => ?_)
    have h := h σ_4 e_σ_4
    refine wr_goto (pc := 61) (tgt := 72) (dget kX8_rifle 30 rfl) (by decide) ?_
    refine wr_aload_n (pc := 72) (dget kX8_rifle 35 rfl) 1 rfl ?_
    refine wr_iconst (pc := 73) (dget kX8_rifle 36 rfl) ic_0 ?_
    refine wr_putI (pc := 74) fl_X8_89 kd_0 fk_8_9 (by decide) (by decide) (dget kX8_rifle 37 rfl) ?_
    refine wr_tops (fun σ_5 e_σ_5 => ?_)
    have h := h σ_5 e_σ_5
    refine wr_iload_n (pc := 77) (dget kX8_rifle 38 rfl) 0 rfl ?_
    exact wr_iret (pc := 78) rfl (dget kX8_rifle 39 rfl) ⟨_, rfl, h⟩
def vX8_rifle_18 (post : Int32 → Hp → Prop) (x1 : Int32) (x2 : Int32) (y0 : Int32) (y1 : Int32) (σ : Hp) : Prop := (vX8_within y1 y0 σ (fun r_2 σ_1 => ((r_2 = 0 → post (-2 : Int32) σ_1) ∧ (¬ r_2 = 0 → ((x1 = 0 → vX8_rifle_48 post x1 x2 (σ_1.1 23 3) σ_1) ∧ (¬ x1 = 0 → vX8_rifle_48 post x1 x2 (σ_1.1 23 4) σ_1))))))
set_option maxHeartbeats 4000000 in
set_option maxRecDepth 100000 in
theorem tX8_rifle_18 {G : GT} {post : Int32 → Hp → Prop} {x1 : Int32} {x2 : Int32} {y0 : Int32} {y1 : Int32} {σ : Hp} (h : vX8_rifle_18 post x1 x2 y0 y1 σ) : WP G mX8_rifle 18 [(0, .ref (G.1 0)), (1, .int x1), (2, .int x2)] [.int y0, .int y1] σ (LI post) := by
  unfold vX8_rifle_18 at h
  refine wr_callSi (pc := 18) (Mc := mX8_within) (rest := []) cf_X8_77 cs_X8_within ⟨Nat.le_of_ble_eq_true rfl, Nat.le_of_ble_eq_true rfl⟩ rfl rfl (Nat.le_of_ble_eq_true rfl) (dget kX8_rifle 10 rfl) (tX8_within h) (fun r_2 σ_1 h => ?_)
  refine wr_if_ne (pc := 21) (tgt := 27) (dget kX8_rifle 11 rfl) (by decide) (fun c_3 => ?_) (fun c_3 => ?_)
  · have h := h.2 c_3
    refine wr_iload_n (pc := 27) (dget kX8_rifle 14 rfl) 1 rfl ?_
    refine wr_if_ne (pc := 28) (tgt := 41) (dget kX8_rifle 15 rfl) (by decide) (fun c_4 => ?_) (fun c_4 => ?_)
    · have h := h.2 c_4
      refine wr_aload_n (pc := 41) (dget kX8_rifle 20 rfl) 0 rfl ?_
      refine wr_getRl (pc := 42) fl_X8_46 kd_0 fk_8_5 rt_0_5 (dget kX8_rifle 21 rfl) ?_
      refine wr_getI (pc := 45) (σ := σ_1) fl_X8_130 kd_23 fk_2_4 (dget kX8_rifle 22 rfl) ?_
      exact tX8_rifle_48 h
    · have h := h.1 c_4
      refine wr_aload_n (pc := 31) (dget kX8_rifle 16 rfl) 0 rfl ?_
      refine wr_getRl (pc := 32) fl_X8_46 kd_0 fk_8_5 rt_0_5 (dget kX8_rifle 17 rfl) ?_
      refine wr_getI (pc := 35) (σ := σ_1) fl_X8_127 kd_23 fk_2_3 (dget kX8_rifle 18 rfl) ?_
      refine wr_goto (pc := 38) (tgt := 48) (dget kX8_rifle 19 rfl) (by decide) ?_
      exact tX8_rifle_48 h
  · have h := h.1 c_3
    refine wr_bipush (pc := 24) (dget kX8_rifle 12 rfl) bp_m2 ?_
    exact wr_iret (pc := 26) rfl (dget kX8_rifle 13 rfl) ⟨_, rfl, h⟩
def vX8_rifle (p1 : Int32) (p2 : Int32) (σ : Hp) (post : Int32 → Hp → Prop) : Prop := (vX8_within p1 (2 : Int32) σ (fun r_2 σ_1 => ((r_2 = 0 → post (-2 : Int32) σ_1) ∧ (¬ r_2 = 0 → ((p1 = 0 → vX8_rifle_18 post p1 p2 (5 : Int32) p2 σ_1) ∧ (¬ p1 = 0 → vX8_rifle_18 post p1 p2 (4 : Int32) p2 σ_1))))))
set_option maxHeartbeats 4000000 in
set_option maxRecDepth 100000 in
theorem tX8_rifle {G : GT} {p1 : Int32} {p2 : Int32} {σ : Hp} {post : Int32 → Hp → Prop} (h : vX8_rifle p1 p2 σ post) : CT G mX8_rifle [.ref (G.1 0), .int p1, .int p2] σ (LI post) := by
  refine CT.of (by decide +kernel) (Nat.le_of_ble_eq_true rfl) ?_
  show WP G mX8_rifle 0 [(0, .ref (G.1 0)), (1, .int p1), (2, .int p2)] [] σ (LI post)
  unfold vX8_rifle at h
  refine wr_iload_n (pc := 0) (dget kX8_rifle 0 rfl) 1 rfl ?_
  refine wr_iconst (pc := 1) (dget kX8_rifle 1 rfl) ic_2 ?_
  refine wr_callSi (pc := 2) (Mc := mX8_within) (rest := []) cf_X8_77 cs_X8_within ⟨Nat.le_of_ble_eq_true rfl, Nat.le_of_ble_eq_true rfl⟩ rfl rfl (Nat.le_of_ble_eq_true rfl) (dget kX8_rifle 2 rfl) (tX8_within h) (fun r_2 σ_1 h => ?_)
  refine wr_if_eq (pc := 5) (tgt := 24) (dget kX8_rifle 3 rfl) (by decide) (fun c_3 => ?_) (fun c_3 => ?_)
  · have h := h.1 c_3
    refine wr_bipush (pc := 24) (dget kX8_rifle 12 rfl) bp_m2 ?_
    exact wr_iret (pc := 26) rfl (dget kX8_rifle 13 rfl) ⟨_, rfl, h⟩
  · have h := h.2 c_3
    refine wr_iload_n (pc := 8) (dget kX8_rifle 4 rfl) 2 rfl ?_
    refine wr_iload_n (pc := 9) (dget kX8_rifle 5 rfl) 1 rfl ?_
    refine wr_if_ne (pc := 10) (tgt := 17) (dget kX8_rifle 6 rfl) (by decide) (fun c_4 => ?_) (fun c_4 => ?_)
    · have h := h.2 c_4
      refine wr_iconst (pc := 17) (dget kX8_rifle 9 rfl) ic_4 ?_
      exact tX8_rifle_18 h
    · have h := h.1 c_4
      refine wr_iconst (pc := 13) (dget kX8_rifle 7 rfl) ic_5 ?_
      refine wr_goto (pc := 14) (tgt := 18) (dget kX8_rifle 8 rfl) (by decide) ?_
      exact tX8_rifle_18 h
def vX8_isEvent (p1 : Int32) (p2 : Int32) (p3 : Int32) (σ : Hp) (post : Int32 → Hp → Prop) : Prop := (vX8_within p1 (3 : Int32) σ (fun r_2 σ_1 => ((r_2 = 0 → post (0 : Int32) σ_1) ∧ (¬ r_2 = 0 → (vX8_within p2 (24 : Int32) σ_1 (fun r_5 σ_4 => ((r_5 = 0 → post (0 : Int32) σ_4) ∧ (¬ r_5 = 0 → (vX8_within p3 (12 : Int32) σ_4 (fun r_8 σ_7 => ((r_8 = 0 → post (0 : Int32) σ_7) ∧ (¬ r_8 = 0 → post (1 : Int32) σ_7))))))))))))
set_option maxHeartbeats 4000000 in
set_option maxRecDepth 100000 in
theorem tX8_isEvent {G : GT} {p1 : Int32} {p2 : Int32} {p3 : Int32} {σ : Hp} {post : Int32 → Hp → Prop} (h : vX8_isEvent p1 p2 p3 σ post) : CT G mX8_isEvent [.int p1, .int p2, .int p3] σ (LI post) := by
  refine CT.of (by decide +kernel) (Nat.le_of_ble_eq_true rfl) ?_
  show WP G mX8_isEvent 0 [(0, .int p1), (1, .int p2), (2, .int p3)] [] σ (LI post)
  unfold vX8_isEvent at h
  refine wr_iload_n (pc := 0) (dget kX8_isEvent 0 rfl) 0 rfl ?_
  refine wr_iconst (pc := 1) (dget kX8_isEvent 1 rfl) ic_3 ?_
  refine wr_callSi (pc := 2) (Mc := mX8_within) (rest := []) cf_X8_77 cs_X8_within ⟨Nat.le_of_ble_eq_true rfl, Nat.le_of_ble_eq_true rfl⟩ rfl rfl (Nat.le_of_ble_eq_true rfl) (dget kX8_isEvent 2 rfl) (tX8_within h) (fun r_2 σ_1 h => ?_)
  refine wr_if_eq (pc := 5) (tgt := 30) (dget kX8_isEvent 3 rfl) (by decide) (fun c_3 => ?_) (fun c_3 => ?_)
  · have h := h.1 c_3
    refine wr_iconst (pc := 30) (dget kX8_isEvent 14 rfl) ic_0 ?_
    exact wr_zret (pc := 31) rfl (by decide) (dget kX8_isEvent 15 rfl) ⟨_, rfl, h⟩
  · have h := h.2 c_3
    refine wr_iload_n (pc := 8) (dget kX8_isEvent 4 rfl) 1 rfl ?_
    refine wr_bipush (pc := 9) (dget kX8_isEvent 5 rfl) bp_24 ?_
    refine wr_callSi (pc := 11) (Mc := mX8_within) (rest := []) cf_X8_77 cs_X8_within ⟨Nat.le_of_ble_eq_true rfl, Nat.le_of_ble_eq_true rfl⟩ rfl rfl (Nat.le_of_ble_eq_true rfl) (dget kX8_isEvent 6 rfl) (tX8_within h) (fun r_5 σ_4 h => ?_)
    refine wr_if_eq (pc := 14) (tgt := 30) (dget kX8_isEvent 7 rfl) (by decide) (fun c_6 => ?_) (fun c_6 => ?_)
    · have h := h.1 c_6
      refine wr_iconst (pc := 30) (dget kX8_isEvent 14 rfl) ic_0 ?_
      exact wr_zret (pc := 31) rfl (by decide) (dget kX8_isEvent 15 rfl) ⟨_, rfl, h⟩
    · have h := h.2 c_6
      refine wr_iload_n (pc := 17) (dget kX8_isEvent 8 rfl) 2 rfl ?_
      refine wr_bipush (pc := 18) (dget kX8_isEvent 9 rfl) bp_12 ?_
      refine wr_callSi (pc := 20) (Mc := mX8_within) (rest := []) cf_X8_77 cs_X8_within ⟨Nat.le_of_ble_eq_true rfl, Nat.le_of_ble_eq_true rfl⟩ rfl rfl (Nat.le_of_ble_eq_true rfl) (dget kX8_isEvent 10 rfl) (tX8_within h) (fun r_8 σ_7 h => ?_)
      refine wr_if_eq (pc := 23) (tgt := 30) (dget kX8_isEvent 11 rfl) (by decide) (fun c_9 => ?_) (fun c_9 => ?_)
      · have h := h.1 c_9
        refine wr_iconst (pc := 30) (dget kX8_isEvent 14 rfl) ic_0 ?_
        exact wr_zret (pc := 31) rfl (by decide) (dget kX8_isEvent 15 rfl) ⟨_, rfl, h⟩
      · have h := h.2 c_9
        refine wr_iconst (pc := 26) (dget kX8_isEvent 12 rfl) ic_1 ?_
        refine wr_goto (pc := 27) (tgt := 31) (dget kX8_isEvent 13 rfl) (by decide) ?_
        exact wr_zret (pc := 31) rfl (by decide) (dget kX8_isEvent 15 rfl) ⟨_, rfl, h⟩
def vX8_event (p1 : Int32) (p2 : Int32) (p3 : Int32) (σ : Hp) (post : Int32 → Hp → Prop) : Prop := (vX8_isEvent p1 p2 p3 σ (fun r_2 σ_1 => ((r_2 = 0 → post (-2 : Int32) σ_1) ∧ (¬ r_2 = 0 → (vX1_isFull  σ_1 (fun r_5 σ_4 => ((r_5 = 0 → (vX1_append p1 p2 p3 σ_4 (fun σ_7 => (∀ σ_9 : Hp, σ_9 = wI σ_7 0 9 (0 : Int32) → post (σ_9.1 10 4) σ_9)))) ∧ (¬ r_5 = 0 → post (-4 : Int32) σ_4))))))))
set_option maxHeartbeats 4000000 in
set_option maxRecDepth 100000 in
theorem tX8_event {G : GT} {p1 : Int32} {p2 : Int32} {p3 : Int32} {σ : Hp} {post : Int32 → Hp → Prop} (h : vX8_event p1 p2 p3 σ post) : CT G mX8_event [.ref (G.1 0), .int p1, .int p2, .int p3] σ (LI post) := by
  refine CT.of (by decide +kernel) (Nat.le_of_ble_eq_true rfl) ?_
  show WP G mX8_event 0 [(0, .ref (G.1 0)), (1, .int p1), (2, .int p2), (3, .int p3)] [] σ (LI post)
  unfold vX8_event at h
  refine wr_iload_n (pc := 0) (dget kX8_event 0 rfl) 1 rfl ?_
  refine wr_iload_n (pc := 1) (dget kX8_event 1 rfl) 2 rfl ?_
  refine wr_iload_n (pc := 2) (dget kX8_event 2 rfl) 3 rfl ?_
  refine wr_callSi (pc := 3) (Mc := mX8_isEvent) (rest := []) cf_X8_133 cs_X8_isEvent ⟨Nat.le_of_ble_eq_true rfl, Nat.le_of_ble_eq_true rfl⟩ rfl rfl (Nat.le_of_ble_eq_true rfl) (dget kX8_event 3 rfl) (tX8_isEvent h) (fun r_2 σ_1 h => ?_)
  refine wr_if_ne (pc := 6) (tgt := 12) (dget kX8_event 4 rfl) (by decide) (fun c_3 => ?_) (fun c_3 => ?_)
  · have h := h.2 c_3
    refine wr_aload_n (pc := 12) (dget kX8_event 7 rfl) 0 rfl ?_
    refine wr_getRl (pc := 13) fl_X8_25 kd_0 fk_8_2 rt_0_2 (dget kX8_event 8 rfl) ?_
    refine wr_callVi (pc := 16) (Mc := mX1_isFull) (o := 10) (rest := []) cf_X8_137 cv_X1_isFull kd_10 rfl ⟨Nat.le_of_ble_eq_true rfl, Nat.le_of_ble_eq_true rfl⟩ rfl rfl (Nat.le_of_ble_eq_true rfl) (dget kX8_event 9 rfl) (tX1_isFull h) (fun r_5 σ_4 h => ?_)
    refine wr_if_eq (pc := 19) (tgt := 25) (dget kX8_event 10 rfl) (by decide) (fun c_6 => ?_) (fun c_6 => ?_)
    · have h := h.1 c_6
      refine wr_aload_n (pc := 25) (dget kX8_event 13 rfl) 0 rfl ?_
      refine wr_getRl (pc := 26) fl_X8_25 kd_0 fk_8_2 rt_0_2 (dget kX8_event 14 rfl) ?_
      refine wr_iload_n (pc := 29) (dget kX8_event 15 rfl) 1 rfl ?_
      refine wr_iload_n (pc := 30) (dget kX8_event 16 rfl) 2 rfl ?_
      refine wr_iload_n (pc := 31) (dget kX8_event 17 rfl) 3 rfl ?_
      refine wr_callVv (pc := 32) (Mc := mX1_append) (o := 10) (rest := []) cf_X8_138 cv_X1_append kd_10 rfl ⟨Nat.le_of_ble_eq_true rfl, Nat.le_of_ble_eq_true rfl⟩ rfl rfl (Nat.le_of_ble_eq_true rfl) (dget kX8_event 18 rfl) (tX1_append h) (fun σ_7 h => ?_)
      refine wr_aload_n (pc := 35) (dget kX8_event 19 rfl) 0 rfl ?_
      refine wr_iconst (pc := 36) (dget kX8_event 20 rfl) ic_0 ?_
      refine wr_putI (pc := 37) fl_X8_89 kd_0 fk_8_9 (by decide) (by decide) (dget kX8_event 21 rfl) ?_
      refine wr_tops (fun σ_9 e_σ_9 => ?_)
      have h := h σ_9 e_σ_9
      refine wr_aload_n (pc := 40) (dget kX8_event 22 rfl) 0 rfl ?_
      refine wr_getRl (pc := 41) fl_X8_25 kd_0 fk_8_2 rt_0_2 (dget kX8_event 23 rfl) ?_
      refine wr_getI (pc := 44) (σ := σ_9) fl_X8_141 kd_10 fk_1_4 (dget kX8_event 24 rfl) ?_
      exact wr_iret (pc := 47) rfl (dget kX8_event 25 rfl) ⟨_, rfl, h⟩
    · have h := h.2 c_6
      refine wr_bipush (pc := 22) (dget kX8_event 11 rfl) bp_m4 ?_
      exact wr_iret (pc := 24) rfl (dget kX8_event 12 rfl) ⟨_, rfl, h⟩
  · have h := h.1 c_3
    refine wr_bipush (pc := 9) (dget kX8_event 5 rfl) bp_m2 ?_
    exact wr_iret (pc := 11) rfl (dget kX8_event 6 rfl) ⟨_, rfl, h⟩
def vX8_back (σ : Hp) (post : Int32 → Hp → Prop) : Prop := (((σ.1 10 4) = 0 → post (-3 : Int32) σ) ∧ (¬ (σ.1 10 4) = 0 → (vX1_dropLast  σ (fun σ_2 => (∀ σ_4 : Hp, σ_4 = wI σ_2 0 9 (0 : Int32) → post (σ_4.1 10 4) σ_4)))))
set_option maxHeartbeats 4000000 in
set_option maxRecDepth 100000 in
theorem tX8_back {G : GT} {σ : Hp} {post : Int32 → Hp → Prop} (h : vX8_back  σ post) : CT G mX8_back [.ref (G.1 0)] σ (LI post) := by
  refine CT.of (by decide +kernel) (Nat.le_of_ble_eq_true rfl) ?_
  show WP G mX8_back 0 [(0, .ref (G.1 0))] [] σ (LI post)
  unfold vX8_back at h
  refine wr_aload_n (pc := 0) (dget kX8_back 0 rfl) 0 rfl ?_
  refine wr_getRl (pc := 1) fl_X8_25 kd_0 fk_8_2 rt_0_2 (dget kX8_back 1 rfl) ?_
  refine wr_getI (pc := 4) (σ := σ) fl_X8_141 kd_10 fk_1_4 (dget kX8_back 2 rfl) ?_
  refine wr_if_ne (pc := 7) (tgt := 13) (dget kX8_back 3 rfl) (by decide) (fun c_1 => ?_) (fun c_1 => ?_)
  · have h := h.2 c_1
    refine wr_aload_n (pc := 13) (dget kX8_back 6 rfl) 0 rfl ?_
    refine wr_getRl (pc := 14) fl_X8_25 kd_0 fk_8_2 rt_0_2 (dget kX8_back 7 rfl) ?_
    refine wr_callVv (pc := 17) (Mc := mX1_dropLast) (o := 10) (rest := []) cf_X8_144 cv_X1_dropLast kd_10 rfl ⟨Nat.le_of_ble_eq_true rfl, Nat.le_of_ble_eq_true rfl⟩ rfl rfl (Nat.le_of_ble_eq_true rfl) (dget kX8_back 8 rfl) (tX1_dropLast h) (fun σ_2 h => ?_)
    refine wr_aload_n (pc := 20) (dget kX8_back 9 rfl) 0 rfl ?_
    refine wr_iconst (pc := 21) (dget kX8_back 10 rfl) ic_0 ?_
    refine wr_putI (pc := 22) fl_X8_89 kd_0 fk_8_9 (by decide) (by decide) (dget kX8_back 11 rfl) ?_
    refine wr_tops (fun σ_4 e_σ_4 => ?_)
    have h := h σ_4 e_σ_4
    refine wr_aload_n (pc := 25) (dget kX8_back 12 rfl) 0 rfl ?_
    refine wr_getRl (pc := 26) fl_X8_25 kd_0 fk_8_2 rt_0_2 (dget kX8_back 13 rfl) ?_
    refine wr_getI (pc := 29) (σ := σ_4) fl_X8_141 kd_10 fk_1_4 (dget kX8_back 14 rfl) ?_
    exact wr_iret (pc := 32) rfl (dget kX8_back 15 rfl) ⟨_, rfl, h⟩
  · have h := h.1 c_1
    refine wr_bipush (pc := 10) (dget kX8_back 4 rfl) bp_m3 ?_
    exact wr_iret (pc := 12) rfl (dget kX8_back 5 rfl) ⟨_, rfl, h⟩
def vX8_finding (p1 : Int32) (σ : Hp) (post : Int32 → Hp → Prop) : Prop := (∀ σ_1 : Hp, σ_1 = wI σ 0 15 p1 → post ((-10 : Int32) - p1) σ_1)
set_option maxHeartbeats 4000000 in
set_option maxRecDepth 100000 in
theorem tX8_finding {G : GT} {p1 : Int32} {σ : Hp} {post : Int32 → Hp → Prop} (h : vX8_finding p1 σ post) : CT G mX8_finding [.ref (G.1 0), .int p1] σ (LI post) := by
  refine CT.of (by decide +kernel) (Nat.le_of_ble_eq_true rfl) ?_
  show WP G mX8_finding 0 [(0, .ref (G.1 0)), (1, .int p1)] [] σ (LI post)
  unfold vX8_finding at h
  refine wr_aload_n (pc := 0) (dget kX8_finding 0 rfl) 0 rfl ?_
  refine wr_iload_n (pc := 1) (dget kX8_finding 1 rfl) 1 rfl ?_
  refine wr_putI (pc := 2) fl_X8_311 kd_0 fk_8_15 (vp_nar_int _) rfl (dget kX8_finding 2 rfl) ?_
  refine wr_tops (fun σ_1 e_σ_1 => ?_)
  have h := h σ_1 e_σ_1
  refine wr_bipush (pc := 5) (dget kX8_finding 3 rfl) bp_m10 ?_
  refine wr_iload_n (pc := 7) (dget kX8_finding 4 rfl) 1 rfl ?_
  refine wr_isub (pc := 8) (dget kX8_finding 5 rfl) ?_
  exact wr_iret (pc := 9) rfl (dget kX8_finding 6 rfl) ⟨_, rfl, h⟩
def vX8_refuseSheet (p1 : Int32) (σ : Hp) (post : Int32 → Hp → Prop) : Prop := (vX8_within p1 (4 : Int32) σ (fun r_2 σ_1 => ((r_2 = 0 → post (-2 : Int32) σ_1) ∧ (¬ r_2 = 0 → (vp_in p1 4 ∧ (kd (rt 51 p1.toNatClampNeg) = 4 ∧ (((σ_1.1 (rt 51 p1.toNatClampNeg) 3) = 0 → post (0 : Int32) σ_1) ∧ (¬ (σ_1.1 (rt 51 p1.toNatClampNeg) 3) = 0 → (vX8_finding (1 : Int32) σ_1 (fun r_8 σ_7 => post r_8 σ_7))))))))))
set_option maxHeartbeats 4000000 in
set_option maxRecDepth 100000 in
theorem tX8_refuseSheet {G : GT} {p1 : Int32} {σ : Hp} {post : Int32 → Hp → Prop} (h : vX8_refuseSheet p1 σ post) : CT G mX8_refuseSheet [.ref (G.1 0), .int p1] σ (LI post) := by
  refine CT.of (by decide +kernel) (Nat.le_of_ble_eq_true rfl) ?_
  show WP G mX8_refuseSheet 0 [(0, .ref (G.1 0)), (1, .int p1)] [] σ (LI post)
  unfold vX8_refuseSheet at h
  refine wr_iload_n (pc := 0) (dget kX8_refuseSheet 0 rfl) 1 rfl ?_
  refine wr_iconst (pc := 1) (dget kX8_refuseSheet 1 rfl) ic_4 ?_
  refine wr_callSi (pc := 2) (Mc := mX8_within) (rest := []) cf_X8_77 cs_X8_within ⟨Nat.le_of_ble_eq_true rfl, Nat.le_of_ble_eq_true rfl⟩ rfl rfl (Nat.le_of_ble_eq_true rfl) (dget kX8_refuseSheet 2 rfl) (tX8_within h) (fun r_2 σ_1 h => ?_)
  refine wr_if_ne (pc := 5) (tgt := 11) (dget kX8_refuseSheet 3 rfl) (by decide) (fun c_3 => ?_) (fun c_3 => ?_)
  · have h := h.2 c_3
    refine wr_aload_n (pc := 11) (dget kX8_refuseSheet 6 rfl) 0 rfl ?_
    refine wr_getRl (pc := 12) fl_X8_62 kd_0 fk_8_8 rt_0_8 (dget kX8_refuseSheet 7 rfl) ?_
    refine wr_iload_n (pc := 15) (dget kX8_refuseSheet 8 rfl) 1 rfl ?_
    obtain ⟨q_4, h⟩ := h
    refine wr_aaldl (pc := 16) (σ := σ_1) rl_51 q_4 (dget kX8_refuseSheet 9 rfl) ?_
    obtain ⟨q_5, h⟩ := h
    refine wr_getI (pc := 17) (σ := σ_1) fl_X8_244 q_5 fk_4_3 (dget kX8_refuseSheet 10 rfl) ?_
    refine wr_if_eq (pc := 20) (tgt := 31) (dget kX8_refuseSheet 11 rfl) (by decide) (fun c_6 => ?_) (fun c_6 => ?_)
    · have h := h.1 c_6
      refine wr_iconst (pc := 31) (dget kX8_refuseSheet 16 rfl) ic_0 ?_
      exact wr_iret (pc := 32) rfl (dget kX8_refuseSheet 17 rfl) ⟨_, rfl, h⟩
    · have h := h.2 c_6
      refine wr_aload_n (pc := 23) (dget kX8_refuseSheet 12 rfl) 0 rfl ?_
      refine wr_iconst (pc := 24) (dget kX8_refuseSheet 13 rfl) ic_1 ?_
      refine wr_callVi (pc := 25) (Mc := mX8_finding) (o := 0) (rest := []) cf_X8_238 cv_X8_finding kd_0 rfl ⟨Nat.le_of_ble_eq_true rfl, Nat.le_of_ble_eq_true rfl⟩ rfl rfl (Nat.le_of_ble_eq_true rfl) (dget kX8_refuseSheet 14 rfl) (tX8_finding h) (fun r_8 σ_7 h => ?_)
      refine wr_goto (pc := 28) (tgt := 32) (dget kX8_refuseSheet 15 rfl) (by decide) ?_
      exact wr_iret (pc := 32) rfl (dget kX8_refuseSheet 17 rfl) ⟨_, rfl, h⟩
  · have h := h.1 c_3
    refine wr_bipush (pc := 8) (dget kX8_refuseSheet 4 rfl) bp_m2 ?_
    exact wr_iret (pc := 10) rfl (dget kX8_refuseSheet 5 rfl) ⟨_, rfl, h⟩
def vX8_read_25 (post : Int32 → Hp → Prop) (ex : Int32 → Hp → Prop) (a3 : Nat) : Nat → Int32 → Int32 → Hp → Prop
  | 0 => fun _ _ _ => False
  | n + 1 => fun x4 x5 σ => (kd a3 = 4 ∧ (((σ.1 a3 2) ≤ (x5 + (2 : Int32)) → (ex x4 σ)) ∧ (¬ (σ.1 a3 2) ≤ (x5 + (2 : Int32)) → (vp_in x5 (iln (rt a3 0)) ∧ (vp_in (x5 + (1 : Int32)) (iln (rt a3 0)) ∧ (vp_in (x5 + (2 : Int32)) (iln (rt a3 0)) ∧ (vX8_event (σ.1 (rt a3 0) x5.toNatClampNeg) (σ.1 (rt a3 0) ((x5 + (1 : Int32))).toNatClampNeg) (σ.1 (rt a3 0) ((x5 + (2 : Int32))).toNatClampNeg) σ (fun r_7 σ_6 => ((0 ≤ r_7 → (∀ x4_9 : Int32, x4_9 = x4 + (1 : Int32) → (∀ x5_10 : Int32, x5_10 = x5 + (3 : Int32) → vX8_read_25 post ex a3 n x4_9 x5_10 σ_6))) ∧ (¬ 0 ≤ r_7 → (ex x4 σ_6)))))))))))
set_option maxHeartbeats 4000000 in
set_option maxRecDepth 100000 in
theorem tX8_read_25 {G : GT} {post : Int32 → Hp → Prop} {ex : Int32 → Hp → Prop} {a3 : Nat} (hex : ∀ (z4 : Int32) (τ : Hp), ex z4 τ → WP G mX8_read 84 [(4, .int z4)] [] τ (LI post)) : ∀ (n : Nat) (x4 : Int32) (x5 : Int32) (σ : Hp), vX8_read_25 post ex a3 n x4 x5 σ → WP G mX8_read 25 [(0, .ref (G.1 0)), (3, .ref (G.1 a3)), (4, .int x4), (5, .int x5)] [] σ (LI post) := by
  intro n
  induction n with
  | zero => intro x4 x5 σ h; exact False.elim h
  | succ n ih =>
    intro x4 x5 σ h
    simp only [vX8_read_25] at h
    refine wr_iload (pc := 25) (dget kX8_read 17 rfl) 3 rfl ?_
    refine wr_iconst (pc := 27) (dget kX8_read 18 rfl) ic_2 ?_
    refine wr_iadd (pc := 28) (dget kX8_read 19 rfl) ?_
    refine wr_aload_n (pc := 29) (dget kX8_read 20 rfl) 1 rfl ?_
    obtain ⟨q_1, h⟩ := h
    refine wr_getI (pc := 30) (σ := σ) fl_X8_151 q_1 fk_4_2 (dget kX8_read 21 rfl) ?_
    refine wr_icmp_ge (pc := 33) (tgt := 84) (dget kX8_read 22 rfl) (by decide) (fun c_2 => ?_) (fun c_2 => ?_)
    · have h := h.1 c_2
      refine wr_sub [2] rfl ?_
      exact hex _ _ h
    · have h := h.2 c_2
      refine wr_aload_n (pc := 36) (dget kX8_read 23 rfl) 0 rfl ?_
      refine wr_aload_n (pc := 37) (dget kX8_read 24 rfl) 1 rfl ?_
      refine wr_getR (pc := 38) fl_X8_152 q_1 fk_4_0 (dget kX8_read 25 rfl) ?_
      refine wr_iload (pc := 41) (dget kX8_read 26 rfl) 3 rfl ?_
      obtain ⟨q_3, h⟩ := h
      refine wr_ialdl (pc := 43) (σ := σ) rfl q_3 (dget kX8_read 27 rfl) ?_
      refine wr_aload_n (pc := 44) (dget kX8_read 28 rfl) 1 rfl ?_
      refine wr_getR (pc := 45) fl_X8_152 q_1 fk_4_0 (dget kX8_read 29 rfl) ?_
      refine wr_iload (pc := 48) (dget kX8_read 30 rfl) 3 rfl ?_
      refine wr_iconst (pc := 50) (dget kX8_read 31 rfl) ic_1 ?_
      refine wr_iadd (pc := 51) (dget kX8_read 32 rfl) ?_
      obtain ⟨q_4, h⟩ := h
      refine wr_ialdl (pc := 52) (σ := σ) rfl q_4 (dget kX8_read 33 rfl) ?_
      refine wr_aload_n (pc := 53) (dget kX8_read 34 rfl) 1 rfl ?_
      refine wr_getR (pc := 54) fl_X8_152 q_1 fk_4_0 (dget kX8_read 35 rfl) ?_
      refine wr_iload (pc := 57) (dget kX8_read 36 rfl) 3 rfl ?_
      refine wr_iconst (pc := 59) (dget kX8_read 37 rfl) ic_2 ?_
      refine wr_iadd (pc := 60) (dget kX8_read 38 rfl) ?_
      obtain ⟨q_5, h⟩ := h
      refine wr_ialdl (pc := 61) (σ := σ) rfl q_5 (dget kX8_read 39 rfl) ?_
      refine wr_callVi (pc := 62) (Mc := mX8_event) (o := 0) (rest := []) cf_X8_155 cv_X8_event kd_0 rfl ⟨Nat.le_of_ble_eq_true rfl, Nat.le_of_ble_eq_true rfl⟩ rfl rfl (Nat.le_of_ble_eq_true rfl) (dget kX8_read 40 rfl) (tX8_event h) (fun r_7 σ_6 h => ?_)
      refine wr_istore (pc := 65) (lv' := [(6, .int r_7), (0, .ref (G.1 0)), (3, .ref (G.1 a3)), (4, .int x4), (5, .int x5)]) (dget kX8_read 41 rfl) (by decide) rfl ?_
      refine wr_iload (pc := 67) (dget kX8_read 42 rfl) 0 rfl ?_
      refine wr_if_ge (pc := 69) (tgt := 75) (dget kX8_read 43 rfl) (by decide) (fun c_8 => ?_) (fun c_8 => ?_)
      · have h := h.1 c_8
        obtain ⟨x4_9, e_x4_9⟩ : ∃ y : Int32, y = x4 + (1 : Int32) := ⟨_, rfl⟩
        have h := h x4_9 e_x4_9
        refine wr_iinc (pc := 75) (v := x4_9) (lv' := [(4, .int x4_9), (6, .int r_7), (0, .ref (G.1 0)), (3, .ref (G.1 a3)), (5, .int x5)]) (dget kX8_read 45 rfl) 3 rfl (by rw [e_x4_9, ic_1]) (by decide) rfl ?_
        obtain ⟨x5_10, e_x5_10⟩ : ∃ y : Int32, y = x5 + (3 : Int32) := ⟨_, rfl⟩
        have h := h x5_10 e_x5_10
        refine wr_iinc (pc := 78) (v := x5_10) (lv' := [(5, .int x5_10), (4, .int x4_9), (6, .int r_7), (0, .ref (G.1 0)), (3, .ref (G.1 a3))]) (dget kX8_read 46 rfl) 4 rfl (by rw [e_x5_10, ic_3]) (by decide) rfl ?_
        refine wr_goto (pc := 81) (tgt := 25) (dget kX8_read 47 rfl) (by decide) ?_
        refine wr_sub [3, 4, 1, 0] rfl ?_
        exact ih _ _ _ h
      · have h := h.2 c_8
        refine wr_goto (pc := 72) (tgt := 84) (dget kX8_read 44 rfl) (by decide) ?_
        refine wr_sub [3] rfl ?_
        exact hex _ _ h
def vX8_read (p1 : Int32) (σ : Hp) (post : Int32 → Hp → Prop) : Prop := (vX8_refuseSheet p1 σ (fun r_2 σ_1 => ((r_2 = 0 → (vp_in p1 4 ∧ (∃ fu : Nat, vX8_read_25 post (fun z4_5 σ_6 => post z4_5 σ_6) (rt 51 p1.toNatClampNeg) fu (0 : Int32) (0 : Int32) σ_1))) ∧ (¬ r_2 = 0 → post r_2 σ_1))))
set_option maxHeartbeats 4000000 in
set_option maxRecDepth 100000 in
theorem tX8_read {G : GT} {p1 : Int32} {σ : Hp} {post : Int32 → Hp → Prop} (h : vX8_read p1 σ post) : CT G mX8_read [.ref (G.1 0), .int p1] σ (LI post) := by
  refine CT.of (by decide +kernel) (Nat.le_of_ble_eq_true rfl) ?_
  show WP G mX8_read 0 [(0, .ref (G.1 0)), (1, .int p1)] [] σ (LI post)
  unfold vX8_read at h
  refine wr_aload_n (pc := 0) (dget kX8_read 0 rfl) 0 rfl ?_
  refine wr_iload_n (pc := 1) (dget kX8_read 1 rfl) 1 rfl ?_
  refine wr_callVi (pc := 2) (Mc := mX8_refuseSheet) (o := 0) (rest := []) cf_X8_147 cv_X8_refuseSheet kd_0 rfl ⟨Nat.le_of_ble_eq_true rfl, Nat.le_of_ble_eq_true rfl⟩ rfl rfl (Nat.le_of_ble_eq_true rfl) (dget kX8_read 2 rfl) (tX8_refuseSheet h) (fun r_2 σ_1 h => ?_)
  refine wr_istore_n (pc := 5) (lv' := [(2, .int r_2), (0, .ref (G.1 0)), (1, .int p1)]) (dget kX8_read 3 rfl) (by decide) rfl ?_
  refine wr_iload_n (pc := 6) (dget kX8_read 4 rfl) 0 rfl ?_
  refine wr_if_eq (pc := 7) (tgt := 12) (dget kX8_read 5 rfl) (by decide) (fun c_3 => ?_) (fun c_3 => ?_)
  · have h := h.1 c_3
    refine wr_aload_n (pc := 12) (dget kX8_read 8 rfl) 1 rfl ?_
    refine wr_getRl (pc := 13) fl_X8_62 kd_0 fk_8_8 rt_0_8 (dget kX8_read 9 rfl) ?_
    refine wr_iload_n (pc := 16) (dget kX8_read 10 rfl) 2 rfl ?_
    obtain ⟨q_4, h⟩ := h
    refine wr_aaldl (pc := 17) (σ := σ_1) rl_51 q_4 (dget kX8_read 11 rfl) ?_
    refine wr_astore_n (pc := 18) (lv' := [(3, .ref (G.1 (rt 51 p1.toNatClampNeg))), (2, .int r_2), (0, .ref (G.1 0)), (1, .int p1)]) (dget kX8_read 12 rfl) (by decide) rfl ?_
    refine wr_iconst (pc := 19) (dget kX8_read 13 rfl) ic_0 ?_
    refine wr_istore (pc := 20) (lv' := [(4, .int (0 : Int32)), (3, .ref (G.1 (rt 51 p1.toNatClampNeg))), (2, .int r_2), (0, .ref (G.1 0)), (1, .int p1)]) (dget kX8_read 14 rfl) (by decide) rfl ?_
    refine wr_iconst (pc := 22) (dget kX8_read 15 rfl) ic_0 ?_
    refine wr_istore (pc := 23) (lv' := [(5, .int (0 : Int32)), (4, .int (0 : Int32)), (3, .ref (G.1 (rt 51 p1.toNatClampNeg))), (2, .int r_2), (0, .ref (G.1 0)), (1, .int p1)]) (dget kX8_read 16 rfl) (by decide) rfl ?_
    obtain ⟨fu, h⟩ := h
    refine wr_sub [4, 2, 1, 0] rfl ?_
    refine tX8_read_25 (fun z4_5 σ_6 h => ?_) fu _ _ _ h
    refine wr_iload (pc := 84) (dget kX8_read 48 rfl) 0 rfl ?_
    exact wr_iret (pc := 86) rfl (dget kX8_read 49 rfl) ⟨_, rfl, h⟩
  · have h := h.2 c_3
    refine wr_iload_n (pc := 10) (dget kX8_read 6 rfl) 0 rfl ?_
    exact wr_iret (pc := 11) rfl (dget kX8_read 7 rfl) ⟨_, rfl, h⟩
def vX8_at (p1 : Int32) (p2 : Int32) (p3 : Int32) (σ : Hp) (post : Int32 → Hp → Prop) : Prop := (vX8_settle  σ (fun σ_1 => (vX8_within p1 (24 : Int32) σ_1 (fun r_4 σ_3 => ((r_4 = 0 → post (-2 : Int32) σ_3) ∧ (¬ r_4 = 0 → (vX8_isDuck p2 σ_3 (fun r_7 σ_6 => ((r_7 = 0 → post (-2 : Int32) σ_6) ∧ (¬ r_7 = 0 → (vX8_within p3 (3 : Int32) σ_6 (fun r_10 σ_9 => ((r_10 = 0 → post (-2 : Int32) σ_9) ∧ (¬ r_10 = 0 → (vX2_tellDuckBehind 23 p1 p2 p3 σ_9 (fun r_13 σ_12 => post r_13 σ_12))))))))))))))))
set_option maxHeartbeats 4000000 in
set_option maxRecDepth 100000 in
theorem tX8_at {G : GT} {p1 : Int32} {p2 : Int32} {p3 : Int32} {σ : Hp} {post : Int32 → Hp → Prop} (h : vX8_at p1 p2 p3 σ post) : CT G mX8_at [.ref (G.1 0), .int p1, .int p2, .int p3] σ (LI post) := by
  refine CT.of (by decide +kernel) (Nat.le_of_ble_eq_true rfl) ?_
  show WP G mX8_at 0 [(0, .ref (G.1 0)), (1, .int p1), (2, .int p2), (3, .int p3)] [] σ (LI post)
  unfold vX8_at at h
  refine wr_aload_n (pc := 0) (dget kX8_at 0 rfl) 0 rfl ?_
  refine wr_callVv (pc := 1) (Mc := mX8_settle) (o := 0) (rest := []) cf_X8_97 cv_X8_settle kd_0 rfl ⟨Nat.le_of_ble_eq_true rfl, Nat.le_of_ble_eq_true rfl⟩ rfl rfl (Nat.le_of_ble_eq_true rfl) (dget kX8_at 1 rfl) (tX8_settle h) (fun σ_1 h => ?_)
  refine wr_iload_n (pc := 4) (dget kX8_at 2 rfl) 1 rfl ?_
  refine wr_bipush (pc := 5) (dget kX8_at 3 rfl) bp_24 ?_
  refine wr_callSi (pc := 7) (Mc := mX8_within) (rest := []) cf_X8_77 cs_X8_within ⟨Nat.le_of_ble_eq_true rfl, Nat.le_of_ble_eq_true rfl⟩ rfl rfl (Nat.le_of_ble_eq_true rfl) (dget kX8_at 4 rfl) (tX8_within h) (fun r_4 σ_3 h => ?_)
  refine wr_if_eq (pc := 10) (tgt := 29) (dget kX8_at 5 rfl) (by decide) (fun c_5 => ?_) (fun c_5 => ?_)
  · have h := h.1 c_5
    refine wr_bipush (pc := 29) (dget kX8_at 14 rfl) bp_m2 ?_
    exact wr_iret (pc := 31) rfl (dget kX8_at 15 rfl) ⟨_, rfl, h⟩
  · have h := h.2 c_5
    refine wr_aload_n (pc := 13) (dget kX8_at 6 rfl) 0 rfl ?_
    refine wr_iload_n (pc := 14) (dget kX8_at 7 rfl) 2 rfl ?_
    refine wr_callVi (pc := 15) (Mc := mX8_isDuck) (o := 0) (rest := []) cf_X8_107 cv_X8_isDuck kd_0 rfl ⟨Nat.le_of_ble_eq_true rfl, Nat.le_of_ble_eq_true rfl⟩ rfl rfl (Nat.le_of_ble_eq_true rfl) (dget kX8_at 8 rfl) (tX8_isDuck h) (fun r_7 σ_6 h => ?_)
    refine wr_if_eq (pc := 18) (tgt := 29) (dget kX8_at 9 rfl) (by decide) (fun c_8 => ?_) (fun c_8 => ?_)
    · have h := h.1 c_8
      refine wr_bipush (pc := 29) (dget kX8_at 14 rfl) bp_m2 ?_
      exact wr_iret (pc := 31) rfl (dget kX8_at 15 rfl) ⟨_, rfl, h⟩
    · have h := h.2 c_8
      refine wr_iload_n (pc := 21) (dget kX8_at 10 rfl) 3 rfl ?_
      refine wr_iconst (pc := 22) (dget kX8_at 11 rfl) ic_3 ?_
      refine wr_callSi (pc := 23) (Mc := mX8_within) (rest := []) cf_X8_77 cs_X8_within ⟨Nat.le_of_ble_eq_true rfl, Nat.le_of_ble_eq_true rfl⟩ rfl rfl (Nat.le_of_ble_eq_true rfl) (dget kX8_at 12 rfl) (tX8_within h) (fun r_10 σ_9 h => ?_)
      refine wr_if_ne (pc := 26) (tgt := 32) (dget kX8_at 13 rfl) (by decide) (fun c_11 => ?_) (fun c_11 => ?_)
      · have h := h.2 c_11
        refine wr_aload_n (pc := 32) (dget kX8_at 16 rfl) 0 rfl ?_
        refine wr_getRl (pc := 33) fl_X8_46 kd_0 fk_8_5 rt_0_5 (dget kX8_at 17 rfl) ?_
        refine wr_iload_n (pc := 36) (dget kX8_at 18 rfl) 1 rfl ?_
        refine wr_iload_n (pc := 37) (dget kX8_at 19 rfl) 2 rfl ?_
        refine wr_iload_n (pc := 38) (dget kX8_at 20 rfl) 3 rfl ?_
        refine wr_callVi (pc := 39) (Mc := mX2_tellDuckBehind) (o := 23) (rest := []) cf_X8_159 cv_X2_tellDuckBehind kd_23 rfl ⟨Nat.le_of_ble_eq_true rfl, Nat.le_of_ble_eq_true rfl⟩ rfl rfl (Nat.le_of_ble_eq_true rfl) (dget kX8_at 21 rfl) (tX2_tellDuckBehind h) (fun r_13 σ_12 h => ?_)
        exact wr_iret (pc := 42) rfl (dget kX8_at 22 rfl) ⟨_, rfl, h⟩
      · have h := h.1 c_11
        refine wr_bipush (pc := 29) (dget kX8_at 14 rfl) bp_m2 ?_
        exact wr_iret (pc := 31) rfl (dget kX8_at 15 rfl) ⟨_, rfl, h⟩
def vX8_sees (p1 : Int32) (p2 : Int32) (p3 : Int32) (σ : Hp) (post : Int32 → Hp → Prop) : Prop := (vX8_within p1 (24 : Int32) σ (fun r_2 σ_1 => ((r_2 = 0 → post (-2 : Int32) σ_1) ∧ (¬ r_2 = 0 → (vX8_within p2 (3 : Int32) σ_1 (fun r_5 σ_4 => ((r_5 = 0 → post (-2 : Int32) σ_4) ∧ (¬ r_5 = 0 → (vX8_within p3 (12 : Int32) σ_4 (fun r_8 σ_7 => ((r_8 = 0 → post (-2 : Int32) σ_7) ∧ (¬ r_8 = 0 → (vX8_settle  σ_7 (fun σ_10 => (vX0_duckAt 15 p1 p2 p3 σ_10 (fun r_13 σ_12 => post r_13 σ_12))))))))))))))))
set_option maxHeartbeats 4000000 in
set_option maxRecDepth 100000 in
theorem tX8_sees {G : GT} {p1 : Int32} {p2 : Int32} {p3 : Int32} {σ : Hp} {post : Int32 → Hp → Prop} (h : vX8_sees p1 p2 p3 σ post) : CT G mX8_sees [.ref (G.1 0), .int p1, .int p2, .int p3] σ (LI post) := by
  refine CT.of (by decide +kernel) (Nat.le_of_ble_eq_true rfl) ?_
  show WP G mX8_sees 0 [(0, .ref (G.1 0)), (1, .int p1), (2, .int p2), (3, .int p3)] [] σ (LI post)
  unfold vX8_sees at h
  refine wr_iload_n (pc := 0) (dget kX8_sees 0 rfl) 1 rfl ?_
  refine wr_bipush (pc := 1) (dget kX8_sees 1 rfl) bp_24 ?_
  refine wr_callSi (pc := 3) (Mc := mX8_within) (rest := []) cf_X8_77 cs_X8_within ⟨Nat.le_of_ble_eq_true rfl, Nat.le_of_ble_eq_true rfl⟩ rfl rfl (Nat.le_of_ble_eq_true rfl) (dget kX8_sees 2 rfl) (tX8_within h) (fun r_2 σ_1 h => ?_)
  refine wr_if_eq (pc := 6) (tgt := 26) (dget kX8_sees 3 rfl) (by decide) (fun c_3 => ?_) (fun c_3 => ?_)
  · have h := h.1 c_3
    refine wr_bipush (pc := 26) (dget kX8_sees 12 rfl) bp_m2 ?_
    exact wr_iret (pc := 28) rfl (dget kX8_sees 13 rfl) ⟨_, rfl, h⟩
  · have h := h.2 c_3
    refine wr_iload_n (pc := 9) (dget kX8_sees 4 rfl) 2 rfl ?_
    refine wr_iconst (pc := 10) (dget kX8_sees 5 rfl) ic_3 ?_
    refine wr_callSi (pc := 11) (Mc := mX8_within) (rest := []) cf_X8_77 cs_X8_within ⟨Nat.le_of_ble_eq_true rfl, Nat.le_of_ble_eq_true rfl⟩ rfl rfl (Nat.le_of_ble_eq_true rfl) (dget kX8_sees 6 rfl) (tX8_within h) (fun r_5 σ_4 h => ?_)
    refine wr_if_eq (pc := 14) (tgt := 26) (dget kX8_sees 7 rfl) (by decide) (fun c_6 => ?_) (fun c_6 => ?_)
    · have h := h.1 c_6
      refine wr_bipush (pc := 26) (dget kX8_sees 12 rfl) bp_m2 ?_
      exact wr_iret (pc := 28) rfl (dget kX8_sees 13 rfl) ⟨_, rfl, h⟩
    · have h := h.2 c_6
      refine wr_iload_n (pc := 17) (dget kX8_sees 8 rfl) 3 rfl ?_
      refine wr_bipush (pc := 18) (dget kX8_sees 9 rfl) bp_12 ?_
      refine wr_callSi (pc := 20) (Mc := mX8_within) (rest := []) cf_X8_77 cs_X8_within ⟨Nat.le_of_ble_eq_true rfl, Nat.le_of_ble_eq_true rfl⟩ rfl rfl (Nat.le_of_ble_eq_true rfl) (dget kX8_sees 10 rfl) (tX8_within h) (fun r_8 σ_7 h => ?_)
      refine wr_if_ne (pc := 23) (tgt := 29) (dget kX8_sees 11 rfl) (by decide) (fun c_9 => ?_) (fun c_9 => ?_)
      · have h := h.2 c_9
        refine wr_aload_n (pc := 29) (dget kX8_sees 14 rfl) 0 rfl ?_
        refine wr_callVv (pc := 30) (Mc := mX8_settle) (o := 0) (rest := []) cf_X8_97 cv_X8_settle kd_0 rfl ⟨Nat.le_of_ble_eq_true rfl, Nat.le_of_ble_eq_true rfl⟩ rfl rfl (Nat.le_of_ble_eq_true rfl) (dget kX8_sees 15 rfl) (tX8_settle h) (fun σ_10 h => ?_)
        refine wr_aload_n (pc := 33) (dget kX8_sees 16 rfl) 0 rfl ?_
        refine wr_getRl (pc := 34) fl_X8_34 kd_0 fk_8_3 rt_0_3 (dget kX8_sees 17 rfl) ?_
        refine wr_iload_n (pc := 37) (dget kX8_sees 18 rfl) 1 rfl ?_
        refine wr_iload_n (pc := 38) (dget kX8_sees 19 rfl) 2 rfl ?_
        refine wr_iload_n (pc := 39) (dget kX8_sees 20 rfl) 3 rfl ?_
        refine wr_callVi (pc := 40) (Mc := mX0_duckAt) (o := 15) (rest := []) cf_X8_162 cv_X0_duckAt kd_15 rfl ⟨Nat.le_of_ble_eq_true rfl, Nat.le_of_ble_eq_true rfl⟩ rfl rfl (Nat.le_of_ble_eq_true rfl) (dget kX8_sees 21 rfl) (tX0_duckAt h) (fun r_13 σ_12 h => ?_)
        exact wr_iret (pc := 43) rfl (dget kX8_sees 22 rfl) ⟨_, rfl, h⟩
      · have h := h.1 c_9
        refine wr_bipush (pc := 26) (dget kX8_sees 12 rfl) bp_m2 ?_
        exact wr_iret (pc := 28) rfl (dget kX8_sees 13 rfl) ⟨_, rfl, h⟩
def vX8_down (p1 : Int32) (σ : Hp) (post : Int32 → Hp → Prop) : Prop := (vX8_within p1 (24 : Int32) σ (fun r_2 σ_1 => ((r_2 = 0 → post (-2 : Int32) σ_1) ∧ (¬ r_2 = 0 → (vX8_settle  σ_1 (fun σ_4 => (vp_in p1 24 ∧ (vJ6_bitCount_0f7a4 (σ_4.1 29 p1.toNatClampNeg) σ_4 (fun r_8 σ_7 => post r_8 σ_7)))))))))
set_option maxHeartbeats 4000000 in
set_option maxRecDepth 100000 in
theorem tX8_down {G : GT} {p1 : Int32} {σ : Hp} {post : Int32 → Hp → Prop} (h : vX8_down p1 σ post) : CT G mX8_down [.ref (G.1 0), .int p1] σ (LI post) := by
  refine CT.of (by decide +kernel) (Nat.le_of_ble_eq_true rfl) ?_
  show WP G mX8_down 0 [(0, .ref (G.1 0)), (1, .int p1)] [] σ (LI post)
  unfold vX8_down at h
  refine wr_iload_n (pc := 0) (dget kX8_down 0 rfl) 1 rfl ?_
  refine wr_bipush (pc := 1) (dget kX8_down 1 rfl) bp_24 ?_
  refine wr_callSi (pc := 3) (Mc := mX8_within) (rest := []) cf_X8_77 cs_X8_within ⟨Nat.le_of_ble_eq_true rfl, Nat.le_of_ble_eq_true rfl⟩ rfl rfl (Nat.le_of_ble_eq_true rfl) (dget kX8_down 2 rfl) (tX8_within h) (fun r_2 σ_1 h => ?_)
  refine wr_if_ne (pc := 6) (tgt := 12) (dget kX8_down 3 rfl) (by decide) (fun c_3 => ?_) (fun c_3 => ?_)
  · have h := h.2 c_3
    refine wr_aload_n (pc := 12) (dget kX8_down 6 rfl) 0 rfl ?_
    refine wr_callVv (pc := 13) (Mc := mX8_settle) (o := 0) (rest := []) cf_X8_97 cv_X8_settle kd_0 rfl ⟨Nat.le_of_ble_eq_true rfl, Nat.le_of_ble_eq_true rfl⟩ rfl rfl (Nat.le_of_ble_eq_true rfl) (dget kX8_down 7 rfl) (tX8_settle h) (fun σ_4 h => ?_)
    refine wr_aload_n (pc := 16) (dget kX8_down 8 rfl) 0 rfl ?_
    refine wr_getRl (pc := 17) fl_X8_46 kd_0 fk_8_5 rt_0_5 (dget kX8_down 9 rfl) ?_
    refine wr_getRl (pc := 20) fl_X8_165 kd_23 fk_2_6 rt_23_6 (dget kX8_down 10 rfl) ?_
    refine wr_iload_n (pc := 23) (dget kX8_down 11 rfl) 1 rfl ?_
    obtain ⟨q_6, h⟩ := h
    refine wr_ialdl (pc := 24) (σ := σ_4) il_29 q_6 (dget kX8_down 12 rfl) ?_
    refine wr_callSi (pc := 25) (Mc := mJ6_bitCount_0f7a4) (rest := []) cf_X8_168 cs_J6_bitCount_0f7a4 ⟨Nat.le_of_ble_eq_true rfl, Nat.le_of_ble_eq_true rfl⟩ rfl rfl (Nat.le_of_ble_eq_true rfl) (dget kX8_down 13 rfl) (tJ6_bitCount_0f7a4 h) (fun r_8 σ_7 h => ?_)
    exact wr_iret (pc := 28) rfl (dget kX8_down 14 rfl) ⟨_, rfl, h⟩
  · have h := h.1 c_3
    refine wr_bipush (pc := 9) (dget kX8_down 4 rfl) bp_m2 ?_
    exact wr_iret (pc := 11) rfl (dget kX8_down 5 rfl) ⟨_, rfl, h⟩
def vX8_hits (p1 : Int32) (p2 : Int32) (σ : Hp) (post : Int32 → Hp → Prop) : Prop := (vX8_settle  σ (fun σ_1 => (vX8_isShot p1 σ_1 (fun r_4 σ_3 => ((r_4 = 0 → post (-2 : Int32) σ_3) ∧ (¬ r_4 = 0 → (vX8_within p2 (3 : Int32) σ_3 (fun r_7 σ_6 => ((r_7 = 0 → post (-2 : Int32) σ_6) ∧ (¬ r_7 = 0 → (vX2_tellOutcome 23 p1 p2 σ_6 (fun r_10 σ_9 => post r_10 σ_9))))))))))))
set_option maxHeartbeats 4000000 in
set_option maxRecDepth 100000 in
theorem tX8_hits {G : GT} {p1 : Int32} {p2 : Int32} {σ : Hp} {post : Int32 → Hp → Prop} (h : vX8_hits p1 p2 σ post) : CT G mX8_hits [.ref (G.1 0), .int p1, .int p2] σ (LI post) := by
  refine CT.of (by decide +kernel) (Nat.le_of_ble_eq_true rfl) ?_
  show WP G mX8_hits 0 [(0, .ref (G.1 0)), (1, .int p1), (2, .int p2)] [] σ (LI post)
  unfold vX8_hits at h
  refine wr_aload_n (pc := 0) (dget kX8_hits 0 rfl) 0 rfl ?_
  refine wr_callVv (pc := 1) (Mc := mX8_settle) (o := 0) (rest := []) cf_X8_97 cv_X8_settle kd_0 rfl ⟨Nat.le_of_ble_eq_true rfl, Nat.le_of_ble_eq_true rfl⟩ rfl rfl (Nat.le_of_ble_eq_true rfl) (dget kX8_hits 1 rfl) (tX8_settle h) (fun σ_1 h => ?_)
  refine wr_aload_n (pc := 4) (dget kX8_hits 2 rfl) 0 rfl ?_
  refine wr_iload_n (pc := 5) (dget kX8_hits 3 rfl) 1 rfl ?_
  refine wr_callVi (pc := 6) (Mc := mX8_isShot) (o := 0) (rest := []) cf_X8_115 cv_X8_isShot kd_0 rfl ⟨Nat.le_of_ble_eq_true rfl, Nat.le_of_ble_eq_true rfl⟩ rfl rfl (Nat.le_of_ble_eq_true rfl) (dget kX8_hits 4 rfl) (tX8_isShot h) (fun r_4 σ_3 h => ?_)
  refine wr_if_eq (pc := 9) (tgt := 20) (dget kX8_hits 5 rfl) (by decide) (fun c_5 => ?_) (fun c_5 => ?_)
  · have h := h.1 c_5
    refine wr_bipush (pc := 20) (dget kX8_hits 10 rfl) bp_m2 ?_
    exact wr_iret (pc := 22) rfl (dget kX8_hits 11 rfl) ⟨_, rfl, h⟩
  · have h := h.2 c_5
    refine wr_iload_n (pc := 12) (dget kX8_hits 6 rfl) 2 rfl ?_
    refine wr_iconst (pc := 13) (dget kX8_hits 7 rfl) ic_3 ?_
    refine wr_callSi (pc := 14) (Mc := mX8_within) (rest := []) cf_X8_77 cs_X8_within ⟨Nat.le_of_ble_eq_true rfl, Nat.le_of_ble_eq_true rfl⟩ rfl rfl (Nat.le_of_ble_eq_true rfl) (dget kX8_hits 8 rfl) (tX8_within h) (fun r_7 σ_6 h => ?_)
    refine wr_if_ne (pc := 17) (tgt := 23) (dget kX8_hits 9 rfl) (by decide) (fun c_8 => ?_) (fun c_8 => ?_)
    · have h := h.2 c_8
      refine wr_aload_n (pc := 23) (dget kX8_hits 12 rfl) 0 rfl ?_
      refine wr_getRl (pc := 24) fl_X8_46 kd_0 fk_8_5 rt_0_5 (dget kX8_hits 13 rfl) ?_
      refine wr_iload_n (pc := 27) (dget kX8_hits 14 rfl) 1 rfl ?_
      refine wr_iload_n (pc := 28) (dget kX8_hits 15 rfl) 2 rfl ?_
      refine wr_callVi (pc := 29) (Mc := mX2_tellOutcome) (o := 23) (rest := []) cf_X8_173 cv_X2_tellOutcome kd_23 rfl ⟨Nat.le_of_ble_eq_true rfl, Nat.le_of_ble_eq_true rfl⟩ rfl rfl (Nat.le_of_ble_eq_true rfl) (dget kX8_hits 16 rfl) (tX2_tellOutcome h) (fun r_10 σ_9 h => ?_)
      exact wr_iret (pc := 32) rfl (dget kX8_hits 17 rfl) ⟨_, rfl, h⟩
    · have h := h.1 c_8
      refine wr_bipush (pc := 20) (dget kX8_hits 10 rfl) bp_m2 ?_
      exact wr_iret (pc := 22) rfl (dget kX8_hits 11 rfl) ⟨_, rfl, h⟩
def vX8_sum (p1 : Int32) (σ : Hp) (post : Int32 → Hp → Prop) : Prop := (vX8_within p1 (3 : Int32) σ (fun r_2 σ_1 => ((r_2 = 0 → post (-2 : Int32) σ_1) ∧ (¬ r_2 = 0 → (vX8_settle  σ_1 (fun σ_4 => (vX2_tellSum 23 p1 σ_4 (fun r_7 σ_6 => post r_7 σ_6))))))))
set_option maxHeartbeats 4000000 in
set_option maxRecDepth 100000 in
theorem tX8_sum {G : GT} {p1 : Int32} {σ : Hp} {post : Int32 → Hp → Prop} (h : vX8_sum p1 σ post) : CT G mX8_sum [.ref (G.1 0), .int p1] σ (LI post) := by
  refine CT.of (by decide +kernel) (Nat.le_of_ble_eq_true rfl) ?_
  show WP G mX8_sum 0 [(0, .ref (G.1 0)), (1, .int p1)] [] σ (LI post)
  unfold vX8_sum at h
  refine wr_iload_n (pc := 0) (dget kX8_sum 0 rfl) 1 rfl ?_
  refine wr_iconst (pc := 1) (dget kX8_sum 1 rfl) ic_3 ?_
  refine wr_callSi (pc := 2) (Mc := mX8_within) (rest := []) cf_X8_77 cs_X8_within ⟨Nat.le_of_ble_eq_true rfl, Nat.le_of_ble_eq_true rfl⟩ rfl rfl (Nat.le_of_ble_eq_true rfl) (dget kX8_sum 2 rfl) (tX8_within h) (fun r_2 σ_1 h => ?_)
  refine wr_if_ne (pc := 5) (tgt := 11) (dget kX8_sum 3 rfl) (by decide) (fun c_3 => ?_) (fun c_3 => ?_)
  · have h := h.2 c_3
    refine wr_aload_n (pc := 11) (dget kX8_sum 6 rfl) 0 rfl ?_
    refine wr_callVv (pc := 12) (Mc := mX8_settle) (o := 0) (rest := []) cf_X8_97 cv_X8_settle kd_0 rfl ⟨Nat.le_of_ble_eq_true rfl, Nat.le_of_ble_eq_true rfl⟩ rfl rfl (Nat.le_of_ble_eq_true rfl) (dget kX8_sum 7 rfl) (tX8_settle h) (fun σ_4 h => ?_)
    refine wr_aload_n (pc := 15) (dget kX8_sum 8 rfl) 0 rfl ?_
    refine wr_getRl (pc := 16) fl_X8_46 kd_0 fk_8_5 rt_0_5 (dget kX8_sum 9 rfl) ?_
    refine wr_iload_n (pc := 19) (dget kX8_sum 10 rfl) 1 rfl ?_
    refine wr_callVi (pc := 20) (Mc := mX2_tellSum) (o := 23) (rest := []) cf_X8_176 cv_X2_tellSum kd_23 rfl ⟨Nat.le_of_ble_eq_true rfl, Nat.le_of_ble_eq_true rfl⟩ rfl rfl (Nat.le_of_ble_eq_true rfl) (dget kX8_sum 11 rfl) (tX2_tellSum h) (fun r_7 σ_6 h => ?_)
    exact wr_iret (pc := 23) rfl (dget kX8_sum 12 rfl) ⟨_, rfl, h⟩
  · have h := h.1 c_3
    refine wr_bipush (pc := 8) (dget kX8_sum 4 rfl) bp_m2 ?_
    exact wr_iret (pc := 10) rfl (dget kX8_sum 5 rfl) ⟨_, rfl, h⟩
def vX8_offer (p1 : Int32) (p2 : Int32) (σ : Hp) (post : Hp → Prop) : Prop := ((p2 ≤ (σ.1 0 14) → post σ) ∧ (¬ p2 ≤ (σ.1 0 14) → (∀ σ_2 : Hp, σ_2 = wI σ 0 14 p2 → (∀ σ_3 : Hp, σ_3 = wI σ_2 0 13 p1 → post σ_3))))
set_option maxHeartbeats 4000000 in
set_option maxRecDepth 100000 in
theorem tX8_offer {G : GT} {p1 : Int32} {p2 : Int32} {σ : Hp} {post : Hp → Prop} (h : vX8_offer p1 p2 σ post) : CT G mX8_offer [.ref (G.1 0), .int p1, .int p2] σ (LV post) := by
  refine CT.of (by decide +kernel) (Nat.le_of_ble_eq_true rfl) ?_
  show WP G mX8_offer 0 [(0, .ref (G.1 0)), (1, .int p1), (2, .int p2)] [] σ (LV post)
  unfold vX8_offer at h
  refine wr_iload_n (pc := 0) (dget kX8_offer 0 rfl) 2 rfl ?_
  refine wr_aload_n (pc := 1) (dget kX8_offer 1 rfl) 0 rfl ?_
  refine wr_getI (pc := 2) (σ := σ) fl_X8_182 kd_0 fk_8_14 (dget kX8_offer 2 rfl) ?_
  refine wr_icmp_le (pc := 5) (tgt := 18) (dget kX8_offer 3 rfl) (by decide) (fun c_1 => ?_) (fun c_1 => ?_)
  · have h := h.1 c_1
    exact wr_vret (pc := 18) rfl (dget kX8_offer 10 rfl) ⟨rfl, h⟩
  · have h := h.2 c_1
    refine wr_aload_n (pc := 8) (dget kX8_offer 4 rfl) 0 rfl ?_
    refine wr_iload_n (pc := 9) (dget kX8_offer 5 rfl) 2 rfl ?_
    refine wr_putI (pc := 10) fl_X8_182 kd_0 fk_8_14 (vp_nar_int _) rfl (dget kX8_offer 6 rfl) ?_
    refine wr_tops (fun σ_2 e_σ_2 => ?_)
    have h := h σ_2 e_σ_2
    refine wr_aload_n (pc := 13) (dget kX8_offer 7 rfl) 0 rfl ?_
    refine wr_iload_n (pc := 14) (dget kX8_offer 8 rfl) 1 rfl ?_
    refine wr_putI (pc := 15) fl_X8_185 kd_0 fk_8_13 (vp_nar_int _) rfl (dget kX8_offer 9 rfl) ?_
    refine wr_tops (fun σ_3 e_σ_3 => ?_)
    have h := h σ_3 e_σ_3
    exact wr_vret (pc := 18) rfl (dget kX8_offer 10 rfl) ⟨rfl, h⟩
def vX8_seekRun_14 (post : Hp → Prop) (ex : Hp → Prop) : Nat → Int32 → Int32 → Hp → Prop
  | 0 => fun _ _ _ => False
  | n + 1 => fun x1 x2 σ => (((σ.1 24 3) ≤ x2 → (ex σ)) ∧ (¬ (σ.1 24 3) ≤ x2 → (vX8_isSet (σ.1 23 12) x2 σ (fun r_3 σ_2 => ((r_3 = 0 → (vX8_offer ((x2 - (0 : Int32)) + (1 : Int32)) (0 : Int32) σ_2 (fun σ_5 => (∀ x2_7 : Int32, x2_7 = x2 + (1 : Int32) → vX8_seekRun_14 post ex  n (0 : Int32) x2_7 σ_5)))) ∧ (¬ r_3 = 0 → (∀ x1_8 : Int32, x1_8 = (x1 + (1 : Int32)) → (vX8_offer ((x2 - x1_8) + (1 : Int32)) x1_8 σ_2 (fun σ_9 => (∀ x2_11 : Int32, x2_11 = x2 + (1 : Int32) → vX8_seekRun_14 post ex  n x1_8 x2_11 σ_9))))))))))
set_option maxHeartbeats 4000000 in
set_option maxRecDepth 100000 in
theorem tX8_seekRun_14 {G : GT} {post : Hp → Prop} {ex : Hp → Prop} (hex : ∀  (τ : Hp), ex  τ → WP G mX8_seekRun 66 [] [] τ (LV post)) : ∀ (n : Nat) (x1 : Int32) (x2 : Int32) (σ : Hp), vX8_seekRun_14 post ex  n x1 x2 σ → WP G mX8_seekRun 14 [(0, .ref (G.1 0)), (1, .int x1), (2, .int x2)] [] σ (LV post) := by
  intro n
  induction n with
  | zero => intro x1 x2 σ h; exact False.elim h
  | succ n ih =>
    intro x1 x2 σ h
    simp only [vX8_seekRun_14] at h
    refine wr_iload_n (pc := 14) (dget kX8_seekRun 10 rfl) 2 rfl ?_
    refine wr_aload_n (pc := 15) (dget kX8_seekRun 11 rfl) 0 rfl ?_
    refine wr_getRl (pc := 16) fl_X8_46 kd_0 fk_8_5 rt_0_5 (dget kX8_seekRun 12 rfl) ?_
    refine wr_getRl (pc := 19) fl_X8_118 kd_23 fk_2_1 rt_23_1 (dget kX8_seekRun 13 rfl) ?_
    refine wr_getI (pc := 22) (σ := σ) fl_X8_289 kd_24 fk_5_3 (dget kX8_seekRun 14 rfl) ?_
    refine wr_icmp_ge (pc := 25) (tgt := 66) (dget kX8_seekRun 15 rfl) (by decide) (fun c_1 => ?_) (fun c_1 => ?_)
    · have h := h.1 c_1
      refine wr_sub [] rfl ?_
      exact hex  _ h
    · have h := h.2 c_1
      refine wr_aload_n (pc := 28) (dget kX8_seekRun 16 rfl) 0 rfl ?_
      refine wr_getRl (pc := 29) fl_X8_46 kd_0 fk_8_5 rt_0_5 (dget kX8_seekRun 17 rfl) ?_
      refine wr_getI (pc := 32) (σ := σ) fl_X8_344 kd_23 fk_2_12 (dget kX8_seekRun 18 rfl) ?_
      refine wr_iload_n (pc := 35) (dget kX8_seekRun 19 rfl) 2 rfl ?_
      refine wr_callSi (pc := 36) (Mc := mX8_isSet) (rest := []) cf_X8_353 cs_X8_isSet ⟨Nat.le_of_ble_eq_true rfl, Nat.le_of_ble_eq_true rfl⟩ rfl rfl (Nat.le_of_ble_eq_true rfl) (dget kX8_seekRun 20 rfl) (tX8_isSet h) (fun r_3 σ_2 h => ?_)
      refine wr_if_eq (pc := 39) (tgt := 48) (dget kX8_seekRun 21 rfl) (by decide) (fun c_4 => ?_) (fun c_4 => ?_)
      · have h := h.1 c_4
        refine wr_iconst (pc := 48) (dget kX8_seekRun 26 rfl) ic_0 ?_
        refine wr_istore_n (pc := 49) (lv' := [(1, .int (0 : Int32)), (0, .ref (G.1 0)), (2, .int x2)]) (dget kX8_seekRun 27 rfl) (by decide) rfl ?_
        refine wr_aload_n (pc := 50) (dget kX8_seekRun 28 rfl) 1 rfl ?_
        refine wr_iload_n (pc := 51) (dget kX8_seekRun 29 rfl) 2 rfl ?_
        refine wr_iload_n (pc := 52) (dget kX8_seekRun 30 rfl) 0 rfl ?_
        refine wr_isub (pc := 53) (dget kX8_seekRun 31 rfl) ?_
        refine wr_iconst (pc := 54) (dget kX8_seekRun 32 rfl) ic_1 ?_
        refine wr_iadd (pc := 55) (dget kX8_seekRun 33 rfl) ?_
        refine wr_iload_n (pc := 56) (dget kX8_seekRun 34 rfl) 0 rfl ?_
        refine wr_callVv (pc := 57) (Mc := mX8_offer) (o := 0) (rest := []) cf_X8_350 cv_X8_offer kd_0 rfl ⟨Nat.le_of_ble_eq_true rfl, Nat.le_of_ble_eq_true rfl⟩ rfl rfl (Nat.le_of_ble_eq_true rfl) (dget kX8_seekRun 35 rfl) (tX8_offer h) (fun σ_5 h => ?_)
        obtain ⟨x2_7, e_x2_7⟩ : ∃ y : Int32, y = x2 + (1 : Int32) := ⟨_, rfl⟩
        have h := h x2_7 e_x2_7
        refine wr_iinc (pc := 60) (v := x2_7) (lv' := [(2, .int x2_7), (1, .int (0 : Int32)), (0, .ref (G.1 0))]) (dget kX8_seekRun 36 rfl) 2 rfl (by rw [e_x2_7, ic_1]) (by decide) rfl ?_
        refine wr_goto (pc := 63) (tgt := 14) (dget kX8_seekRun 37 rfl) (by decide) ?_
        refine wr_sub [2, 1, 0] rfl ?_
        exact ih _ _ _ h
      · have h := h.2 c_4
        refine wr_iload_n (pc := 42) (dget kX8_seekRun 22 rfl) 1 rfl ?_
        refine wr_iconst (pc := 43) (dget kX8_seekRun 23 rfl) ic_1 ?_
        refine wr_iadd (pc := 44) (dget kX8_seekRun 24 rfl) ?_
        refine wr_goto (pc := 45) (tgt := 49) (dget kX8_seekRun 25 rfl) (by decide) ?_
        refine wr_topi (fun x1_8 e_x1_8 => ?_)
        have h := h x1_8 e_x1_8
        refine wr_istore_n (pc := 49) (lv' := [(1, .int x1_8), (0, .ref (G.1 0)), (2, .int x2)]) (dget kX8_seekRun 27 rfl) (by decide) rfl ?_
        refine wr_aload_n (pc := 50) (dget kX8_seekRun 28 rfl) 1 rfl ?_
        refine wr_iload_n (pc := 51) (dget kX8_seekRun 29 rfl) 2 rfl ?_
        refine wr_iload_n (pc := 52) (dget kX8_seekRun 30 rfl) 0 rfl ?_
        refine wr_isub (pc := 53) (dget kX8_seekRun 31 rfl) ?_
        refine wr_iconst (pc := 54) (dget kX8_seekRun 32 rfl) ic_1 ?_
        refine wr_iadd (pc := 55) (dget kX8_seekRun 33 rfl) ?_
        refine wr_iload_n (pc := 56) (dget kX8_seekRun 34 rfl) 0 rfl ?_
        refine wr_callVv (pc := 57) (Mc := mX8_offer) (o := 0) (rest := []) cf_X8_350 cv_X8_offer kd_0 rfl ⟨Nat.le_of_ble_eq_true rfl, Nat.le_of_ble_eq_true rfl⟩ rfl rfl (Nat.le_of_ble_eq_true rfl) (dget kX8_seekRun 35 rfl) (tX8_offer h) (fun σ_9 h => ?_)
        obtain ⟨x2_11, e_x2_11⟩ : ∃ y : Int32, y = x2 + (1 : Int32) := ⟨_, rfl⟩
        have h := h x2_11 e_x2_11
        refine wr_iinc (pc := 60) (v := x2_11) (lv' := [(2, .int x2_11), (1, .int x1_8), (0, .ref (G.1 0))]) (dget kX8_seekRun 36 rfl) 2 rfl (by rw [e_x2_11, ic_1]) (by decide) rfl ?_
        refine wr_goto (pc := 63) (tgt := 14) (dget kX8_seekRun 37 rfl) (by decide) ?_
        refine wr_sub [2, 1, 0] rfl ?_
        exact ih _ _ _ h
def vX8_seekRun (σ : Hp) (post : Hp → Prop) : Prop := (∀ σ_1 : Hp, σ_1 = wI σ 0 13 (-1 : Int32) → (∀ σ_2 : Hp, σ_2 = wI σ_1 0 14 (0 : Int32) → (∃ fu : Nat, vX8_seekRun_14 post (fun σ_3 => post σ_3)  fu (0 : Int32) (0 : Int32) σ_2)))
set_option maxHeartbeats 4000000 in
set_option maxRecDepth 100000 in
theorem tX8_seekRun {G : GT} {σ : Hp} {post : Hp → Prop} (h : vX8_seekRun  σ post) : CT G mX8_seekRun [.ref (G.1 0)] σ (LV post) := by
  refine CT.of (by decide +kernel) (Nat.le_of_ble_eq_true rfl) ?_
  show WP G mX8_seekRun 0 [(0, .ref (G.1 0))] [] σ (LV post)
  unfold vX8_seekRun at h
  refine wr_aload_n (pc := 0) (dget kX8_seekRun 0 rfl) 0 rfl ?_
  refine wr_iconst (pc := 1) (dget kX8_seekRun 1 rfl) ic_m1 ?_
  refine wr_putI (pc := 2) fl_X8_185 kd_0 fk_8_13 (vp_nar_int _) rfl (dget kX8_seekRun 2 rfl) ?_
  refine wr_tops (fun σ_1 e_σ_1 => ?_)
  have h := h σ_1 e_σ_1
  refine wr_aload_n (pc := 5) (dget kX8_seekRun 3 rfl) 0 rfl ?_
  refine wr_iconst (pc := 6) (dget kX8_seekRun 4 rfl) ic_0 ?_
  refine wr_putI (pc := 7) fl_X8_182 kd_0 fk_8_14 (vp_nar_int _) rfl (dget kX8_seekRun 5 rfl) ?_
  refine wr_tops (fun σ_2 e_σ_2 => ?_)
  have h := h σ_2 e_σ_2
  refine wr_iconst (pc := 10) (dget kX8_seekRun 6 rfl) ic_0 ?_
  refine wr_istore_n (pc := 11) (lv' := [(1, .int (0 : Int32)), (0, .ref (G.1 0))]) (dget kX8_seekRun 7 rfl) (by decide) rfl ?_
  refine wr_iconst (pc := 12) (dget kX8_seekRun 8 rfl) ic_0 ?_
  refine wr_istore_n (pc := 13) (lv' := [(2, .int (0 : Int32)), (1, .int (0 : Int32)), (0, .ref (G.1 0))]) (dget kX8_seekRun 9 rfl) (by decide) rfl ?_
  obtain ⟨fu, h⟩ := h
  refine wr_sub [2, 1, 0] rfl ?_
  refine tX8_seekRun_14 (fun σ_3 h => ?_) fu _ _ _ h
  exact wr_vret (pc := 66) rfl (dget kX8_seekRun 38 rfl) ⟨rfl, h⟩
def vX8_run (p1 : Int32) (σ : Hp) (post : Int32 → Hp → Prop) : Prop := (vX8_within p1 (2 : Int32) σ (fun r_2 σ_1 => ((r_2 = 0 → post (-2 : Int32) σ_1) ∧ (¬ r_2 = 0 → (vX8_settle  σ_1 (fun σ_4 => (vX8_seekRun  σ_4 (fun σ_6 => ((p1 = 0 → post (σ_6.1 0 14) σ_6) ∧ (¬ p1 = 0 → post (σ_6.1 0 13) σ_6))))))))))
set_option maxHeartbeats 4000000 in
set_option maxRecDepth 100000 in
theorem tX8_run {G : GT} {p1 : Int32} {σ : Hp} {post : Int32 → Hp → Prop} (h : vX8_run p1 σ post) : CT G mX8_run [.ref (G.1 0), .int p1] σ (LI post) := by
  refine CT.of (by decide +kernel) (Nat.le_of_ble_eq_true rfl) ?_
  show WP G mX8_run 0 [(0, .ref (G.1 0)), (1, .int p1)] [] σ (LI post)
  unfold vX8_run at h
  refine wr_iload_n (pc := 0) (dget kX8_run 0 rfl) 1 rfl ?_
  refine wr_iconst (pc := 1) (dget kX8_run 1 rfl) ic_2 ?_
  refine wr_callSi (pc := 2) (Mc := mX8_within) (rest := []) cf_X8_77 cs_X8_within ⟨Nat.le_of_ble_eq_true rfl, Nat.le_of_ble_eq_true rfl⟩ rfl rfl (Nat.le_of_ble_eq_true rfl) (dget kX8_run 2 rfl) (tX8_within h) (fun r_2 σ_1 h => ?_)
  refine wr_if_ne (pc := 5) (tgt := 11) (dget kX8_run 3 rfl) (by decide) (fun c_3 => ?_) (fun c_3 => ?_)
  · have h := h.2 c_3
    refine wr_aload_n (pc := 11) (dget kX8_run 6 rfl) 0 rfl ?_
    refine wr_callVv (pc := 12) (Mc := mX8_settle) (o := 0) (rest := []) cf_X8_97 cv_X8_settle kd_0 rfl ⟨Nat.le_of_ble_eq_true rfl, Nat.le_of_ble_eq_true rfl⟩ rfl rfl (Nat.le_of_ble_eq_true rfl) (dget kX8_run 7 rfl) (tX8_settle h) (fun σ_4 h => ?_)
    refine wr_aload_n (pc := 15) (dget kX8_run 8 rfl) 0 rfl ?_
    refine wr_callVv (pc := 16) (Mc := mX8_seekRun) (o := 0) (rest := []) cf_X8_179 cv_X8_seekRun kd_0 rfl ⟨Nat.le_of_ble_eq_true rfl, Nat.le_of_ble_eq_true rfl⟩ rfl rfl (Nat.le_of_ble_eq_true rfl) (dget kX8_run 9 rfl) (tX8_seekRun h) (fun σ_6 h => ?_)
    refine wr_iload_n (pc := 19) (dget kX8_run 10 rfl) 1 rfl ?_
    refine wr_if_ne (pc := 20) (tgt := 30) (dget kX8_run 11 rfl) (by decide) (fun c_8 => ?_) (fun c_8 => ?_)
    · have h := h.2 c_8
      refine wr_aload_n (pc := 30) (dget kX8_run 15 rfl) 0 rfl ?_
      refine wr_getI (pc := 31) (σ := σ_6) fl_X8_185 kd_0 fk_8_13 (dget kX8_run 16 rfl) ?_
      exact wr_iret (pc := 34) rfl (dget kX8_run 17 rfl) ⟨_, rfl, h⟩
    · have h := h.1 c_8
      refine wr_aload_n (pc := 23) (dget kX8_run 12 rfl) 0 rfl ?_
      refine wr_getI (pc := 24) (σ := σ_6) fl_X8_182 kd_0 fk_8_14 (dget kX8_run 13 rfl) ?_
      refine wr_goto (pc := 27) (tgt := 34) (dget kX8_run 14 rfl) (by decide) ?_
      exact wr_iret (pc := 34) rfl (dget kX8_run 17 rfl) ⟨_, rfl, h⟩
  · have h := h.1 c_3
    refine wr_bipush (pc := 8) (dget kX8_run 4 rfl) bp_m2 ?_
    exact wr_iret (pc := 10) rfl (dget kX8_run 5 rfl) ⟨_, rfl, h⟩
def vX8_easiestDuck_12 (post : Int32 → Hp → Prop) (ex : Hp → Prop) : Nat → Int32 → Hp → Prop
  | 0 => fun _ _ => False
  | n + 1 => fun x1 σ => (((σ.1 2 5) ≤ x1 → (ex σ)) ∧ (¬ (σ.1 2 5) ≤ x1 → (vX2_hitsBehind 23 (23 : Int32) x1 σ (fun r_3 σ_2 => (vX8_offer x1 r_3 σ_2 (fun σ_4 => (∀ x1_6 : Int32, x1_6 = x1 + (1 : Int32) → vX8_easiestDuck_12 post ex  n x1_6 σ_4)))))))
set_option maxHeartbeats 4000000 in
set_option maxRecDepth 100000 in
theorem tX8_easiestDuck_12 {G : GT} {post : Int32 → Hp → Prop} {ex : Hp → Prop} (hex : ∀  (τ : Hp), ex  τ → WP G mX8_easiestDuck 44 [(0, .ref (G.1 0))] [] τ (LI post)) : ∀ (n : Nat) (x1 : Int32) (σ : Hp), vX8_easiestDuck_12 post ex  n x1 σ → WP G mX8_easiestDuck 12 [(0, .ref (G.1 0)), (1, .int x1)] [] σ (LI post) := by
  intro n
  induction n with
  | zero => intro x1 σ h; exact False.elim h
  | succ n ih =>
    intro x1 σ h
    simp only [vX8_easiestDuck_12] at h
    refine wr_iload_n (pc := 12) (dget kX8_easiestDuck 8 rfl) 1 rfl ?_
    refine wr_aload_n (pc := 13) (dget kX8_easiestDuck 9 rfl) 0 rfl ?_
    refine wr_getRl (pc := 14) fl_X8_18 kd_0 fk_8_1 rt_0_1 (dget kX8_easiestDuck 10 rfl) ?_
    refine wr_getI (pc := 17) (σ := σ) fl_X8_282 kd_2 fk_6_5 (dget kX8_easiestDuck 11 rfl) ?_
    refine wr_icmp_ge (pc := 20) (tgt := 44) (dget kX8_easiestDuck 12 rfl) (by decide) (fun c_1 => ?_) (fun c_1 => ?_)
    · have h := h.1 c_1
      refine wr_sub [0] rfl ?_
      exact hex  _ h
    · have h := h.2 c_1
      refine wr_aload_n (pc := 23) (dget kX8_easiestDuck 13 rfl) 0 rfl ?_
      refine wr_iload_n (pc := 24) (dget kX8_easiestDuck 14 rfl) 1 rfl ?_
      refine wr_aload_n (pc := 25) (dget kX8_easiestDuck 15 rfl) 0 rfl ?_
      refine wr_getRl (pc := 26) fl_X8_46 kd_0 fk_8_5 rt_0_5 (dget kX8_easiestDuck 16 rfl) ?_
      refine wr_bipush (pc := 29) (dget kX8_easiestDuck 17 rfl) bp_23 ?_
      refine wr_iload_n (pc := 31) (dget kX8_easiestDuck 18 rfl) 1 rfl ?_
      refine wr_callVi (pc := 32) (Mc := mX2_hitsBehind) (o := 23) (rest := [.int x1, .ref (G.1 0)]) cf_X8_347 cv_X2_hitsBehind kd_23 rfl ⟨Nat.le_of_ble_eq_true rfl, Nat.le_of_ble_eq_true rfl⟩ rfl rfl (Nat.le_of_ble_eq_true rfl) (dget kX8_easiestDuck 19 rfl) (tX2_hitsBehind h) (fun r_3 σ_2 h => ?_)
      refine wr_callVv (pc := 35) (Mc := mX8_offer) (o := 0) (rest := []) cf_X8_350 cv_X8_offer kd_0 rfl ⟨Nat.le_of_ble_eq_true rfl, Nat.le_of_ble_eq_true rfl⟩ rfl rfl (Nat.le_of_ble_eq_true rfl) (dget kX8_easiestDuck 20 rfl) (tX8_offer h) (fun σ_4 h => ?_)
      obtain ⟨x1_6, e_x1_6⟩ : ∃ y : Int32, y = x1 + (1 : Int32) := ⟨_, rfl⟩
      have h := h x1_6 e_x1_6
      refine wr_iinc (pc := 38) (v := x1_6) (lv' := [(1, .int x1_6), (0, .ref (G.1 0))]) (dget kX8_easiestDuck 21 rfl) 1 rfl (by rw [e_x1_6, ic_1]) (by decide) rfl ?_
      refine wr_goto (pc := 41) (tgt := 12) (dget kX8_easiestDuck 22 rfl) (by decide) ?_
      refine wr_sub [1, 0] rfl ?_
      exact ih _ _ h
def vX8_easiestDuck (σ : Hp) (post : Int32 → Hp → Prop) : Prop := (∀ σ_1 : Hp, σ_1 = wI σ 0 13 (-1 : Int32) → (∀ σ_2 : Hp, σ_2 = wI σ_1 0 14 (0 : Int32) → (∃ fu : Nat, vX8_easiestDuck_12 post (fun σ_3 => post (σ_3.1 0 13) σ_3)  fu (0 : Int32) σ_2)))
set_option maxHeartbeats 4000000 in
set_option maxRecDepth 100000 in
theorem tX8_easiestDuck {G : GT} {σ : Hp} {post : Int32 → Hp → Prop} (h : vX8_easiestDuck  σ post) : CT G mX8_easiestDuck [.ref (G.1 0)] σ (LI post) := by
  refine CT.of (by decide +kernel) (Nat.le_of_ble_eq_true rfl) ?_
  show WP G mX8_easiestDuck 0 [(0, .ref (G.1 0))] [] σ (LI post)
  unfold vX8_easiestDuck at h
  refine wr_aload_n (pc := 0) (dget kX8_easiestDuck 0 rfl) 0 rfl ?_
  refine wr_iconst (pc := 1) (dget kX8_easiestDuck 1 rfl) ic_m1 ?_
  refine wr_putI (pc := 2) fl_X8_185 kd_0 fk_8_13 (vp_nar_int _) rfl (dget kX8_easiestDuck 2 rfl) ?_
  refine wr_tops (fun σ_1 e_σ_1 => ?_)
  have h := h σ_1 e_σ_1
  refine wr_aload_n (pc := 5) (dget kX8_easiestDuck 3 rfl) 0 rfl ?_
  refine wr_iconst (pc := 6) (dget kX8_easiestDuck 4 rfl) ic_0 ?_
  refine wr_putI (pc := 7) fl_X8_182 kd_0 fk_8_14 (vp_nar_int _) rfl (dget kX8_easiestDuck 5 rfl) ?_
  refine wr_tops (fun σ_2 e_σ_2 => ?_)
  have h := h σ_2 e_σ_2
  refine wr_iconst (pc := 10) (dget kX8_easiestDuck 6 rfl) ic_0 ?_
  refine wr_istore_n (pc := 11) (lv' := [(1, .int (0 : Int32)), (0, .ref (G.1 0))]) (dget kX8_easiestDuck 7 rfl) (by decide) rfl ?_
  obtain ⟨fu, h⟩ := h
  refine wr_sub [1, 0] rfl ?_
  refine tX8_easiestDuck_12 (fun σ_3 h => ?_) fu _ _ h
  refine wr_aload_n (pc := 44) (dget kX8_easiestDuck 23 rfl) 0 rfl ?_
  refine wr_getI (pc := 45) (σ := σ_3) fl_X8_185 kd_0 fk_8_13 (dget kX8_easiestDuck 24 rfl) ?_
  exact wr_iret (pc := 48) rfl (dget kX8_easiestDuck 25 rfl) ⟨_, rfl, h⟩
def vX8_easy (σ : Hp) (post : Int32 → Hp → Prop) : Prop := (vX8_settle  σ (fun σ_1 => (vX8_easiestDuck  σ_1 (fun r_4 σ_3 => post r_4 σ_3))))
set_option maxHeartbeats 4000000 in
set_option maxRecDepth 100000 in
theorem tX8_easy {G : GT} {σ : Hp} {post : Int32 → Hp → Prop} (h : vX8_easy  σ post) : CT G mX8_easy [.ref (G.1 0)] σ (LI post) := by
  refine CT.of (by decide +kernel) (Nat.le_of_ble_eq_true rfl) ?_
  show WP G mX8_easy 0 [(0, .ref (G.1 0))] [] σ (LI post)
  unfold vX8_easy at h
  refine wr_aload_n (pc := 0) (dget kX8_easy 0 rfl) 0 rfl ?_
  refine wr_callVv (pc := 1) (Mc := mX8_settle) (o := 0) (rest := []) cf_X8_97 cv_X8_settle kd_0 rfl ⟨Nat.le_of_ble_eq_true rfl, Nat.le_of_ble_eq_true rfl⟩ rfl rfl (Nat.le_of_ble_eq_true rfl) (dget kX8_easy 1 rfl) (tX8_settle h) (fun σ_1 h => ?_)
  refine wr_aload_n (pc := 4) (dget kX8_easy 2 rfl) 0 rfl ?_
  refine wr_callVi (pc := 5) (Mc := mX8_easiestDuck) (o := 0) (rest := []) cf_X8_188 cv_X8_easiestDuck kd_0 rfl ⟨Nat.le_of_ble_eq_true rfl, Nat.le_of_ble_eq_true rfl⟩ rfl rfl (Nat.le_of_ble_eq_true rfl) (dget kX8_easy 3 rfl) (tX8_easiestDuck h) (fun r_4 σ_3 h => ?_)
  exact wr_iret (pc := 8) rfl (dget kX8_easy 4 rfl) ⟨_, rfl, h⟩
