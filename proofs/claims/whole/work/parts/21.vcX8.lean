def vX8_safeDucks_4 (post : Int32 → Hp → Prop) (ex : Int32 → Hp → Prop) : Nat → Int32 → Int32 → Hp → Prop
  | 0 => fun _ _ _ => False
  | n + 1 => fun x1 x2 σ => (((σ.1 2 5) ≤ x2 → (ex x1 σ)) ∧ (¬ (σ.1 2 5) ≤ x2 → (vX2_hitsBehind 23 (23 : Int32) x2 σ (fun r_3 σ_2 => ((r_3 = 0 → (∀ x1_6 : Int32, x1_6 = (x1 ||| ((1 : Int32) <<< (x2 &&& 31))) → (∀ x2_7 : Int32, x2_7 = x2 + (1 : Int32) → vX8_safeDucks_4 post ex  n x1_6 x2_7 σ_2))) ∧ (¬ r_3 = 0 → (∀ x2_5 : Int32, x2_5 = x2 + (1 : Int32) → vX8_safeDucks_4 post ex  n x1 x2_5 σ_2)))))))
set_option maxHeartbeats 4000000 in
set_option maxRecDepth 100000 in
theorem tX8_safeDucks_4 {G : GT} {post : Int32 → Hp → Prop} {ex : Int32 → Hp → Prop} (hex : ∀ (z1 : Int32) (τ : Hp), ex z1 τ → WP G mX8_safeDucks 40 [(1, .int z1)] [] τ (LI post)) : ∀ (n : Nat) (x1 : Int32) (x2 : Int32) (σ : Hp), vX8_safeDucks_4 post ex  n x1 x2 σ → WP G mX8_safeDucks 4 [(0, .ref (G.1 0)), (1, .int x1), (2, .int x2)] [] σ (LI post) := by
  intro n
  induction n with
  | zero => intro x1 x2 σ h; exact False.elim h
  | succ n ih =>
    intro x1 x2 σ h
    simp only [vX8_safeDucks_4] at h
    refine wr_iload_n (pc := 4) (dget kX8_safeDucks 4 rfl) 2 rfl ?_
    refine wr_aload_n (pc := 5) (dget kX8_safeDucks 5 rfl) 0 rfl ?_
    refine wr_getRl (pc := 6) fl_X8_18 kd_0 fk_8_1 rt_0_1 (dget kX8_safeDucks 6 rfl) ?_
    refine wr_getI (pc := 9) (σ := σ) fl_X8_282 kd_2 fk_6_5 (dget kX8_safeDucks 7 rfl) ?_
    refine wr_icmp_ge (pc := 12) (tgt := 40) (dget kX8_safeDucks 8 rfl) (by decide) (fun c_1 => ?_) (fun c_1 => ?_)
    · have h := h.1 c_1
      refine wr_sub [1] rfl ?_
      exact hex _ _ h
    · have h := h.2 c_1
      refine wr_aload_n (pc := 15) (dget kX8_safeDucks 9 rfl) 0 rfl ?_
      refine wr_getRl (pc := 16) fl_X8_46 kd_0 fk_8_5 rt_0_5 (dget kX8_safeDucks 10 rfl) ?_
      refine wr_bipush (pc := 19) (dget kX8_safeDucks 11 rfl) bp_23 ?_
      refine wr_iload_n (pc := 21) (dget kX8_safeDucks 12 rfl) 2 rfl ?_
      refine wr_callVi (pc := 22) (Mc := mX2_hitsBehind) (o := 23) (rest := []) cf_X8_347 cv_X2_hitsBehind kd_23 rfl ⟨Nat.le_of_ble_eq_true rfl, Nat.le_of_ble_eq_true rfl⟩ rfl rfl (Nat.le_of_ble_eq_true rfl) (dget kX8_safeDucks 13 rfl) (tX2_hitsBehind h) (fun r_3 σ_2 h => ?_)
      refine wr_if_ne (pc := 25) (tgt := 34) (dget kX8_safeDucks 14 rfl) (by decide) (fun c_4 => ?_) (fun c_4 => ?_)
      · have h := h.2 c_4
        obtain ⟨x2_5, e_x2_5⟩ : ∃ y : Int32, y = x2 + (1 : Int32) := ⟨_, rfl⟩
        have h := h x2_5 e_x2_5
        refine wr_iinc (pc := 34) (v := x2_5) (lv' := [(2, .int x2_5), (0, .ref (G.1 0)), (1, .int x1)]) (dget kX8_safeDucks 21 rfl) 2 rfl (by rw [e_x2_5, ic_1]) (by decide) rfl ?_
        refine wr_goto (pc := 37) (tgt := 4) (dget kX8_safeDucks 22 rfl) (by decide) ?_
        refine wr_sub [1, 2, 0] rfl ?_
        exact ih _ _ _ h
      · have h := h.1 c_4
        refine wr_iload_n (pc := 28) (dget kX8_safeDucks 15 rfl) 1 rfl ?_
        refine wr_iconst (pc := 29) (dget kX8_safeDucks 16 rfl) ic_1 ?_
        refine wr_iload_n (pc := 30) (dget kX8_safeDucks 17 rfl) 2 rfl ?_
        refine wr_ishl (pc := 31) (dget kX8_safeDucks 18 rfl) ?_
        refine wr_ior (pc := 32) (dget kX8_safeDucks 19 rfl) ?_
        refine wr_topi (fun x1_6 e_x1_6 => ?_)
        have h := h x1_6 e_x1_6
        refine wr_istore_n (pc := 33) (lv' := [(1, .int x1_6), (0, .ref (G.1 0)), (2, .int x2)]) (dget kX8_safeDucks 20 rfl) (by decide) rfl ?_
        obtain ⟨x2_7, e_x2_7⟩ : ∃ y : Int32, y = x2 + (1 : Int32) := ⟨_, rfl⟩
        have h := h x2_7 e_x2_7
        refine wr_iinc (pc := 34) (v := x2_7) (lv' := [(2, .int x2_7), (1, .int x1_6), (0, .ref (G.1 0))]) (dget kX8_safeDucks 21 rfl) 2 rfl (by rw [e_x2_7, ic_1]) (by decide) rfl ?_
        refine wr_goto (pc := 37) (tgt := 4) (dget kX8_safeDucks 22 rfl) (by decide) ?_
        refine wr_sub [2, 1, 0] rfl ?_
        exact ih _ _ _ h
def vX8_safeDucks (σ : Hp) (post : Int32 → Hp → Prop) : Prop := (∃ fu : Nat, vX8_safeDucks_4 post (fun z1_1 σ_2 => post z1_1 σ_2)  fu (0 : Int32) (0 : Int32) σ)
set_option maxHeartbeats 4000000 in
set_option maxRecDepth 100000 in
theorem tX8_safeDucks {G : GT} {σ : Hp} {post : Int32 → Hp → Prop} (h : vX8_safeDucks  σ post) : CT G mX8_safeDucks [.ref (G.1 0)] σ (LI post) := by
  refine CT.of (by decide +kernel) (Nat.le_of_ble_eq_true rfl) ?_
  show WP G mX8_safeDucks 0 [(0, .ref (G.1 0))] [] σ (LI post)
  unfold vX8_safeDucks at h
  refine wr_iconst (pc := 0) (dget kX8_safeDucks 0 rfl) ic_0 ?_
  refine wr_istore_n (pc := 1) (lv' := [(1, .int (0 : Int32)), (0, .ref (G.1 0))]) (dget kX8_safeDucks 1 rfl) (by decide) rfl ?_
  refine wr_iconst (pc := 2) (dget kX8_safeDucks 2 rfl) ic_0 ?_
  refine wr_istore_n (pc := 3) (lv' := [(2, .int (0 : Int32)), (1, .int (0 : Int32)), (0, .ref (G.1 0))]) (dget kX8_safeDucks 3 rfl) (by decide) rfl ?_
  obtain ⟨fu, h⟩ := h
  refine wr_sub [2, 1, 0] rfl ?_
  refine tX8_safeDucks_4 (fun z1_1 σ_2 h => ?_) fu _ _ _ h
  refine wr_iload_n (pc := 40) (dget kX8_safeDucks 23 rfl) 0 rfl ?_
  exact wr_iret (pc := 41) rfl (dget kX8_safeDucks 24 rfl) ⟨_, rfl, h⟩
def vX8_safe (σ : Hp) (post : Int32 → Hp → Prop) : Prop := (vX8_settle  σ (fun σ_1 => (vX8_safeDucks  σ_1 (fun r_4 σ_3 => post r_4 σ_3))))
set_option maxHeartbeats 4000000 in
set_option maxRecDepth 100000 in
theorem tX8_safe {G : GT} {σ : Hp} {post : Int32 → Hp → Prop} (h : vX8_safe  σ post) : CT G mX8_safe [.ref (G.1 0)] σ (LI post) := by
  refine CT.of (by decide +kernel) (Nat.le_of_ble_eq_true rfl) ?_
  show WP G mX8_safe 0 [(0, .ref (G.1 0))] [] σ (LI post)
  unfold vX8_safe at h
  refine wr_aload_n (pc := 0) (dget kX8_safe 0 rfl) 0 rfl ?_
  refine wr_callVv (pc := 1) (Mc := mX8_settle) (o := 0) (rest := []) cf_X8_97 cv_X8_settle kd_0 rfl ⟨Nat.le_of_ble_eq_true rfl, Nat.le_of_ble_eq_true rfl⟩ rfl rfl (Nat.le_of_ble_eq_true rfl) (dget kX8_safe 1 rfl) (tX8_settle h) (fun σ_1 h => ?_)
  refine wr_aload_n (pc := 4) (dget kX8_safe 2 rfl) 0 rfl ?_
  refine wr_callVi (pc := 5) (Mc := mX8_safeDucks) (o := 0) (rest := []) cf_X8_192 cv_X8_safeDucks kd_0 rfl ⟨Nat.le_of_ble_eq_true rfl, Nat.le_of_ble_eq_true rfl⟩ rfl rfl (Nat.le_of_ble_eq_true rfl) (dget kX8_safe 3 rfl) (tX8_safeDucks h) (fun r_4 σ_3 h => ?_)
  exact wr_iret (pc := 8) rfl (dget kX8_safe 4 rfl) ⟨_, rfl, h⟩
def vX8_seekAim_18 (post : Hp → Prop) (ex : Hp → Prop) (x1 : Int32) : Nat → Int32 → Hp → Prop
  | 0 => fun _ _ => False
  | n + 1 => fun x2 σ => (((6 : Int32) ≤ x2 → (ex σ)) ∧ (¬ (6 : Int32) ≤ x2 → (vp_in x1 12 ∧ ∀ σ_3 : Hp, σ_3 = wI σ 39 x1.toNatClampNeg x2 → (vX2_play 35 σ_3 (fun σ_4 => (vX8_offer x2 (σ_4.1 35 11) σ_4 (fun σ_6 => (∀ x2_8 : Int32, x2_8 = x2 + (1 : Int32) → vX8_seekAim_18 post ex x1 n x2_8 σ_6))))))))
set_option maxHeartbeats 4000000 in
set_option maxRecDepth 100000 in
theorem tX8_seekAim_18 {G : GT} {post : Hp → Prop} {ex : Hp → Prop} {x1 : Int32} (hex : ∀  (τ : Hp), ex  τ → WP G mX8_seekAim 62 [] [] τ (LV post)) : ∀ (n : Nat) (x2 : Int32) (σ : Hp), vX8_seekAim_18 post ex x1 n x2 σ → WP G mX8_seekAim 18 [(0, .ref (G.1 0)), (1, .int x1), (2, .int x2)] [] σ (LV post) := by
  intro n
  induction n with
  | zero => intro x2 σ h; exact False.elim h
  | succ n ih =>
    intro x2 σ h
    simp only [vX8_seekAim_18] at h
    refine wr_iload_n (pc := 18) (dget kX8_seekAim 10 rfl) 2 rfl ?_
    refine wr_bipush (pc := 19) (dget kX8_seekAim 11 rfl) bp_6 ?_
    refine wr_icmp_ge (pc := 21) (tgt := 62) (dget kX8_seekAim 12 rfl) (by decide) (fun c_1 => ?_) (fun c_1 => ?_)
    · have h := h.1 c_1
      refine wr_sub [] rfl ?_
      exact hex  _ h
    · have h := h.2 c_1
      refine wr_aload_n (pc := 24) (dget kX8_seekAim 13 rfl) 0 rfl ?_
      refine wr_getRl (pc := 25) fl_X8_50 kd_0 fk_8_6 rt_0_6 (dget kX8_seekAim 14 rfl) ?_
      refine wr_getRl (pc := 28) fl_X8_118 kd_35 fk_2_1 rt_35_1 (dget kX8_seekAim 15 rfl) ?_
      refine wr_getRl (pc := 31) fl_X8_360 kd_36 fk_5_2 rt_36_2 (dget kX8_seekAim 16 rfl) ?_
      refine wr_iload_n (pc := 34) (dget kX8_seekAim 17 rfl) 1 rfl ?_
      refine wr_iload_n (pc := 35) (dget kX8_seekAim 18 rfl) 2 rfl ?_
      obtain ⟨q_2, h⟩ := h
      refine wr_iastl (pc := 36) il_39 q_2 (dget kX8_seekAim 19 rfl) ?_
      refine wr_tops (fun σ_3 e_σ_3 => ?_)
      have h := h σ_3 e_σ_3
      refine wr_aload_n (pc := 37) (dget kX8_seekAim 20 rfl) 0 rfl ?_
      refine wr_getRl (pc := 38) fl_X8_50 kd_0 fk_8_6 rt_0_6 (dget kX8_seekAim 21 rfl) ?_
      refine wr_callVv (pc := 41) (Mc := mX2_play) (o := 35) (rest := []) cf_X8_335 cv_X2_play kd_35 rfl ⟨Nat.le_of_ble_eq_true rfl, Nat.le_of_ble_eq_true rfl⟩ rfl rfl (Nat.le_of_ble_eq_true rfl) (dget kX8_seekAim 22 rfl) (tX2_play h) (fun σ_4 h => ?_)
      refine wr_aload_n (pc := 44) (dget kX8_seekAim 23 rfl) 0 rfl ?_
      refine wr_iload_n (pc := 45) (dget kX8_seekAim 24 rfl) 2 rfl ?_
      refine wr_aload_n (pc := 46) (dget kX8_seekAim 25 rfl) 0 rfl ?_
      refine wr_getRl (pc := 47) fl_X8_50 kd_0 fk_8_6 rt_0_6 (dget kX8_seekAim 26 rfl) ?_
      refine wr_getI (pc := 50) (σ := σ_4) fl_X8_341 kd_35 fk_2_11 (dget kX8_seekAim 27 rfl) ?_
      refine wr_callVv (pc := 53) (Mc := mX8_offer) (o := 0) (rest := []) cf_X8_350 cv_X8_offer kd_0 rfl ⟨Nat.le_of_ble_eq_true rfl, Nat.le_of_ble_eq_true rfl⟩ rfl rfl (Nat.le_of_ble_eq_true rfl) (dget kX8_seekAim 28 rfl) (tX8_offer h) (fun σ_6 h => ?_)
      obtain ⟨x2_8, e_x2_8⟩ : ∃ y : Int32, y = x2 + (1 : Int32) := ⟨_, rfl⟩
      have h := h x2_8 e_x2_8
      refine wr_iinc (pc := 56) (v := x2_8) (lv' := [(2, .int x2_8), (0, .ref (G.1 0)), (1, .int x1)]) (dget kX8_seekAim 29 rfl) 2 rfl (by rw [e_x2_8, ic_1]) (by decide) rfl ?_
      refine wr_goto (pc := 59) (tgt := 18) (dget kX8_seekAim 30 rfl) (by decide) ?_
      refine wr_sub [1, 2, 0] rfl ?_
      exact ih _ _ h
def vX8_seekAim (p1 : Int32) (σ : Hp) (post : Hp → Prop) : Prop := (vX2_takeFrom 35 23 σ (fun σ_1 => (∀ σ_3 : Hp, σ_3 = wI σ_1 0 14 (-1 : Int32) → (∃ fu : Nat, vX8_seekAim_18 post (fun σ_4 => post σ_4) p1 fu (0 : Int32) σ_3))))
set_option maxHeartbeats 4000000 in
set_option maxRecDepth 100000 in
theorem tX8_seekAim {G : GT} {p1 : Int32} {σ : Hp} {post : Hp → Prop} (h : vX8_seekAim p1 σ post) : CT G mX8_seekAim [.ref (G.1 0), .int p1] σ (LV post) := by
  refine CT.of (by decide +kernel) (Nat.le_of_ble_eq_true rfl) ?_
  show WP G mX8_seekAim 0 [(0, .ref (G.1 0)), (1, .int p1)] [] σ (LV post)
  unfold vX8_seekAim at h
  refine wr_aload_n (pc := 0) (dget kX8_seekAim 0 rfl) 0 rfl ?_
  refine wr_getRl (pc := 1) fl_X8_50 kd_0 fk_8_6 rt_0_6 (dget kX8_seekAim 1 rfl) ?_
  refine wr_aload_n (pc := 4) (dget kX8_seekAim 2 rfl) 0 rfl ?_
  refine wr_getRl (pc := 5) fl_X8_46 kd_0 fk_8_5 rt_0_5 (dget kX8_seekAim 3 rfl) ?_
  refine wr_callVv (pc := 8) (Mc := mX2_takeFrom) (o := 35) (rest := []) cf_X8_356 cv_X2_takeFrom kd_35 rfl ⟨Nat.le_of_ble_eq_true rfl, Nat.le_of_ble_eq_true rfl⟩ rfl rfl (Nat.le_of_ble_eq_true rfl) (dget kX8_seekAim 4 rfl) (tX2_takeFrom h) (fun σ_1 h => ?_)
  refine wr_aload_n (pc := 11) (dget kX8_seekAim 5 rfl) 0 rfl ?_
  refine wr_iconst (pc := 12) (dget kX8_seekAim 6 rfl) ic_m1 ?_
  refine wr_putI (pc := 13) fl_X8_182 kd_0 fk_8_14 (vp_nar_int _) rfl (dget kX8_seekAim 7 rfl) ?_
  refine wr_tops (fun σ_3 e_σ_3 => ?_)
  have h := h σ_3 e_σ_3
  refine wr_iconst (pc := 16) (dget kX8_seekAim 8 rfl) ic_0 ?_
  refine wr_istore_n (pc := 17) (lv' := [(2, .int (0 : Int32)), (0, .ref (G.1 0)), (1, .int p1)]) (dget kX8_seekAim 9 rfl) (by decide) rfl ?_
  obtain ⟨fu, h⟩ := h
  refine wr_sub [1, 2, 0] rfl ?_
  refine tX8_seekAim_18 (fun σ_4 h => ?_) fu _ _ h
  exact wr_vret (pc := 62) rfl (dget kX8_seekAim 31 rfl) ⟨rfl, h⟩
def vX8_aim (p1 : Int32) (p2 : Int32) (σ : Hp) (post : Int32 → Hp → Prop) : Prop := (vX8_settle  σ (fun σ_1 => (vX8_isShot p1 σ_1 (fun r_4 σ_3 => ((r_4 = 0 → post (-2 : Int32) σ_3) ∧ (¬ r_4 = 0 → (vX8_within p2 (2 : Int32) σ_3 (fun r_7 σ_6 => ((r_7 = 0 → post (-2 : Int32) σ_6) ∧ (¬ r_7 = 0 → (vX8_seekAim p1 σ_6 (fun σ_9 => ((p2 = 0 → post (σ_9.1 0 13) σ_9) ∧ (¬ p2 = 0 → post (σ_9.1 0 14) σ_9))))))))))))))
set_option maxHeartbeats 4000000 in
set_option maxRecDepth 100000 in
theorem tX8_aim {G : GT} {p1 : Int32} {p2 : Int32} {σ : Hp} {post : Int32 → Hp → Prop} (h : vX8_aim p1 p2 σ post) : CT G mX8_aim [.ref (G.1 0), .int p1, .int p2] σ (LI post) := by
  refine CT.of (by decide +kernel) (Nat.le_of_ble_eq_true rfl) ?_
  show WP G mX8_aim 0 [(0, .ref (G.1 0)), (1, .int p1), (2, .int p2)] [] σ (LI post)
  unfold vX8_aim at h
  refine wr_aload_n (pc := 0) (dget kX8_aim 0 rfl) 0 rfl ?_
  refine wr_callVv (pc := 1) (Mc := mX8_settle) (o := 0) (rest := []) cf_X8_97 cv_X8_settle kd_0 rfl ⟨Nat.le_of_ble_eq_true rfl, Nat.le_of_ble_eq_true rfl⟩ rfl rfl (Nat.le_of_ble_eq_true rfl) (dget kX8_aim 1 rfl) (tX8_settle h) (fun σ_1 h => ?_)
  refine wr_aload_n (pc := 4) (dget kX8_aim 2 rfl) 0 rfl ?_
  refine wr_iload_n (pc := 5) (dget kX8_aim 3 rfl) 1 rfl ?_
  refine wr_callVi (pc := 6) (Mc := mX8_isShot) (o := 0) (rest := []) cf_X8_115 cv_X8_isShot kd_0 rfl ⟨Nat.le_of_ble_eq_true rfl, Nat.le_of_ble_eq_true rfl⟩ rfl rfl (Nat.le_of_ble_eq_true rfl) (dget kX8_aim 4 rfl) (tX8_isShot h) (fun r_4 σ_3 h => ?_)
  refine wr_if_eq (pc := 9) (tgt := 20) (dget kX8_aim 5 rfl) (by decide) (fun c_5 => ?_) (fun c_5 => ?_)
  · have h := h.1 c_5
    refine wr_bipush (pc := 20) (dget kX8_aim 10 rfl) bp_m2 ?_
    exact wr_iret (pc := 22) rfl (dget kX8_aim 11 rfl) ⟨_, rfl, h⟩
  · have h := h.2 c_5
    refine wr_iload_n (pc := 12) (dget kX8_aim 6 rfl) 2 rfl ?_
    refine wr_iconst (pc := 13) (dget kX8_aim 7 rfl) ic_2 ?_
    refine wr_callSi (pc := 14) (Mc := mX8_within) (rest := []) cf_X8_77 cs_X8_within ⟨Nat.le_of_ble_eq_true rfl, Nat.le_of_ble_eq_true rfl⟩ rfl rfl (Nat.le_of_ble_eq_true rfl) (dget kX8_aim 8 rfl) (tX8_within h) (fun r_7 σ_6 h => ?_)
    refine wr_if_ne (pc := 17) (tgt := 23) (dget kX8_aim 9 rfl) (by decide) (fun c_8 => ?_) (fun c_8 => ?_)
    · have h := h.2 c_8
      refine wr_aload_n (pc := 23) (dget kX8_aim 12 rfl) 0 rfl ?_
      refine wr_iload_n (pc := 24) (dget kX8_aim 13 rfl) 1 rfl ?_
      refine wr_callVv (pc := 25) (Mc := mX8_seekAim) (o := 0) (rest := []) cf_X8_195 cv_X8_seekAim kd_0 rfl ⟨Nat.le_of_ble_eq_true rfl, Nat.le_of_ble_eq_true rfl⟩ rfl rfl (Nat.le_of_ble_eq_true rfl) (dget kX8_aim 14 rfl) (tX8_seekAim h) (fun σ_9 h => ?_)
      refine wr_iload_n (pc := 28) (dget kX8_aim 15 rfl) 2 rfl ?_
      refine wr_if_ne (pc := 29) (tgt := 39) (dget kX8_aim 16 rfl) (by decide) (fun c_11 => ?_) (fun c_11 => ?_)
      · have h := h.2 c_11
        refine wr_aload_n (pc := 39) (dget kX8_aim 20 rfl) 0 rfl ?_
        refine wr_getI (pc := 40) (σ := σ_9) fl_X8_182 kd_0 fk_8_14 (dget kX8_aim 21 rfl) ?_
        exact wr_iret (pc := 43) rfl (dget kX8_aim 22 rfl) ⟨_, rfl, h⟩
      · have h := h.1 c_11
        refine wr_aload_n (pc := 32) (dget kX8_aim 17 rfl) 0 rfl ?_
        refine wr_getI (pc := 33) (σ := σ_9) fl_X8_185 kd_0 fk_8_13 (dget kX8_aim 18 rfl) ?_
        refine wr_goto (pc := 36) (tgt := 43) (dget kX8_aim 19 rfl) (by decide) ?_
        exact wr_iret (pc := 43) rfl (dget kX8_aim 22 rfl) ⟨_, rfl, h⟩
    · have h := h.1 c_8
      refine wr_bipush (pc := 20) (dget kX8_aim 10 rfl) bp_m2 ?_
      exact wr_iret (pc := 22) rfl (dget kX8_aim 11 rfl) ⟨_, rfl, h⟩
def vX8_seekFire_18 (post : Hp → Prop) (ex : Hp → Prop) (x1 : Int32) : Nat → Int32 → Hp → Prop
  | 0 => fun _ _ => False
  | n + 1 => fun x2 σ => (((24 : Int32) ≤ x2 → (ex σ)) ∧ (¬ (24 : Int32) ≤ x2 → (vp_in x1 12 ∧ ∀ σ_3 : Hp, σ_3 = wI σ 37 x1.toNatClampNeg x2 → (vX2_play 35 σ_3 (fun σ_4 => (vX8_offer x2 (σ_4.1 35 11) σ_4 (fun σ_6 => (∀ x2_8 : Int32, x2_8 = x2 + (1 : Int32) → vX8_seekFire_18 post ex x1 n x2_8 σ_6))))))))
set_option maxHeartbeats 4000000 in
set_option maxRecDepth 100000 in
theorem tX8_seekFire_18 {G : GT} {post : Hp → Prop} {ex : Hp → Prop} {x1 : Int32} (hex : ∀  (τ : Hp), ex  τ → WP G mX8_seekFire 62 [] [] τ (LV post)) : ∀ (n : Nat) (x2 : Int32) (σ : Hp), vX8_seekFire_18 post ex x1 n x2 σ → WP G mX8_seekFire 18 [(0, .ref (G.1 0)), (1, .int x1), (2, .int x2)] [] σ (LV post) := by
  intro n
  induction n with
  | zero => intro x2 σ h; exact False.elim h
  | succ n ih =>
    intro x2 σ h
    simp only [vX8_seekFire_18] at h
    refine wr_iload_n (pc := 18) (dget kX8_seekFire 10 rfl) 2 rfl ?_
    refine wr_bipush (pc := 19) (dget kX8_seekFire 11 rfl) bp_24 ?_
    refine wr_icmp_ge (pc := 21) (tgt := 62) (dget kX8_seekFire 12 rfl) (by decide) (fun c_1 => ?_) (fun c_1 => ?_)
    · have h := h.1 c_1
      refine wr_sub [] rfl ?_
      exact hex  _ h
    · have h := h.2 c_1
      refine wr_aload_n (pc := 24) (dget kX8_seekFire 13 rfl) 0 rfl ?_
      refine wr_getRl (pc := 25) fl_X8_50 kd_0 fk_8_6 rt_0_6 (dget kX8_seekFire 14 rfl) ?_
      refine wr_getRl (pc := 28) fl_X8_118 kd_35 fk_2_1 rt_35_1 (dget kX8_seekFire 15 rfl) ?_
      refine wr_getRl (pc := 31) fl_X8_363 kd_36 fk_5_0 rt_36_0 (dget kX8_seekFire 16 rfl) ?_
      refine wr_iload_n (pc := 34) (dget kX8_seekFire 17 rfl) 1 rfl ?_
      refine wr_iload_n (pc := 35) (dget kX8_seekFire 18 rfl) 2 rfl ?_
      obtain ⟨q_2, h⟩ := h
      refine wr_iastl (pc := 36) il_37 q_2 (dget kX8_seekFire 19 rfl) ?_
      refine wr_tops (fun σ_3 e_σ_3 => ?_)
      have h := h σ_3 e_σ_3
      refine wr_aload_n (pc := 37) (dget kX8_seekFire 20 rfl) 0 rfl ?_
      refine wr_getRl (pc := 38) fl_X8_50 kd_0 fk_8_6 rt_0_6 (dget kX8_seekFire 21 rfl) ?_
      refine wr_callVv (pc := 41) (Mc := mX2_play) (o := 35) (rest := []) cf_X8_335 cv_X2_play kd_35 rfl ⟨Nat.le_of_ble_eq_true rfl, Nat.le_of_ble_eq_true rfl⟩ rfl rfl (Nat.le_of_ble_eq_true rfl) (dget kX8_seekFire 22 rfl) (tX2_play h) (fun σ_4 h => ?_)
      refine wr_aload_n (pc := 44) (dget kX8_seekFire 23 rfl) 0 rfl ?_
      refine wr_iload_n (pc := 45) (dget kX8_seekFire 24 rfl) 2 rfl ?_
      refine wr_aload_n (pc := 46) (dget kX8_seekFire 25 rfl) 0 rfl ?_
      refine wr_getRl (pc := 47) fl_X8_50 kd_0 fk_8_6 rt_0_6 (dget kX8_seekFire 26 rfl) ?_
      refine wr_getI (pc := 50) (σ := σ_4) fl_X8_341 kd_35 fk_2_11 (dget kX8_seekFire 27 rfl) ?_
      refine wr_callVv (pc := 53) (Mc := mX8_offer) (o := 0) (rest := []) cf_X8_350 cv_X8_offer kd_0 rfl ⟨Nat.le_of_ble_eq_true rfl, Nat.le_of_ble_eq_true rfl⟩ rfl rfl (Nat.le_of_ble_eq_true rfl) (dget kX8_seekFire 28 rfl) (tX8_offer h) (fun σ_6 h => ?_)
      obtain ⟨x2_8, e_x2_8⟩ : ∃ y : Int32, y = x2 + (1 : Int32) := ⟨_, rfl⟩
      have h := h x2_8 e_x2_8
      refine wr_iinc (pc := 56) (v := x2_8) (lv' := [(2, .int x2_8), (0, .ref (G.1 0)), (1, .int x1)]) (dget kX8_seekFire 29 rfl) 2 rfl (by rw [e_x2_8, ic_1]) (by decide) rfl ?_
      refine wr_goto (pc := 59) (tgt := 18) (dget kX8_seekFire 30 rfl) (by decide) ?_
      refine wr_sub [1, 2, 0] rfl ?_
      exact ih _ _ h
def vX8_seekFire (p1 : Int32) (σ : Hp) (post : Hp → Prop) : Prop := (vX2_takeFrom 35 23 σ (fun σ_1 => (∀ σ_3 : Hp, σ_3 = wI σ_1 0 14 (-1 : Int32) → (∃ fu : Nat, vX8_seekFire_18 post (fun σ_4 => post σ_4) p1 fu (0 : Int32) σ_3))))
set_option maxHeartbeats 4000000 in
set_option maxRecDepth 100000 in
theorem tX8_seekFire {G : GT} {p1 : Int32} {σ : Hp} {post : Hp → Prop} (h : vX8_seekFire p1 σ post) : CT G mX8_seekFire [.ref (G.1 0), .int p1] σ (LV post) := by
  refine CT.of (by decide +kernel) (Nat.le_of_ble_eq_true rfl) ?_
  show WP G mX8_seekFire 0 [(0, .ref (G.1 0)), (1, .int p1)] [] σ (LV post)
  unfold vX8_seekFire at h
  refine wr_aload_n (pc := 0) (dget kX8_seekFire 0 rfl) 0 rfl ?_
  refine wr_getRl (pc := 1) fl_X8_50 kd_0 fk_8_6 rt_0_6 (dget kX8_seekFire 1 rfl) ?_
  refine wr_aload_n (pc := 4) (dget kX8_seekFire 2 rfl) 0 rfl ?_
  refine wr_getRl (pc := 5) fl_X8_46 kd_0 fk_8_5 rt_0_5 (dget kX8_seekFire 3 rfl) ?_
  refine wr_callVv (pc := 8) (Mc := mX2_takeFrom) (o := 35) (rest := []) cf_X8_356 cv_X2_takeFrom kd_35 rfl ⟨Nat.le_of_ble_eq_true rfl, Nat.le_of_ble_eq_true rfl⟩ rfl rfl (Nat.le_of_ble_eq_true rfl) (dget kX8_seekFire 4 rfl) (tX2_takeFrom h) (fun σ_1 h => ?_)
  refine wr_aload_n (pc := 11) (dget kX8_seekFire 5 rfl) 0 rfl ?_
  refine wr_iconst (pc := 12) (dget kX8_seekFire 6 rfl) ic_m1 ?_
  refine wr_putI (pc := 13) fl_X8_182 kd_0 fk_8_14 (vp_nar_int _) rfl (dget kX8_seekFire 7 rfl) ?_
  refine wr_tops (fun σ_3 e_σ_3 => ?_)
  have h := h σ_3 e_σ_3
  refine wr_iconst (pc := 16) (dget kX8_seekFire 8 rfl) ic_0 ?_
  refine wr_istore_n (pc := 17) (lv' := [(2, .int (0 : Int32)), (0, .ref (G.1 0)), (1, .int p1)]) (dget kX8_seekFire 9 rfl) (by decide) rfl ?_
  obtain ⟨fu, h⟩ := h
  refine wr_sub [1, 2, 0] rfl ?_
  refine tX8_seekFire_18 (fun σ_4 h => ?_) fu _ _ h
  exact wr_vret (pc := 62) rfl (dget kX8_seekFire 31 rfl) ⟨rfl, h⟩
def vX8_fire (p1 : Int32) (p2 : Int32) (σ : Hp) (post : Int32 → Hp → Prop) : Prop := (vX8_settle  σ (fun σ_1 => (vX8_isShot p1 σ_1 (fun r_4 σ_3 => ((r_4 = 0 → post (-2 : Int32) σ_3) ∧ (¬ r_4 = 0 → (vX8_within p2 (2 : Int32) σ_3 (fun r_7 σ_6 => ((r_7 = 0 → post (-2 : Int32) σ_6) ∧ (¬ r_7 = 0 → (vX8_seekFire p1 σ_6 (fun σ_9 => ((p2 = 0 → post (σ_9.1 0 13) σ_9) ∧ (¬ p2 = 0 → post (σ_9.1 0 14) σ_9))))))))))))))
set_option maxHeartbeats 4000000 in
set_option maxRecDepth 100000 in
theorem tX8_fire {G : GT} {p1 : Int32} {p2 : Int32} {σ : Hp} {post : Int32 → Hp → Prop} (h : vX8_fire p1 p2 σ post) : CT G mX8_fire [.ref (G.1 0), .int p1, .int p2] σ (LI post) := by
  refine CT.of (by decide +kernel) (Nat.le_of_ble_eq_true rfl) ?_
  show WP G mX8_fire 0 [(0, .ref (G.1 0)), (1, .int p1), (2, .int p2)] [] σ (LI post)
  unfold vX8_fire at h
  refine wr_aload_n (pc := 0) (dget kX8_fire 0 rfl) 0 rfl ?_
  refine wr_callVv (pc := 1) (Mc := mX8_settle) (o := 0) (rest := []) cf_X8_97 cv_X8_settle kd_0 rfl ⟨Nat.le_of_ble_eq_true rfl, Nat.le_of_ble_eq_true rfl⟩ rfl rfl (Nat.le_of_ble_eq_true rfl) (dget kX8_fire 1 rfl) (tX8_settle h) (fun σ_1 h => ?_)
  refine wr_aload_n (pc := 4) (dget kX8_fire 2 rfl) 0 rfl ?_
  refine wr_iload_n (pc := 5) (dget kX8_fire 3 rfl) 1 rfl ?_
  refine wr_callVi (pc := 6) (Mc := mX8_isShot) (o := 0) (rest := []) cf_X8_115 cv_X8_isShot kd_0 rfl ⟨Nat.le_of_ble_eq_true rfl, Nat.le_of_ble_eq_true rfl⟩ rfl rfl (Nat.le_of_ble_eq_true rfl) (dget kX8_fire 4 rfl) (tX8_isShot h) (fun r_4 σ_3 h => ?_)
  refine wr_if_eq (pc := 9) (tgt := 20) (dget kX8_fire 5 rfl) (by decide) (fun c_5 => ?_) (fun c_5 => ?_)
  · have h := h.1 c_5
    refine wr_bipush (pc := 20) (dget kX8_fire 10 rfl) bp_m2 ?_
    exact wr_iret (pc := 22) rfl (dget kX8_fire 11 rfl) ⟨_, rfl, h⟩
  · have h := h.2 c_5
    refine wr_iload_n (pc := 12) (dget kX8_fire 6 rfl) 2 rfl ?_
    refine wr_iconst (pc := 13) (dget kX8_fire 7 rfl) ic_2 ?_
    refine wr_callSi (pc := 14) (Mc := mX8_within) (rest := []) cf_X8_77 cs_X8_within ⟨Nat.le_of_ble_eq_true rfl, Nat.le_of_ble_eq_true rfl⟩ rfl rfl (Nat.le_of_ble_eq_true rfl) (dget kX8_fire 8 rfl) (tX8_within h) (fun r_7 σ_6 h => ?_)
    refine wr_if_ne (pc := 17) (tgt := 23) (dget kX8_fire 9 rfl) (by decide) (fun c_8 => ?_) (fun c_8 => ?_)
    · have h := h.2 c_8
      refine wr_aload_n (pc := 23) (dget kX8_fire 12 rfl) 0 rfl ?_
      refine wr_iload_n (pc := 24) (dget kX8_fire 13 rfl) 1 rfl ?_
      refine wr_callVv (pc := 25) (Mc := mX8_seekFire) (o := 0) (rest := []) cf_X8_198 cv_X8_seekFire kd_0 rfl ⟨Nat.le_of_ble_eq_true rfl, Nat.le_of_ble_eq_true rfl⟩ rfl rfl (Nat.le_of_ble_eq_true rfl) (dget kX8_fire 14 rfl) (tX8_seekFire h) (fun σ_9 h => ?_)
      refine wr_iload_n (pc := 28) (dget kX8_fire 15 rfl) 2 rfl ?_
      refine wr_if_ne (pc := 29) (tgt := 39) (dget kX8_fire 16 rfl) (by decide) (fun c_11 => ?_) (fun c_11 => ?_)
      · have h := h.2 c_11
        refine wr_aload_n (pc := 39) (dget kX8_fire 20 rfl) 0 rfl ?_
        refine wr_getI (pc := 40) (σ := σ_9) fl_X8_182 kd_0 fk_8_14 (dget kX8_fire 21 rfl) ?_
        exact wr_iret (pc := 43) rfl (dget kX8_fire 22 rfl) ⟨_, rfl, h⟩
      · have h := h.1 c_11
        refine wr_aload_n (pc := 32) (dget kX8_fire 17 rfl) 0 rfl ?_
        refine wr_getI (pc := 33) (σ := σ_9) fl_X8_185 kd_0 fk_8_13 (dget kX8_fire 18 rfl) ?_
        refine wr_goto (pc := 36) (tgt := 43) (dget kX8_fire 19 rfl) (by decide) ?_
        exact wr_iret (pc := 43) rfl (dget kX8_fire 22 rfl) ⟨_, rfl, h⟩
    · have h := h.1 c_8
      refine wr_bipush (pc := 20) (dget kX8_fire 10 rfl) bp_m2 ?_
      exact wr_iret (pc := 22) rfl (dget kX8_fire 11 rfl) ⟨_, rfl, h⟩
def vX8_seekMend_18 (post : Hp → Prop) (ex : Hp → Prop) : Nat → Int32 → Hp → Prop
  | 0 => fun _ _ => False
  | n + 1 => fun x1 σ => (((5 : Int32) ≤ x1 → (ex σ)) ∧ (¬ (5 : Int32) ≤ x1 → (∀ σ_2 : Hp, σ_2 = wI σ 35 3 x1 → (vX2_play 35 σ_2 (fun σ_3 => (vX8_offer x1 (σ_3.1 35 11) σ_3 (fun σ_5 => (∀ x1_7 : Int32, x1_7 = x1 + (1 : Int32) → vX8_seekMend_18 post ex  n x1_7 σ_5))))))))
set_option maxHeartbeats 4000000 in
set_option maxRecDepth 100000 in
theorem tX8_seekMend_18 {G : GT} {post : Hp → Prop} {ex : Hp → Prop} (hex : ∀  (τ : Hp), ex  τ → WP G mX8_seekMend 56 [] [] τ (LV post)) : ∀ (n : Nat) (x1 : Int32) (σ : Hp), vX8_seekMend_18 post ex  n x1 σ → WP G mX8_seekMend 18 [(0, .ref (G.1 0)), (1, .int x1)] [] σ (LV post) := by
  intro n
  induction n with
  | zero => intro x1 σ h; exact False.elim h
  | succ n ih =>
    intro x1 σ h
    simp only [vX8_seekMend_18] at h
    refine wr_iload_n (pc := 18) (dget kX8_seekMend 10 rfl) 1 rfl ?_
    refine wr_iconst (pc := 19) (dget kX8_seekMend 11 rfl) ic_5 ?_
    refine wr_icmp_ge (pc := 20) (tgt := 56) (dget kX8_seekMend 12 rfl) (by decide) (fun c_1 => ?_) (fun c_1 => ?_)
    · have h := h.1 c_1
      refine wr_sub [] rfl ?_
      exact hex  _ h
    · have h := h.2 c_1
      refine wr_aload_n (pc := 23) (dget kX8_seekMend 13 rfl) 0 rfl ?_
      refine wr_getRl (pc := 24) fl_X8_50 kd_0 fk_8_6 rt_0_6 (dget kX8_seekMend 14 rfl) ?_
      refine wr_iload_n (pc := 27) (dget kX8_seekMend 15 rfl) 1 rfl ?_
      refine wr_putI (pc := 28) fl_X8_127 kd_35 fk_2_3 (vp_nar_int _) rfl (dget kX8_seekMend 16 rfl) ?_
      refine wr_tops (fun σ_2 e_σ_2 => ?_)
      have h := h σ_2 e_σ_2
      refine wr_aload_n (pc := 31) (dget kX8_seekMend 17 rfl) 0 rfl ?_
      refine wr_getRl (pc := 32) fl_X8_50 kd_0 fk_8_6 rt_0_6 (dget kX8_seekMend 18 rfl) ?_
      refine wr_callVv (pc := 35) (Mc := mX2_play) (o := 35) (rest := []) cf_X8_335 cv_X2_play kd_35 rfl ⟨Nat.le_of_ble_eq_true rfl, Nat.le_of_ble_eq_true rfl⟩ rfl rfl (Nat.le_of_ble_eq_true rfl) (dget kX8_seekMend 19 rfl) (tX2_play h) (fun σ_3 h => ?_)
      refine wr_aload_n (pc := 38) (dget kX8_seekMend 20 rfl) 0 rfl ?_
      refine wr_iload_n (pc := 39) (dget kX8_seekMend 21 rfl) 1 rfl ?_
      refine wr_aload_n (pc := 40) (dget kX8_seekMend 22 rfl) 0 rfl ?_
      refine wr_getRl (pc := 41) fl_X8_50 kd_0 fk_8_6 rt_0_6 (dget kX8_seekMend 23 rfl) ?_
      refine wr_getI (pc := 44) (σ := σ_3) fl_X8_341 kd_35 fk_2_11 (dget kX8_seekMend 24 rfl) ?_
      refine wr_callVv (pc := 47) (Mc := mX8_offer) (o := 0) (rest := []) cf_X8_350 cv_X8_offer kd_0 rfl ⟨Nat.le_of_ble_eq_true rfl, Nat.le_of_ble_eq_true rfl⟩ rfl rfl (Nat.le_of_ble_eq_true rfl) (dget kX8_seekMend 25 rfl) (tX8_offer h) (fun σ_5 h => ?_)
      obtain ⟨x1_7, e_x1_7⟩ : ∃ y : Int32, y = x1 + (1 : Int32) := ⟨_, rfl⟩
      have h := h x1_7 e_x1_7
      refine wr_iinc (pc := 50) (v := x1_7) (lv' := [(1, .int x1_7), (0, .ref (G.1 0))]) (dget kX8_seekMend 26 rfl) 1 rfl (by rw [e_x1_7, ic_1]) (by decide) rfl ?_
      refine wr_goto (pc := 53) (tgt := 18) (dget kX8_seekMend 27 rfl) (by decide) ?_
      refine wr_sub [1, 0] rfl ?_
      exact ih _ _ h
def vX8_seekMend (σ : Hp) (post : Hp → Prop) : Prop := (vX2_takeFrom 35 23 σ (fun σ_1 => (∀ σ_3 : Hp, σ_3 = wI σ_1 0 14 (-1 : Int32) → (∃ fu : Nat, vX8_seekMend_18 post (fun σ_4 => post σ_4)  fu (0 : Int32) σ_3))))
set_option maxHeartbeats 4000000 in
set_option maxRecDepth 100000 in
theorem tX8_seekMend {G : GT} {σ : Hp} {post : Hp → Prop} (h : vX8_seekMend  σ post) : CT G mX8_seekMend [.ref (G.1 0)] σ (LV post) := by
  refine CT.of (by decide +kernel) (Nat.le_of_ble_eq_true rfl) ?_
  show WP G mX8_seekMend 0 [(0, .ref (G.1 0))] [] σ (LV post)
  unfold vX8_seekMend at h
  refine wr_aload_n (pc := 0) (dget kX8_seekMend 0 rfl) 0 rfl ?_
  refine wr_getRl (pc := 1) fl_X8_50 kd_0 fk_8_6 rt_0_6 (dget kX8_seekMend 1 rfl) ?_
  refine wr_aload_n (pc := 4) (dget kX8_seekMend 2 rfl) 0 rfl ?_
  refine wr_getRl (pc := 5) fl_X8_46 kd_0 fk_8_5 rt_0_5 (dget kX8_seekMend 3 rfl) ?_
  refine wr_callVv (pc := 8) (Mc := mX2_takeFrom) (o := 35) (rest := []) cf_X8_356 cv_X2_takeFrom kd_35 rfl ⟨Nat.le_of_ble_eq_true rfl, Nat.le_of_ble_eq_true rfl⟩ rfl rfl (Nat.le_of_ble_eq_true rfl) (dget kX8_seekMend 4 rfl) (tX2_takeFrom h) (fun σ_1 h => ?_)
  refine wr_aload_n (pc := 11) (dget kX8_seekMend 5 rfl) 0 rfl ?_
  refine wr_iconst (pc := 12) (dget kX8_seekMend 6 rfl) ic_m1 ?_
  refine wr_putI (pc := 13) fl_X8_182 kd_0 fk_8_14 (vp_nar_int _) rfl (dget kX8_seekMend 7 rfl) ?_
  refine wr_tops (fun σ_3 e_σ_3 => ?_)
  have h := h σ_3 e_σ_3
  refine wr_iconst (pc := 16) (dget kX8_seekMend 8 rfl) ic_0 ?_
  refine wr_istore_n (pc := 17) (lv' := [(1, .int (0 : Int32)), (0, .ref (G.1 0))]) (dget kX8_seekMend 9 rfl) (by decide) rfl ?_
  obtain ⟨fu, h⟩ := h
  refine wr_sub [1, 0] rfl ?_
  refine tX8_seekMend_18 (fun σ_4 h => ?_) fu _ _ h
  exact wr_vret (pc := 56) rfl (dget kX8_seekMend 28 rfl) ⟨rfl, h⟩
def vX8_mend (p1 : Int32) (σ : Hp) (post : Int32 → Hp → Prop) : Prop := (vX8_within p1 (2 : Int32) σ (fun r_2 σ_1 => ((r_2 = 0 → post (-2 : Int32) σ_1) ∧ (¬ r_2 = 0 → (vX8_settle  σ_1 (fun σ_4 => (vX8_seekMend  σ_4 (fun σ_6 => ((p1 = 0 → post (σ_6.1 0 13) σ_6) ∧ (¬ p1 = 0 → post (σ_6.1 0 14) σ_6))))))))))
set_option maxHeartbeats 4000000 in
set_option maxRecDepth 100000 in
theorem tX8_mend {G : GT} {p1 : Int32} {σ : Hp} {post : Int32 → Hp → Prop} (h : vX8_mend p1 σ post) : CT G mX8_mend [.ref (G.1 0), .int p1] σ (LI post) := by
  refine CT.of (by decide +kernel) (Nat.le_of_ble_eq_true rfl) ?_
  show WP G mX8_mend 0 [(0, .ref (G.1 0)), (1, .int p1)] [] σ (LI post)
  unfold vX8_mend at h
  refine wr_iload_n (pc := 0) (dget kX8_mend 0 rfl) 1 rfl ?_
  refine wr_iconst (pc := 1) (dget kX8_mend 1 rfl) ic_2 ?_
  refine wr_callSi (pc := 2) (Mc := mX8_within) (rest := []) cf_X8_77 cs_X8_within ⟨Nat.le_of_ble_eq_true rfl, Nat.le_of_ble_eq_true rfl⟩ rfl rfl (Nat.le_of_ble_eq_true rfl) (dget kX8_mend 2 rfl) (tX8_within h) (fun r_2 σ_1 h => ?_)
  refine wr_if_ne (pc := 5) (tgt := 11) (dget kX8_mend 3 rfl) (by decide) (fun c_3 => ?_) (fun c_3 => ?_)
  · have h := h.2 c_3
    refine wr_aload_n (pc := 11) (dget kX8_mend 6 rfl) 0 rfl ?_
    refine wr_callVv (pc := 12) (Mc := mX8_settle) (o := 0) (rest := []) cf_X8_97 cv_X8_settle kd_0 rfl ⟨Nat.le_of_ble_eq_true rfl, Nat.le_of_ble_eq_true rfl⟩ rfl rfl (Nat.le_of_ble_eq_true rfl) (dget kX8_mend 7 rfl) (tX8_settle h) (fun σ_4 h => ?_)
    refine wr_aload_n (pc := 15) (dget kX8_mend 8 rfl) 0 rfl ?_
    refine wr_callVv (pc := 16) (Mc := mX8_seekMend) (o := 0) (rest := []) cf_X8_201 cv_X8_seekMend kd_0 rfl ⟨Nat.le_of_ble_eq_true rfl, Nat.le_of_ble_eq_true rfl⟩ rfl rfl (Nat.le_of_ble_eq_true rfl) (dget kX8_mend 9 rfl) (tX8_seekMend h) (fun σ_6 h => ?_)
    refine wr_iload_n (pc := 19) (dget kX8_mend 10 rfl) 1 rfl ?_
    refine wr_if_ne (pc := 20) (tgt := 30) (dget kX8_mend 11 rfl) (by decide) (fun c_8 => ?_) (fun c_8 => ?_)
    · have h := h.2 c_8
      refine wr_aload_n (pc := 30) (dget kX8_mend 15 rfl) 0 rfl ?_
      refine wr_getI (pc := 31) (σ := σ_6) fl_X8_182 kd_0 fk_8_14 (dget kX8_mend 16 rfl) ?_
      exact wr_iret (pc := 34) rfl (dget kX8_mend 17 rfl) ⟨_, rfl, h⟩
    · have h := h.1 c_8
      refine wr_aload_n (pc := 23) (dget kX8_mend 12 rfl) 0 rfl ?_
      refine wr_getI (pc := 24) (σ := σ_6) fl_X8_185 kd_0 fk_8_13 (dget kX8_mend 13 rfl) ?_
      refine wr_goto (pc := 27) (tgt := 34) (dget kX8_mend 14 rfl) (by decide) ?_
      exact wr_iret (pc := 34) rfl (dget kX8_mend 17 rfl) ⟨_, rfl, h⟩
  · have h := h.1 c_3
    refine wr_bipush (pc := 8) (dget kX8_mend 4 rfl) bp_m2 ?_
    exact wr_iret (pc := 10) rfl (dget kX8_mend 5 rfl) ⟨_, rfl, h⟩
def vX8_tryEvents (p1 : Int32) (σ : Hp) (post : Hp → Prop) : Prop := (vX2_takeFrom 35 23 σ (fun σ_1 => (vX0_go 19 p1 σ_1 (fun σ_3 => (∀ σ_5 : Hp, σ_5 = wN σ_3 35 5 19 → (vX2_play 35 σ_5 (fun σ_6 => post σ_6)))))))
set_option maxHeartbeats 4000000 in
set_option maxRecDepth 100000 in
theorem tX8_tryEvents {G : GT} {p1 : Int32} {σ : Hp} {post : Hp → Prop} (h : vX8_tryEvents p1 σ post) : CT G mX8_tryEvents [.ref (G.1 0), .int p1] σ (LV post) := by
  refine CT.of (by decide +kernel) (Nat.le_of_ble_eq_true rfl) ?_
  show WP G mX8_tryEvents 0 [(0, .ref (G.1 0)), (1, .int p1)] [] σ (LV post)
  unfold vX8_tryEvents at h
  refine wr_aload_n (pc := 0) (dget kX8_tryEvents 0 rfl) 0 rfl ?_
  refine wr_getRl (pc := 1) fl_X8_50 kd_0 fk_8_6 rt_0_6 (dget kX8_tryEvents 1 rfl) ?_
  refine wr_aload_n (pc := 4) (dget kX8_tryEvents 2 rfl) 0 rfl ?_
  refine wr_getRl (pc := 5) fl_X8_46 kd_0 fk_8_5 rt_0_5 (dget kX8_tryEvents 3 rfl) ?_
  refine wr_callVv (pc := 8) (Mc := mX2_takeFrom) (o := 35) (rest := []) cf_X8_356 cv_X2_takeFrom kd_35 rfl ⟨Nat.le_of_ble_eq_true rfl, Nat.le_of_ble_eq_true rfl⟩ rfl rfl (Nat.le_of_ble_eq_true rfl) (dget kX8_tryEvents 4 rfl) (tX2_takeFrom h) (fun σ_1 h => ?_)
  refine wr_aload_n (pc := 11) (dget kX8_tryEvents 5 rfl) 0 rfl ?_
  refine wr_getRl (pc := 12) fl_X8_38 kd_0 fk_8_4 rt_0_4 (dget kX8_tryEvents 6 rfl) ?_
  refine wr_iload_n (pc := 15) (dget kX8_tryEvents 7 rfl) 1 rfl ?_
  refine wr_callVv (pc := 16) (Mc := mX0_go) (o := 19) (rest := []) cf_X8_324 cv_X0_go kd_19 rfl ⟨Nat.le_of_ble_eq_true rfl, Nat.le_of_ble_eq_true rfl⟩ rfl rfl (Nat.le_of_ble_eq_true rfl) (dget kX8_tryEvents 8 rfl) (tX0_go h) (fun σ_3 h => ?_)
  refine wr_aload_n (pc := 19) (dget kX8_tryEvents 9 rfl) 0 rfl ?_
  refine wr_getRl (pc := 20) fl_X8_50 kd_0 fk_8_6 rt_0_6 (dget kX8_tryEvents 10 rfl) ?_
  refine wr_aload_n (pc := 23) (dget kX8_tryEvents 11 rfl) 0 rfl ?_
  refine wr_getRl (pc := 24) fl_X8_38 kd_0 fk_8_4 rt_0_4 (dget kX8_tryEvents 12 rfl) ?_
  refine wr_putN (pc := 27) fl_X8_366 kd_35 fk_2_5 rfl rfl (dget kX8_tryEvents 13 rfl) ?_
  refine wr_tops (fun σ_5 e_σ_5 => ?_)
  have h := h σ_5 e_σ_5
  refine wr_aload_n (pc := 30) (dget kX8_tryEvents 14 rfl) 0 rfl ?_
  refine wr_getRl (pc := 31) fl_X8_50 kd_0 fk_8_6 rt_0_6 (dget kX8_tryEvents 15 rfl) ?_
  refine wr_callVv (pc := 34) (Mc := mX2_play) (o := 35) (rest := []) cf_X8_335 cv_X2_play kd_35 rfl ⟨Nat.le_of_ble_eq_true rfl, Nat.le_of_ble_eq_true rfl⟩ rfl rfl (Nat.le_of_ble_eq_true rfl) (dget kX8_tryEvents 16 rfl) (tX2_play h) (fun σ_6 h => ?_)
  exact wr_vret (pc := 37) rfl (dget kX8_tryEvents 17 rfl) ⟨rfl, h⟩
def vX8_allHitWithout (p1 : Int32) (σ : Hp) (post : Int32 → Hp → Prop) : Prop := (vX1_all  σ (fun r_2 σ_1 => (vX8_tryEvents (r_2 &&& (p1 ^^^ (-1 : Int32))) σ_1 (fun σ_3 => (((σ_3.1 35 12) = (((1 : Int32) <<< ((σ_3.1 36 3) &&& 31)) - (1 : Int32)) → post (1 : Int32) σ_3) ∧ (¬ (σ_3.1 35 12) = (((1 : Int32) <<< ((σ_3.1 36 3) &&& 31)) - (1 : Int32)) → post (0 : Int32) σ_3))))))
set_option maxHeartbeats 4000000 in
set_option maxRecDepth 100000 in
theorem tX8_allHitWithout {G : GT} {p1 : Int32} {σ : Hp} {post : Int32 → Hp → Prop} (h : vX8_allHitWithout p1 σ post) : CT G mX8_allHitWithout [.ref (G.1 0), .int p1] σ (LI post) := by
  refine CT.of (by decide +kernel) (Nat.le_of_ble_eq_true rfl) ?_
  show WP G mX8_allHitWithout 0 [(0, .ref (G.1 0)), (1, .int p1)] [] σ (LI post)
  unfold vX8_allHitWithout at h
  refine wr_aload_n (pc := 0) (dget kX8_allHitWithout 0 rfl) 0 rfl ?_
  refine wr_aload_n (pc := 1) (dget kX8_allHitWithout 1 rfl) 0 rfl ?_
  refine wr_getRl (pc := 2) fl_X8_25 kd_0 fk_8_2 rt_0_2 (dget kX8_allHitWithout 2 rfl) ?_
  refine wr_callVi (pc := 5) (Mc := mX1_all) (o := 10) (rest := [.ref (G.1 0)]) cf_X8_321 cv_X1_all kd_10 rfl ⟨Nat.le_of_ble_eq_true rfl, Nat.le_of_ble_eq_true rfl⟩ rfl rfl (Nat.le_of_ble_eq_true rfl) (dget kX8_allHitWithout 3 rfl) (tX1_all h) (fun r_2 σ_1 h => ?_)
  refine wr_iload_n (pc := 8) (dget kX8_allHitWithout 4 rfl) 1 rfl ?_
  refine wr_iconst (pc := 9) (dget kX8_allHitWithout 5 rfl) ic_m1 ?_
  refine wr_ixor (pc := 10) (dget kX8_allHitWithout 6 rfl) ?_
  refine wr_iand (pc := 11) (dget kX8_allHitWithout 7 rfl) ?_
  refine wr_callVv (pc := 12) (Mc := mX8_tryEvents) (o := 0) (rest := []) cf_X8_369 cv_X8_tryEvents kd_0 rfl ⟨Nat.le_of_ble_eq_true rfl, Nat.le_of_ble_eq_true rfl⟩ rfl rfl (Nat.le_of_ble_eq_true rfl) (dget kX8_allHitWithout 8 rfl) (tX8_tryEvents h) (fun σ_3 h => ?_)
  refine wr_aload_n (pc := 15) (dget kX8_allHitWithout 9 rfl) 0 rfl ?_
  refine wr_getRl (pc := 16) fl_X8_50 kd_0 fk_8_6 rt_0_6 (dget kX8_allHitWithout 10 rfl) ?_
  refine wr_getI (pc := 19) (σ := σ_3) fl_X8_344 kd_35 fk_2_12 (dget kX8_allHitWithout 11 rfl) ?_
  refine wr_iconst (pc := 22) (dget kX8_allHitWithout 12 rfl) ic_1 ?_
  refine wr_aload_n (pc := 23) (dget kX8_allHitWithout 13 rfl) 0 rfl ?_
  refine wr_getRl (pc := 24) fl_X8_50 kd_0 fk_8_6 rt_0_6 (dget kX8_allHitWithout 14 rfl) ?_
  refine wr_getRl (pc := 27) fl_X8_118 kd_35 fk_2_1 rt_35_1 (dget kX8_allHitWithout 15 rfl) ?_
  refine wr_getI (pc := 30) (σ := σ_3) fl_X8_289 kd_36 fk_5_3 (dget kX8_allHitWithout 16 rfl) ?_
  refine wr_ishl (pc := 33) (dget kX8_allHitWithout 17 rfl) ?_
  refine wr_iconst (pc := 34) (dget kX8_allHitWithout 18 rfl) ic_1 ?_
  refine wr_isub (pc := 35) (dget kX8_allHitWithout 19 rfl) ?_
  refine wr_icmp_ne (pc := 36) (tgt := 43) (dget kX8_allHitWithout 20 rfl) (by decide) (fun c_5 => ?_) (fun c_5 => ?_)
  · have h := h.2 c_5
    refine wr_iconst (pc := 43) (dget kX8_allHitWithout 23 rfl) ic_0 ?_
    exact wr_zret (pc := 44) rfl (by decide) (dget kX8_allHitWithout 24 rfl) ⟨_, rfl, h⟩
  · have h := h.1 c_5
    refine wr_iconst (pc := 39) (dget kX8_allHitWithout 21 rfl) ic_1 ?_
    refine wr_goto (pc := 40) (tgt := 44) (dget kX8_allHitWithout 22 rfl) (by decide) ?_
    exact wr_zret (pc := 44) rfl (by decide) (dget kX8_allHitWithout 24 rfl) ⟨_, rfl, h⟩
def vX8_eventsToSpare_60 (post : Int32 → Hp → Prop) (ex : Hp → Prop) (x1 : Int32) : Nat → Int32 → Hp → Prop
  | 0 => fun _ _ => False
  | n + 1 => fun x2 σ => (((σ.1 10 4) ≤ x2 → (ex σ)) ∧ (¬ (σ.1 10 4) ≤ x2 → (vX8_allHitWithout (((1 : Int32) <<< (x1 &&& 31)) ||| ((1 : Int32) <<< (x2 &&& 31))) σ (fun r_3 σ_2 => ((r_3 = 0 → (∀ x2_5 : Int32, x2_5 = x2 + (1 : Int32) → vX8_eventsToSpare_60 post ex x1 n x2_5 σ_2)) ∧ (¬ r_3 = 0 → post (((1 : Int32) <<< (x1 &&& 31)) ||| ((1 : Int32) <<< (x2 &&& 31))) σ_2))))))
set_option maxHeartbeats 4000000 in
set_option maxRecDepth 100000 in
theorem tX8_eventsToSpare_60 {G : GT} {post : Int32 → Hp → Prop} {ex : Hp → Prop} {x1 : Int32} (hex : ∀  (τ : Hp), ex  τ → WP G mX8_eventsToSpare 99 [(0, .ref (G.1 0)), (1, .int x1)] [] τ (LI post)) : ∀ (n : Nat) (x2 : Int32) (σ : Hp), vX8_eventsToSpare_60 post ex x1 n x2 σ → WP G mX8_eventsToSpare 60 [(0, .ref (G.1 0)), (1, .int x1), (2, .int x2)] [] σ (LI post) := by
  intro n
  induction n with
  | zero => intro x2 σ h; exact False.elim h
  | succ n ih =>
    intro x2 σ h
    simp only [vX8_eventsToSpare_60] at h
    refine wr_iload_n (pc := 60) (dget kX8_eventsToSpare 36 rfl) 2 rfl ?_
    refine wr_aload_n (pc := 61) (dget kX8_eventsToSpare 37 rfl) 0 rfl ?_
    refine wr_getRl (pc := 62) fl_X8_25 kd_0 fk_8_2 rt_0_2 (dget kX8_eventsToSpare 38 rfl) ?_
    refine wr_getI (pc := 65) (σ := σ) fl_X8_141 kd_10 fk_1_4 (dget kX8_eventsToSpare 39 rfl) ?_
    refine wr_icmp_ge (pc := 68) (tgt := 99) (dget kX8_eventsToSpare 40 rfl) (by decide) (fun c_1 => ?_) (fun c_1 => ?_)
    · have h := h.1 c_1
      refine wr_sub [0, 1] rfl ?_
      exact hex  _ h
    · have h := h.2 c_1
      refine wr_aload_n (pc := 71) (dget kX8_eventsToSpare 41 rfl) 0 rfl ?_
      refine wr_iconst (pc := 72) (dget kX8_eventsToSpare 42 rfl) ic_1 ?_
      refine wr_iload_n (pc := 73) (dget kX8_eventsToSpare 43 rfl) 1 rfl ?_
      refine wr_ishl (pc := 74) (dget kX8_eventsToSpare 44 rfl) ?_
      refine wr_iconst (pc := 75) (dget kX8_eventsToSpare 45 rfl) ic_1 ?_
      refine wr_iload_n (pc := 76) (dget kX8_eventsToSpare 46 rfl) 2 rfl ?_
      refine wr_ishl (pc := 77) (dget kX8_eventsToSpare 47 rfl) ?_
      refine wr_ior (pc := 78) (dget kX8_eventsToSpare 48 rfl) ?_
      refine wr_callVi (pc := 79) (Mc := mX8_allHitWithout) (o := 0) (rest := []) cf_X8_372 cv_X8_allHitWithout kd_0 rfl ⟨Nat.le_of_ble_eq_true rfl, Nat.le_of_ble_eq_true rfl⟩ rfl rfl (Nat.le_of_ble_eq_true rfl) (dget kX8_eventsToSpare 49 rfl) (tX8_allHitWithout h) (fun r_3 σ_2 h => ?_)
      refine wr_if_eq (pc := 82) (tgt := 93) (dget kX8_eventsToSpare 50 rfl) (by decide) (fun c_4 => ?_) (fun c_4 => ?_)
      · have h := h.1 c_4
        obtain ⟨x2_5, e_x2_5⟩ : ∃ y : Int32, y = x2 + (1 : Int32) := ⟨_, rfl⟩
        have h := h x2_5 e_x2_5
        refine wr_iinc (pc := 93) (v := x2_5) (lv' := [(2, .int x2_5), (0, .ref (G.1 0)), (1, .int x1)]) (dget kX8_eventsToSpare 59 rfl) 2 rfl (by rw [e_x2_5, ic_1]) (by decide) rfl ?_
        refine wr_goto (pc := 96) (tgt := 60) (dget kX8_eventsToSpare 60 rfl) (by decide) ?_
        refine wr_sub [1, 2, 0] rfl ?_
        exact ih _ _ h
      · have h := h.2 c_4
        refine wr_iconst (pc := 85) (dget kX8_eventsToSpare 51 rfl) ic_1 ?_
        refine wr_iload_n (pc := 86) (dget kX8_eventsToSpare 52 rfl) 1 rfl ?_
        refine wr_ishl (pc := 87) (dget kX8_eventsToSpare 53 rfl) ?_
        refine wr_iconst (pc := 88) (dget kX8_eventsToSpare 54 rfl) ic_1 ?_
        refine wr_iload_n (pc := 89) (dget kX8_eventsToSpare 55 rfl) 2 rfl ?_
        refine wr_ishl (pc := 90) (dget kX8_eventsToSpare 56 rfl) ?_
        refine wr_ior (pc := 91) (dget kX8_eventsToSpare 57 rfl) ?_
        exact wr_iret (pc := 92) rfl (dget kX8_eventsToSpare 58 rfl) ⟨_, rfl, h⟩
def vX8_eventsToSpare_45 (post : Int32 → Hp → Prop) (ex : Hp → Prop) : Nat → Int32 → Hp → Prop
  | 0 => fun _ _ => False
  | n + 1 => fun x1 σ => (((σ.1 10 4) ≤ x1 → (ex σ)) ∧ (¬ (σ.1 10 4) ≤ x1 → (∀ x2_2 : Int32, x2_2 = (x1 + (1 : Int32)) → (∃ fu : Nat, vX8_eventsToSpare_60 post (fun σ_3 => (∀ x1_4 : Int32, x1_4 = x1 + (1 : Int32) → vX8_eventsToSpare_45 post ex  n x1_4 σ_3)) x1 fu x2_2 σ))))
set_option maxHeartbeats 4000000 in
set_option maxRecDepth 100000 in
theorem tX8_eventsToSpare_45 {G : GT} {post : Int32 → Hp → Prop} {ex : Hp → Prop} (hex : ∀  (τ : Hp), ex  τ → WP G mX8_eventsToSpare 105 [] [] τ (LI post)) : ∀ (n : Nat) (x1 : Int32) (σ : Hp), vX8_eventsToSpare_45 post ex  n x1 σ → WP G mX8_eventsToSpare 45 [(0, .ref (G.1 0)), (1, .int x1)] [] σ (LI post) := by
  intro n
  induction n with
  | zero => intro x1 σ h; exact False.elim h
  | succ n ih =>
    intro x1 σ h
    simp only [vX8_eventsToSpare_45] at h
    refine wr_iload_n (pc := 45) (dget kX8_eventsToSpare 27 rfl) 1 rfl ?_
    refine wr_aload_n (pc := 46) (dget kX8_eventsToSpare 28 rfl) 0 rfl ?_
    refine wr_getRl (pc := 47) fl_X8_25 kd_0 fk_8_2 rt_0_2 (dget kX8_eventsToSpare 29 rfl) ?_
    refine wr_getI (pc := 50) (σ := σ) fl_X8_141 kd_10 fk_1_4 (dget kX8_eventsToSpare 30 rfl) ?_
    refine wr_icmp_ge (pc := 53) (tgt := 105) (dget kX8_eventsToSpare 31 rfl) (by decide) (fun c_1 => ?_) (fun c_1 => ?_)
    · have h := h.1 c_1
      refine wr_sub [] rfl ?_
      exact hex  _ h
    · have h := h.2 c_1
      refine wr_iload_n (pc := 56) (dget kX8_eventsToSpare 32 rfl) 1 rfl ?_
      refine wr_iconst (pc := 57) (dget kX8_eventsToSpare 33 rfl) ic_1 ?_
      refine wr_iadd (pc := 58) (dget kX8_eventsToSpare 34 rfl) ?_
      refine wr_topi (fun x2_2 e_x2_2 => ?_)
      have h := h x2_2 e_x2_2
      refine wr_istore_n (pc := 59) (lv' := [(2, .int x2_2), (0, .ref (G.1 0)), (1, .int x1)]) (dget kX8_eventsToSpare 35 rfl) (by decide) rfl ?_
      obtain ⟨fu, h⟩ := h
      refine wr_sub [1, 2, 0] rfl ?_
      refine tX8_eventsToSpare_60 (fun σ_3 h => ?_) fu _ _ h
      obtain ⟨x1_4, e_x1_4⟩ : ∃ y : Int32, y = x1 + (1 : Int32) := ⟨_, rfl⟩
      have h := h x1_4 e_x1_4
      refine wr_iinc (pc := 99) (v := x1_4) (lv' := [(1, .int x1_4), (0, .ref (G.1 0))]) (dget kX8_eventsToSpare 61 rfl) 1 rfl (by rw [e_x1_4, ic_1]) (by decide) rfl ?_
      refine wr_goto (pc := 102) (tgt := 45) (dget kX8_eventsToSpare 62 rfl) (by decide) ?_
      refine wr_sub [1, 0] rfl ?_
      exact ih _ _ h
def vX8_eventsToSpare_12 (post : Int32 → Hp → Prop) (ex : Hp → Prop) : Nat → Int32 → Hp → Prop
  | 0 => fun _ _ => False
  | n + 1 => fun x1 σ => (((σ.1 10 4) ≤ x1 → (ex σ)) ∧ (¬ (σ.1 10 4) ≤ x1 → (vX8_allHitWithout ((1 : Int32) <<< (x1 &&& 31)) σ (fun r_3 σ_2 => ((r_3 = 0 → (∀ x1_5 : Int32, x1_5 = x1 + (1 : Int32) → vX8_eventsToSpare_12 post ex  n x1_5 σ_2)) ∧ (¬ r_3 = 0 → post ((1 : Int32) <<< (x1 &&& 31)) σ_2))))))
set_option maxHeartbeats 4000000 in
set_option maxRecDepth 100000 in
theorem tX8_eventsToSpare_12 {G : GT} {post : Int32 → Hp → Prop} {ex : Hp → Prop} (hex : ∀  (τ : Hp), ex  τ → WP G mX8_eventsToSpare 43 [(0, .ref (G.1 0))] [] τ (LI post)) : ∀ (n : Nat) (x1 : Int32) (σ : Hp), vX8_eventsToSpare_12 post ex  n x1 σ → WP G mX8_eventsToSpare 12 [(0, .ref (G.1 0)), (1, .int x1)] [] σ (LI post) := by
  intro n
  induction n with
  | zero => intro x1 σ h; exact False.elim h
  | succ n ih =>
    intro x1 σ h
    simp only [vX8_eventsToSpare_12] at h
    refine wr_iload_n (pc := 12) (dget kX8_eventsToSpare 8 rfl) 1 rfl ?_
    refine wr_aload_n (pc := 13) (dget kX8_eventsToSpare 9 rfl) 0 rfl ?_
    refine wr_getRl (pc := 14) fl_X8_25 kd_0 fk_8_2 rt_0_2 (dget kX8_eventsToSpare 10 rfl) ?_
    refine wr_getI (pc := 17) (σ := σ) fl_X8_141 kd_10 fk_1_4 (dget kX8_eventsToSpare 11 rfl) ?_
    refine wr_icmp_ge (pc := 20) (tgt := 43) (dget kX8_eventsToSpare 12 rfl) (by decide) (fun c_1 => ?_) (fun c_1 => ?_)
    · have h := h.1 c_1
      refine wr_sub [0] rfl ?_
      exact hex  _ h
    · have h := h.2 c_1
      refine wr_aload_n (pc := 23) (dget kX8_eventsToSpare 13 rfl) 0 rfl ?_
      refine wr_iconst (pc := 24) (dget kX8_eventsToSpare 14 rfl) ic_1 ?_
      refine wr_iload_n (pc := 25) (dget kX8_eventsToSpare 15 rfl) 1 rfl ?_
      refine wr_ishl (pc := 26) (dget kX8_eventsToSpare 16 rfl) ?_
      refine wr_callVi (pc := 27) (Mc := mX8_allHitWithout) (o := 0) (rest := []) cf_X8_372 cv_X8_allHitWithout kd_0 rfl ⟨Nat.le_of_ble_eq_true rfl, Nat.le_of_ble_eq_true rfl⟩ rfl rfl (Nat.le_of_ble_eq_true rfl) (dget kX8_eventsToSpare 17 rfl) (tX8_allHitWithout h) (fun r_3 σ_2 h => ?_)
      refine wr_if_eq (pc := 30) (tgt := 37) (dget kX8_eventsToSpare 18 rfl) (by decide) (fun c_4 => ?_) (fun c_4 => ?_)
      · have h := h.1 c_4
        obtain ⟨x1_5, e_x1_5⟩ : ∃ y : Int32, y = x1 + (1 : Int32) := ⟨_, rfl⟩
        have h := h x1_5 e_x1_5
        refine wr_iinc (pc := 37) (v := x1_5) (lv' := [(1, .int x1_5), (0, .ref (G.1 0))]) (dget kX8_eventsToSpare 23 rfl) 1 rfl (by rw [e_x1_5, ic_1]) (by decide) rfl ?_
        refine wr_goto (pc := 40) (tgt := 12) (dget kX8_eventsToSpare 24 rfl) (by decide) ?_
        refine wr_sub [1, 0] rfl ?_
        exact ih _ _ h
      · have h := h.2 c_4
        refine wr_iconst (pc := 33) (dget kX8_eventsToSpare 19 rfl) ic_1 ?_
        refine wr_iload_n (pc := 34) (dget kX8_eventsToSpare 20 rfl) 1 rfl ?_
        refine wr_ishl (pc := 35) (dget kX8_eventsToSpare 21 rfl) ?_
        exact wr_iret (pc := 36) rfl (dget kX8_eventsToSpare 22 rfl) ⟨_, rfl, h⟩
def vX8_eventsToSpare (σ : Hp) (post : Int32 → Hp → Prop) : Prop := (vX8_allHitWithout (0 : Int32) σ (fun r_2 σ_1 => ((r_2 = 0 → (∃ fu : Nat, vX8_eventsToSpare_12 post (fun σ_4 => (∃ fu : Nat, vX8_eventsToSpare_45 post (fun σ_5 => post (-1 : Int32) σ_5)  fu (0 : Int32) σ_4))  fu (0 : Int32) σ_1)) ∧ (¬ r_2 = 0 → post (0 : Int32) σ_1))))
set_option maxHeartbeats 4000000 in
set_option maxRecDepth 100000 in
theorem tX8_eventsToSpare {G : GT} {σ : Hp} {post : Int32 → Hp → Prop} (h : vX8_eventsToSpare  σ post) : CT G mX8_eventsToSpare [.ref (G.1 0)] σ (LI post) := by
  refine CT.of (by decide +kernel) (Nat.le_of_ble_eq_true rfl) ?_
  show WP G mX8_eventsToSpare 0 [(0, .ref (G.1 0))] [] σ (LI post)
  unfold vX8_eventsToSpare at h
  refine wr_aload_n (pc := 0) (dget kX8_eventsToSpare 0 rfl) 0 rfl ?_
  refine wr_iconst (pc := 1) (dget kX8_eventsToSpare 1 rfl) ic_0 ?_
  refine wr_callVi (pc := 2) (Mc := mX8_allHitWithout) (o := 0) (rest := []) cf_X8_372 cv_X8_allHitWithout kd_0 rfl ⟨Nat.le_of_ble_eq_true rfl, Nat.le_of_ble_eq_true rfl⟩ rfl rfl (Nat.le_of_ble_eq_true rfl) (dget kX8_eventsToSpare 2 rfl) (tX8_allHitWithout h) (fun r_2 σ_1 h => ?_)
  refine wr_if_eq (pc := 5) (tgt := 10) (dget kX8_eventsToSpare 3 rfl) (by decide) (fun c_3 => ?_) (fun c_3 => ?_)
  · have h := h.1 c_3
    refine wr_iconst (pc := 10) (dget kX8_eventsToSpare 6 rfl) ic_0 ?_
    refine wr_istore_n (pc := 11) (lv' := [(1, .int (0 : Int32)), (0, .ref (G.1 0))]) (dget kX8_eventsToSpare 7 rfl) (by decide) rfl ?_
    obtain ⟨fu, h⟩ := h
    refine wr_sub [1, 0] rfl ?_
    refine tX8_eventsToSpare_12 (fun σ_4 h => ?_) fu _ _ h
    refine wr_iconst (pc := 43) (dget kX8_eventsToSpare 25 rfl) ic_0 ?_
    refine wr_istore_n (pc := 44) (lv' := [(1, .int (0 : Int32)), (0, .ref (G.1 0))]) (dget kX8_eventsToSpare 26 rfl) (by decide) rfl ?_
    obtain ⟨fu, h⟩ := h
    refine wr_sub [1, 0] rfl ?_
    refine tX8_eventsToSpare_45 (fun σ_5 h => ?_) fu _ _ h
    refine wr_iconst (pc := 105) (dget kX8_eventsToSpare 63 rfl) ic_m1 ?_
    exact wr_iret (pc := 106) rfl (dget kX8_eventsToSpare 64 rfl) ⟨_, rfl, h⟩
  · have h := h.2 c_3
    refine wr_iconst (pc := 8) (dget kX8_eventsToSpare 4 rfl) ic_0 ?_
    exact wr_iret (pc := 9) rfl (dget kX8_eventsToSpare 5 rfl) ⟨_, rfl, h⟩
def vX8_sparedOf (p1 : Int32) (p2 : Int32) (σ : Hp) (post : Int32 → Hp → Prop) : Prop := ((p1 = (-1 : Int32) → post (-1 : Int32) σ) ∧ (¬ p1 = (-1 : Int32) → (vJ6_bitCount_0f7a4 p1 σ (fun r_3 σ_2 => ((p2 = (-1 : Int32) → post r_3 σ_2) ∧ (¬ p2 = (-1 : Int32) → ((p2 < r_3 → ((p2 = 0 → (vJ6_numberOfTrailingZeros_0f7a4 p1 σ_2 (fun r_10 σ_9 => post r_10 σ_9))) ∧ (¬ p2 = 0 → (vJ6_numberOfTrailingZeros_0f7a4 (p1 &&& (p1 - (1 : Int32))) σ_2 (fun r_8 σ_7 => post r_8 σ_7))))) ∧ (¬ p2 < r_3 → post (-1 : Int32) σ_2))))))))
set_option maxHeartbeats 4000000 in
set_option maxRecDepth 100000 in
theorem tX8_sparedOf {G : GT} {p1 : Int32} {p2 : Int32} {σ : Hp} {post : Int32 → Hp → Prop} (h : vX8_sparedOf p1 p2 σ post) : CT G mX8_sparedOf [.int p1, .int p2] σ (LI post) := by
  refine CT.of (by decide +kernel) (Nat.le_of_ble_eq_true rfl) ?_
  show WP G mX8_sparedOf 0 [(0, .int p1), (1, .int p2)] [] σ (LI post)
  unfold vX8_sparedOf at h
  refine wr_iload_n (pc := 0) (dget kX8_sparedOf 0 rfl) 0 rfl ?_
  refine wr_iconst (pc := 1) (dget kX8_sparedOf 1 rfl) ic_m1 ?_
  refine wr_icmp_ne (pc := 2) (tgt := 7) (dget kX8_sparedOf 2 rfl) (by decide) (fun c_1 => ?_) (fun c_1 => ?_)
  · have h := h.2 c_1
    refine wr_iload_n (pc := 7) (dget kX8_sparedOf 5 rfl) 0 rfl ?_
    refine wr_callSi (pc := 8) (Mc := mJ6_bitCount_0f7a4) (rest := []) cf_X8_168 cs_J6_bitCount_0f7a4 ⟨Nat.le_of_ble_eq_true rfl, Nat.le_of_ble_eq_true rfl⟩ rfl rfl (Nat.le_of_ble_eq_true rfl) (dget kX8_sparedOf 6 rfl) (tJ6_bitCount_0f7a4 h) (fun r_3 σ_2 h => ?_)
    refine wr_istore_n (pc := 11) (lv' := [(2, .int r_3), (0, .int p1), (1, .int p2)]) (dget kX8_sparedOf 7 rfl) (by decide) rfl ?_
    refine wr_iload_n (pc := 12) (dget kX8_sparedOf 8 rfl) 2 rfl ?_
    refine wr_iconst (pc := 13) (dget kX8_sparedOf 9 rfl) ic_m1 ?_
    refine wr_icmp_ne (pc := 14) (tgt := 19) (dget kX8_sparedOf 10 rfl) (by decide) (fun c_4 => ?_) (fun c_4 => ?_)
    · have h := h.2 c_4
      refine wr_iload_n (pc := 19) (dget kX8_sparedOf 13 rfl) 2 rfl ?_
      refine wr_iload_n (pc := 20) (dget kX8_sparedOf 14 rfl) 0 rfl ?_
      refine wr_icmp_lt (pc := 21) (tgt := 26) (dget kX8_sparedOf 15 rfl) (by decide) (fun c_5 => ?_) (fun c_5 => ?_)
      · have h := h.1 c_5
        refine wr_iload_n (pc := 26) (dget kX8_sparedOf 18 rfl) 2 rfl ?_
        refine wr_if_ne (pc := 27) (tgt := 34) (dget kX8_sparedOf 19 rfl) (by decide) (fun c_6 => ?_) (fun c_6 => ?_)
        · have h := h.2 c_6
          refine wr_iload_n (pc := 34) (dget kX8_sparedOf 22 rfl) 1 rfl ?_
          refine wr_iload_n (pc := 35) (dget kX8_sparedOf 23 rfl) 1 rfl ?_
          refine wr_iconst (pc := 36) (dget kX8_sparedOf 24 rfl) ic_1 ?_
          refine wr_isub (pc := 37) (dget kX8_sparedOf 25 rfl) ?_
          refine wr_iand (pc := 38) (dget kX8_sparedOf 26 rfl) ?_
          refine wr_callSi (pc := 39) (Mc := mJ6_numberOfTrailingZeros_0f7a4) (rest := []) cf_X8_375 cs_J6_numberOfTrailingZeros_0f7a4 ⟨Nat.le_of_ble_eq_true rfl, Nat.le_of_ble_eq_true rfl⟩ rfl rfl (Nat.le_of_ble_eq_true rfl) (dget kX8_sparedOf 27 rfl) (tJ6_numberOfTrailingZeros_0f7a4 h) (fun r_8 σ_7 h => ?_)
          exact wr_iret (pc := 42) rfl (dget kX8_sparedOf 28 rfl) ⟨_, rfl, h⟩
        · have h := h.1 c_6
          refine wr_iload_n (pc := 30) (dget kX8_sparedOf 20 rfl) 1 rfl ?_
          refine wr_goto (pc := 31) (tgt := 39) (dget kX8_sparedOf 21 rfl) (by decide) ?_
          refine wr_callSi (pc := 39) (Mc := mJ6_numberOfTrailingZeros_0f7a4) (rest := []) cf_X8_375 cs_J6_numberOfTrailingZeros_0f7a4 ⟨Nat.le_of_ble_eq_true rfl, Nat.le_of_ble_eq_true rfl⟩ rfl rfl (Nat.le_of_ble_eq_true rfl) (dget kX8_sparedOf 27 rfl) (tJ6_numberOfTrailingZeros_0f7a4 h) (fun r_10 σ_9 h => ?_)
          exact wr_iret (pc := 42) rfl (dget kX8_sparedOf 28 rfl) ⟨_, rfl, h⟩
      · have h := h.2 c_5
        refine wr_iconst (pc := 24) (dget kX8_sparedOf 16 rfl) ic_m1 ?_
        exact wr_iret (pc := 25) rfl (dget kX8_sparedOf 17 rfl) ⟨_, rfl, h⟩
    · have h := h.1 c_4
      refine wr_iload_n (pc := 17) (dget kX8_sparedOf 11 rfl) 0 rfl ?_
      exact wr_iret (pc := 18) rfl (dget kX8_sparedOf 12 rfl) ⟨_, rfl, h⟩
  · have h := h.1 c_1
    refine wr_iconst (pc := 5) (dget kX8_sparedOf 3 rfl) ic_m1 ?_
    exact wr_iret (pc := 6) rfl (dget kX8_sparedOf 4 rfl) ⟨_, rfl, h⟩
def vX8_spare (p1 : Int32) (σ : Hp) (post : Int32 → Hp → Prop) : Prop := ((p1 = (-1 : Int32) → (vX8_settle  σ (fun σ_2 => (vX8_eventsToSpare  σ_2 (fun r_5 σ_4 => (vX8_sparedOf r_5 p1 σ_4 (fun r_7 σ_6 => post r_7 σ_6))))))) ∧ (¬ p1 = (-1 : Int32) → (vX8_within p1 (2 : Int32) σ (fun r_9 σ_8 => ((r_9 = 0 → post (-2 : Int32) σ_8) ∧ (¬ r_9 = 0 → (vX8_settle  σ_8 (fun σ_11 => (vX8_eventsToSpare  σ_11 (fun r_14 σ_13 => (vX8_sparedOf r_14 p1 σ_13 (fun r_16 σ_15 => post r_16 σ_15))))))))))))
set_option maxHeartbeats 4000000 in
set_option maxRecDepth 100000 in
theorem tX8_spare {G : GT} {p1 : Int32} {σ : Hp} {post : Int32 → Hp → Prop} (h : vX8_spare p1 σ post) : CT G mX8_spare [.ref (G.1 0), .int p1] σ (LI post) := by
  refine CT.of (by decide +kernel) (Nat.le_of_ble_eq_true rfl) ?_
  show WP G mX8_spare 0 [(0, .ref (G.1 0)), (1, .int p1)] [] σ (LI post)
  unfold vX8_spare at h
  refine wr_iload_n (pc := 0) (dget kX8_spare 0 rfl) 1 rfl ?_
  refine wr_iconst (pc := 1) (dget kX8_spare 1 rfl) ic_m1 ?_
  refine wr_icmp_eq (pc := 2) (tgt := 16) (dget kX8_spare 2 rfl) (by decide) (fun c_1 => ?_) (fun c_1 => ?_)
  · have h := h.1 c_1
    refine wr_aload_n (pc := 16) (dget kX8_spare 9 rfl) 0 rfl ?_
    refine wr_callVv (pc := 17) (Mc := mX8_settle) (o := 0) (rest := []) cf_X8_97 cv_X8_settle kd_0 rfl ⟨Nat.le_of_ble_eq_true rfl, Nat.le_of_ble_eq_true rfl⟩ rfl rfl (Nat.le_of_ble_eq_true rfl) (dget kX8_spare 10 rfl) (tX8_settle h) (fun σ_2 h => ?_)
    refine wr_aload_n (pc := 20) (dget kX8_spare 11 rfl) 0 rfl ?_
    refine wr_callVi (pc := 21) (Mc := mX8_eventsToSpare) (o := 0) (rest := []) cf_X8_204 cv_X8_eventsToSpare kd_0 rfl ⟨Nat.le_of_ble_eq_true rfl, Nat.le_of_ble_eq_true rfl⟩ rfl rfl (Nat.le_of_ble_eq_true rfl) (dget kX8_spare 12 rfl) (tX8_eventsToSpare h) (fun r_5 σ_4 h => ?_)
    refine wr_iload_n (pc := 24) (dget kX8_spare 13 rfl) 1 rfl ?_
    refine wr_callSi (pc := 25) (Mc := mX8_sparedOf) (rest := []) cf_X8_207 cs_X8_sparedOf ⟨Nat.le_of_ble_eq_true rfl, Nat.le_of_ble_eq_true rfl⟩ rfl rfl (Nat.le_of_ble_eq_true rfl) (dget kX8_spare 14 rfl) (tX8_sparedOf h) (fun r_7 σ_6 h => ?_)
    exact wr_iret (pc := 28) rfl (dget kX8_spare 15 rfl) ⟨_, rfl, h⟩
  · have h := h.2 c_1
    refine wr_iload_n (pc := 5) (dget kX8_spare 3 rfl) 1 rfl ?_
    refine wr_iconst (pc := 6) (dget kX8_spare 4 rfl) ic_2 ?_
    refine wr_callSi (pc := 7) (Mc := mX8_within) (rest := []) cf_X8_77 cs_X8_within ⟨Nat.le_of_ble_eq_true rfl, Nat.le_of_ble_eq_true rfl⟩ rfl rfl (Nat.le_of_ble_eq_true rfl) (dget kX8_spare 5 rfl) (tX8_within h) (fun r_9 σ_8 h => ?_)
    refine wr_if_ne (pc := 10) (tgt := 16) (dget kX8_spare 6 rfl) (by decide) (fun c_10 => ?_) (fun c_10 => ?_)
    · have h := h.2 c_10
      refine wr_aload_n (pc := 16) (dget kX8_spare 9 rfl) 0 rfl ?_
      refine wr_callVv (pc := 17) (Mc := mX8_settle) (o := 0) (rest := []) cf_X8_97 cv_X8_settle kd_0 rfl ⟨Nat.le_of_ble_eq_true rfl, Nat.le_of_ble_eq_true rfl⟩ rfl rfl (Nat.le_of_ble_eq_true rfl) (dget kX8_spare 10 rfl) (tX8_settle h) (fun σ_11 h => ?_)
      refine wr_aload_n (pc := 20) (dget kX8_spare 11 rfl) 0 rfl ?_
      refine wr_callVi (pc := 21) (Mc := mX8_eventsToSpare) (o := 0) (rest := []) cf_X8_204 cv_X8_eventsToSpare kd_0 rfl ⟨Nat.le_of_ble_eq_true rfl, Nat.le_of_ble_eq_true rfl⟩ rfl rfl (Nat.le_of_ble_eq_true rfl) (dget kX8_spare 12 rfl) (tX8_eventsToSpare h) (fun r_14 σ_13 h => ?_)
      refine wr_iload_n (pc := 24) (dget kX8_spare 13 rfl) 1 rfl ?_
      refine wr_callSi (pc := 25) (Mc := mX8_sparedOf) (rest := []) cf_X8_207 cs_X8_sparedOf ⟨Nat.le_of_ble_eq_true rfl, Nat.le_of_ble_eq_true rfl⟩ rfl rfl (Nat.le_of_ble_eq_true rfl) (dget kX8_spare 14 rfl) (tX8_sparedOf h) (fun r_16 σ_15 h => ?_)
      exact wr_iret (pc := 28) rfl (dget kX8_spare 15 rfl) ⟨_, rfl, h⟩
    · have h := h.1 c_10
      refine wr_bipush (pc := 13) (dget kX8_spare 7 rfl) bp_m2 ?_
      exact wr_iret (pc := 15) rfl (dget kX8_spare 8 rfl) ⟨_, rfl, h⟩
def vX8_seen (p1 : Int32) (p2 : Int32) (p3 : Int32) (σ : Hp) (post : Int32 → Hp → Prop) : Prop := (vX8_within p1 (24 : Int32) σ (fun r_2 σ_1 => ((r_2 = 0 → post (-2 : Int32) σ_1) ∧ (¬ r_2 = 0 → (vX8_within p2 (12 : Int32) σ_1 (fun r_5 σ_4 => ((r_5 = 0 → post (-2 : Int32) σ_4) ∧ (¬ r_5 = 0 → (vX8_within p3 (2 : Int32) σ_4 (fun r_8 σ_7 => ((r_8 = 0 → post (-2 : Int32) σ_7) ∧ (¬ r_8 = 0 → (vX3_isFull  σ_7 (fun r_11 σ_10 => ((r_11 = 0 → (vX3_append p1 p2 p3 σ_10 (fun σ_13 => post (σ_13.1 47 3) σ_13))) ∧ (¬ r_11 = 0 → post (-4 : Int32) σ_10))))))))))))))))
set_option maxHeartbeats 4000000 in
set_option maxRecDepth 100000 in
theorem tX8_seen {G : GT} {p1 : Int32} {p2 : Int32} {p3 : Int32} {σ : Hp} {post : Int32 → Hp → Prop} (h : vX8_seen p1 p2 p3 σ post) : CT G mX8_seen [.ref (G.1 0), .int p1, .int p2, .int p3] σ (LI post) := by
  refine CT.of (by decide +kernel) (Nat.le_of_ble_eq_true rfl) ?_
  show WP G mX8_seen 0 [(0, .ref (G.1 0)), (1, .int p1), (2, .int p2), (3, .int p3)] [] σ (LI post)
  unfold vX8_seen at h
  refine wr_iload_n (pc := 0) (dget kX8_seen 0 rfl) 1 rfl ?_
  refine wr_bipush (pc := 1) (dget kX8_seen 1 rfl) bp_24 ?_
  refine wr_callSi (pc := 3) (Mc := mX8_within) (rest := []) cf_X8_77 cs_X8_within ⟨Nat.le_of_ble_eq_true rfl, Nat.le_of_ble_eq_true rfl⟩ rfl rfl (Nat.le_of_ble_eq_true rfl) (dget kX8_seen 2 rfl) (tX8_within h) (fun r_2 σ_1 h => ?_)
  refine wr_if_eq (pc := 6) (tgt := 26) (dget kX8_seen 3 rfl) (by decide) (fun c_3 => ?_) (fun c_3 => ?_)
  · have h := h.1 c_3
    refine wr_bipush (pc := 26) (dget kX8_seen 12 rfl) bp_m2 ?_
    exact wr_iret (pc := 28) rfl (dget kX8_seen 13 rfl) ⟨_, rfl, h⟩
  · have h := h.2 c_3
    refine wr_iload_n (pc := 9) (dget kX8_seen 4 rfl) 2 rfl ?_
    refine wr_bipush (pc := 10) (dget kX8_seen 5 rfl) bp_12 ?_
    refine wr_callSi (pc := 12) (Mc := mX8_within) (rest := []) cf_X8_77 cs_X8_within ⟨Nat.le_of_ble_eq_true rfl, Nat.le_of_ble_eq_true rfl⟩ rfl rfl (Nat.le_of_ble_eq_true rfl) (dget kX8_seen 6 rfl) (tX8_within h) (fun r_5 σ_4 h => ?_)
    refine wr_if_eq (pc := 15) (tgt := 26) (dget kX8_seen 7 rfl) (by decide) (fun c_6 => ?_) (fun c_6 => ?_)
    · have h := h.1 c_6
      refine wr_bipush (pc := 26) (dget kX8_seen 12 rfl) bp_m2 ?_
      exact wr_iret (pc := 28) rfl (dget kX8_seen 13 rfl) ⟨_, rfl, h⟩
    · have h := h.2 c_6
      refine wr_iload_n (pc := 18) (dget kX8_seen 8 rfl) 3 rfl ?_
      refine wr_iconst (pc := 19) (dget kX8_seen 9 rfl) ic_2 ?_
      refine wr_callSi (pc := 20) (Mc := mX8_within) (rest := []) cf_X8_77 cs_X8_within ⟨Nat.le_of_ble_eq_true rfl, Nat.le_of_ble_eq_true rfl⟩ rfl rfl (Nat.le_of_ble_eq_true rfl) (dget kX8_seen 10 rfl) (tX8_within h) (fun r_8 σ_7 h => ?_)
      refine wr_if_ne (pc := 23) (tgt := 29) (dget kX8_seen 11 rfl) (by decide) (fun c_9 => ?_) (fun c_9 => ?_)
      · have h := h.2 c_9
        refine wr_aload_n (pc := 29) (dget kX8_seen 14 rfl) 0 rfl ?_
        refine wr_getRl (pc := 30) fl_X8_56 kd_0 fk_8_7 rt_0_7 (dget kX8_seen 15 rfl) ?_
        refine wr_callVi (pc := 33) (Mc := mX3_isFull) (o := 47) (rest := []) cf_X8_210 cv_X3_isFull kd_47 rfl ⟨Nat.le_of_ble_eq_true rfl, Nat.le_of_ble_eq_true rfl⟩ rfl rfl (Nat.le_of_ble_eq_true rfl) (dget kX8_seen 16 rfl) (tX3_isFull h) (fun r_11 σ_10 h => ?_)
        refine wr_if_eq (pc := 36) (tgt := 42) (dget kX8_seen 17 rfl) (by decide) (fun c_12 => ?_) (fun c_12 => ?_)
        · have h := h.1 c_12
          refine wr_aload_n (pc := 42) (dget kX8_seen 20 rfl) 0 rfl ?_
          refine wr_getRl (pc := 43) fl_X8_56 kd_0 fk_8_7 rt_0_7 (dget kX8_seen 21 rfl) ?_
          refine wr_iload_n (pc := 46) (dget kX8_seen 22 rfl) 1 rfl ?_
          refine wr_iload_n (pc := 47) (dget kX8_seen 23 rfl) 2 rfl ?_
          refine wr_iload_n (pc := 48) (dget kX8_seen 24 rfl) 3 rfl ?_
          refine wr_callVv (pc := 49) (Mc := mX3_append) (o := 47) (rest := []) cf_X8_211 cv_X3_append kd_47 rfl ⟨Nat.le_of_ble_eq_true rfl, Nat.le_of_ble_eq_true rfl⟩ rfl rfl (Nat.le_of_ble_eq_true rfl) (dget kX8_seen 25 rfl) (tX3_append h) (fun σ_13 h => ?_)
          refine wr_aload_n (pc := 52) (dget kX8_seen 26 rfl) 0 rfl ?_
          refine wr_getRl (pc := 53) fl_X8_56 kd_0 fk_8_7 rt_0_7 (dget kX8_seen 27 rfl) ?_
          refine wr_getI (pc := 56) (σ := σ_13) fl_X8_212 kd_47 fk_3_3 (dget kX8_seen 28 rfl) ?_
          exact wr_iret (pc := 59) rfl (dget kX8_seen 29 rfl) ⟨_, rfl, h⟩
        · have h := h.2 c_12
          refine wr_bipush (pc := 39) (dget kX8_seen 18 rfl) bp_m4 ?_
          exact wr_iret (pc := 41) rfl (dget kX8_seen 19 rfl) ⟨_, rfl, h⟩
      · have h := h.1 c_9
        refine wr_bipush (pc := 26) (dget kX8_seen 12 rfl) bp_m2 ?_
        exact wr_iret (pc := 28) rfl (dget kX8_seen 13 rfl) ⟨_, rfl, h⟩
def vX8_forget (σ : Hp) (post : Int32 → Hp → Prop) : Prop := (∀ x1_1 : Int32, x1_1 = (σ.1 47 3) → (∀ σ_2 : Hp, σ_2 = wI σ 47 3 (0 : Int32) → post x1_1 σ_2))
set_option maxHeartbeats 4000000 in
set_option maxRecDepth 100000 in
theorem tX8_forget {G : GT} {σ : Hp} {post : Int32 → Hp → Prop} (h : vX8_forget  σ post) : CT G mX8_forget [.ref (G.1 0)] σ (LI post) := by
  refine CT.of (by decide +kernel) (Nat.le_of_ble_eq_true rfl) ?_
  show WP G mX8_forget 0 [(0, .ref (G.1 0))] [] σ (LI post)
  unfold vX8_forget at h
  refine wr_aload_n (pc := 0) (dget kX8_forget 0 rfl) 0 rfl ?_
  refine wr_getRl (pc := 1) fl_X8_56 kd_0 fk_8_7 rt_0_7 (dget kX8_forget 1 rfl) ?_
  refine wr_getI (pc := 4) (σ := σ) fl_X8_212 kd_47 fk_3_3 (dget kX8_forget 2 rfl) ?_
  refine wr_topi (fun x1_1 e_x1_1 => ?_)
  have h := h x1_1 e_x1_1
  refine wr_istore_n (pc := 7) (lv' := [(1, .int x1_1), (0, .ref (G.1 0))]) (dget kX8_forget 3 rfl) (by decide) rfl ?_
  refine wr_aload_n (pc := 8) (dget kX8_forget 4 rfl) 1 rfl ?_
  refine wr_getRl (pc := 9) fl_X8_56 kd_0 fk_8_7 rt_0_7 (dget kX8_forget 5 rfl) ?_
  refine wr_iconst (pc := 12) (dget kX8_forget 6 rfl) ic_0 ?_
  refine wr_putI (pc := 13) fl_X8_212 kd_47 fk_3_3 (vp_nar_int _) rfl (dget kX8_forget 7 rfl) ?_
  refine wr_tops (fun σ_2 e_σ_2 => ?_)
  have h := h σ_2 e_σ_2
  refine wr_iload_n (pc := 16) (dget kX8_forget 8 rfl) 0 rfl ?_
  exact wr_iret (pc := 17) rfl (dget kX8_forget 9 rfl) ⟨_, rfl, h⟩
def vX8_bitIfSeen (p1 : Int32) (σ : Hp) (post : Int32 → Hp → Prop) : Prop := (vX3_fits 41 (σ.1 2 5) σ (fun r_2 σ_1 => ((r_2 = 0 → post (0 : Int32) σ_1) ∧ (¬ r_2 = 0 → post ((1 : Int32) <<< (p1 &&& 31)) σ_1))))
set_option maxHeartbeats 4000000 in
set_option maxRecDepth 100000 in
theorem tX8_bitIfSeen {G : GT} {p1 : Int32} {σ : Hp} {post : Int32 → Hp → Prop} (h : vX8_bitIfSeen p1 σ post) : CT G mX8_bitIfSeen [.ref (G.1 0), .int p1] σ (LI post) := by
  refine CT.of (by decide +kernel) (Nat.le_of_ble_eq_true rfl) ?_
  show WP G mX8_bitIfSeen 0 [(0, .ref (G.1 0)), (1, .int p1)] [] σ (LI post)
  unfold vX8_bitIfSeen at h
  refine wr_aload_n (pc := 0) (dget kX8_bitIfSeen 0 rfl) 0 rfl ?_
  refine wr_getRl (pc := 1) fl_X8_56 kd_0 fk_8_7 rt_0_7 (dget kX8_bitIfSeen 1 rfl) ?_
  refine wr_aload_n (pc := 4) (dget kX8_bitIfSeen 2 rfl) 0 rfl ?_
  refine wr_getRl (pc := 5) fl_X8_50 kd_0 fk_8_6 rt_0_6 (dget kX8_bitIfSeen 3 rfl) ?_
  refine wr_getRl (pc := 8) fl_X8_165 kd_35 fk_2_6 rt_35_6 (dget kX8_bitIfSeen 4 rfl) ?_
  refine wr_aload_n (pc := 11) (dget kX8_bitIfSeen 5 rfl) 0 rfl ?_
  refine wr_getRl (pc := 12) fl_X8_18 kd_0 fk_8_1 rt_0_1 (dget kX8_bitIfSeen 6 rfl) ?_
  refine wr_getI (pc := 15) (σ := σ) fl_X8_282 kd_2 fk_6_5 (dget kX8_bitIfSeen 7 rfl) ?_
  refine wr_callVi (pc := 18) (Mc := mX3_fits) (o := 47) (rest := []) cf_X8_378 cv_X3_fits kd_47 rfl ⟨Nat.le_of_ble_eq_true rfl, Nat.le_of_ble_eq_true rfl⟩ rfl rfl (Nat.le_of_ble_eq_true rfl) (dget kX8_bitIfSeen 8 rfl) (tX3_fits h) (fun r_2 σ_1 h => ?_)
  refine wr_if_eq (pc := 21) (tgt := 30) (dget kX8_bitIfSeen 9 rfl) (by decide) (fun c_3 => ?_) (fun c_3 => ?_)
  · have h := h.1 c_3
    refine wr_iconst (pc := 30) (dget kX8_bitIfSeen 14 rfl) ic_0 ?_
    exact wr_iret (pc := 31) rfl (dget kX8_bitIfSeen 15 rfl) ⟨_, rfl, h⟩
  · have h := h.2 c_3
    refine wr_iconst (pc := 24) (dget kX8_bitIfSeen 10 rfl) ic_1 ?_
    refine wr_iload_n (pc := 25) (dget kX8_bitIfSeen 11 rfl) 1 rfl ?_
    refine wr_ishl (pc := 26) (dget kX8_bitIfSeen 12 rfl) ?_
    refine wr_goto (pc := 27) (tgt := 31) (dget kX8_bitIfSeen 13 rfl) (by decide) ?_
    exact wr_iret (pc := 31) rfl (dget kX8_bitIfSeen 15 rfl) ⟨_, rfl, h⟩
def vX8_eventsThatNeverWere_4 (post : Int32 → Hp → Prop) (ex : Int32 → Hp → Prop) : Nat → Int32 → Int32 → Hp → Prop
  | 0 => fun _ _ _ => False
  | n + 1 => fun x1 x2 σ => (((σ.1 10 4) ≤ x2 → (ex x1 σ)) ∧ (¬ (σ.1 10 4) ≤ x2 → (vX1_all  σ (fun r_3 σ_2 => (vX8_tryEvents (r_3 &&& (((1 : Int32) <<< (x2 &&& 31)) ^^^ (-1 : Int32))) σ_2 (fun σ_4 => (vX8_bitIfSeen x2 σ_4 (fun r_7 σ_6 => (∀ x1_8 : Int32, x1_8 = (x1 ||| r_7) → (∀ x2_9 : Int32, x2_9 = x2 + (1 : Int32) → vX8_eventsThatNeverWere_4 post ex  n x1_8 x2_9 σ_6))))))))))
set_option maxHeartbeats 4000000 in
set_option maxRecDepth 100000 in
theorem tX8_eventsThatNeverWere_4 {G : GT} {post : Int32 → Hp → Prop} {ex : Int32 → Hp → Prop} (hex : ∀ (z1 : Int32) (τ : Hp), ex z1 τ → WP G mX8_eventsThatNeverWere 46 [(1, .int z1)] [] τ (LI post)) : ∀ (n : Nat) (x1 : Int32) (x2 : Int32) (σ : Hp), vX8_eventsThatNeverWere_4 post ex  n x1 x2 σ → WP G mX8_eventsThatNeverWere 4 [(0, .ref (G.1 0)), (1, .int x1), (2, .int x2)] [] σ (LI post) := by
  intro n
  induction n with
  | zero => intro x1 x2 σ h; exact False.elim h
  | succ n ih =>
    intro x1 x2 σ h
    simp only [vX8_eventsThatNeverWere_4] at h
    refine wr_iload_n (pc := 4) (dget kX8_eventsThatNeverWere 4 rfl) 2 rfl ?_
    refine wr_aload_n (pc := 5) (dget kX8_eventsThatNeverWere 5 rfl) 0 rfl ?_
    refine wr_getRl (pc := 6) fl_X8_25 kd_0 fk_8_2 rt_0_2 (dget kX8_eventsThatNeverWere 6 rfl) ?_
    refine wr_getI (pc := 9) (σ := σ) fl_X8_141 kd_10 fk_1_4 (dget kX8_eventsThatNeverWere 7 rfl) ?_
    refine wr_icmp_ge (pc := 12) (tgt := 46) (dget kX8_eventsThatNeverWere 8 rfl) (by decide) (fun c_1 => ?_) (fun c_1 => ?_)
    · have h := h.1 c_1
      refine wr_sub [1] rfl ?_
      exact hex _ _ h
    · have h := h.2 c_1
      refine wr_aload_n (pc := 15) (dget kX8_eventsThatNeverWere 9 rfl) 0 rfl ?_
      refine wr_aload_n (pc := 16) (dget kX8_eventsThatNeverWere 10 rfl) 0 rfl ?_
      refine wr_getRl (pc := 17) fl_X8_25 kd_0 fk_8_2 rt_0_2 (dget kX8_eventsThatNeverWere 11 rfl) ?_
      refine wr_callVi (pc := 20) (Mc := mX1_all) (o := 10) (rest := [.ref (G.1 0)]) cf_X8_321 cv_X1_all kd_10 rfl ⟨Nat.le_of_ble_eq_true rfl, Nat.le_of_ble_eq_true rfl⟩ rfl rfl (Nat.le_of_ble_eq_true rfl) (dget kX8_eventsThatNeverWere 12 rfl) (tX1_all h) (fun r_3 σ_2 h => ?_)
      refine wr_iconst (pc := 23) (dget kX8_eventsThatNeverWere 13 rfl) ic_1 ?_
      refine wr_iload_n (pc := 24) (dget kX8_eventsThatNeverWere 14 rfl) 2 rfl ?_
      refine wr_ishl (pc := 25) (dget kX8_eventsThatNeverWere 15 rfl) ?_
      refine wr_iconst (pc := 26) (dget kX8_eventsThatNeverWere 16 rfl) ic_m1 ?_
      refine wr_ixor (pc := 27) (dget kX8_eventsThatNeverWere 17 rfl) ?_
      refine wr_iand (pc := 28) (dget kX8_eventsThatNeverWere 18 rfl) ?_
      refine wr_callVv (pc := 29) (Mc := mX8_tryEvents) (o := 0) (rest := []) cf_X8_369 cv_X8_tryEvents kd_0 rfl ⟨Nat.le_of_ble_eq_true rfl, Nat.le_of_ble_eq_true rfl⟩ rfl rfl (Nat.le_of_ble_eq_true rfl) (dget kX8_eventsThatNeverWere 19 rfl) (tX8_tryEvents h) (fun σ_4 h => ?_)
      refine wr_iload_n (pc := 32) (dget kX8_eventsThatNeverWere 20 rfl) 1 rfl ?_
      refine wr_aload_n (pc := 33) (dget kX8_eventsThatNeverWere 21 rfl) 0 rfl ?_
      refine wr_iload_n (pc := 34) (dget kX8_eventsThatNeverWere 22 rfl) 2 rfl ?_
      refine wr_callVi (pc := 35) (Mc := mX8_bitIfSeen) (o := 0) (rest := [.int x1]) cf_X8_382 cv_X8_bitIfSeen kd_0 rfl ⟨Nat.le_of_ble_eq_true rfl, Nat.le_of_ble_eq_true rfl⟩ rfl rfl (Nat.le_of_ble_eq_true rfl) (dget kX8_eventsThatNeverWere 23 rfl) (tX8_bitIfSeen h) (fun r_7 σ_6 h => ?_)
      refine wr_ior (pc := 38) (dget kX8_eventsThatNeverWere 24 rfl) ?_
      refine wr_topi (fun x1_8 e_x1_8 => ?_)
      have h := h x1_8 e_x1_8
      refine wr_istore_n (pc := 39) (lv' := [(1, .int x1_8), (0, .ref (G.1 0)), (2, .int x2)]) (dget kX8_eventsThatNeverWere 25 rfl) (by decide) rfl ?_
      obtain ⟨x2_9, e_x2_9⟩ : ∃ y : Int32, y = x2 + (1 : Int32) := ⟨_, rfl⟩
      have h := h x2_9 e_x2_9
      refine wr_iinc (pc := 40) (v := x2_9) (lv' := [(2, .int x2_9), (1, .int x1_8), (0, .ref (G.1 0))]) (dget kX8_eventsThatNeverWere 26 rfl) 2 rfl (by rw [e_x2_9, ic_1]) (by decide) rfl ?_
      refine wr_goto (pc := 43) (tgt := 4) (dget kX8_eventsThatNeverWere 27 rfl) (by decide) ?_
      refine wr_sub [2, 1, 0] rfl ?_
      exact ih _ _ _ h
def vX8_eventsThatNeverWere (σ : Hp) (post : Int32 → Hp → Prop) : Prop := (∃ fu : Nat, vX8_eventsThatNeverWere_4 post (fun z1_1 σ_2 => post z1_1 σ_2)  fu (0 : Int32) (0 : Int32) σ)
set_option maxHeartbeats 4000000 in
set_option maxRecDepth 100000 in
theorem tX8_eventsThatNeverWere {G : GT} {σ : Hp} {post : Int32 → Hp → Prop} (h : vX8_eventsThatNeverWere  σ post) : CT G mX8_eventsThatNeverWere [.ref (G.1 0)] σ (LI post) := by
  refine CT.of (by decide +kernel) (Nat.le_of_ble_eq_true rfl) ?_
  show WP G mX8_eventsThatNeverWere 0 [(0, .ref (G.1 0))] [] σ (LI post)
  unfold vX8_eventsThatNeverWere at h
  refine wr_iconst (pc := 0) (dget kX8_eventsThatNeverWere 0 rfl) ic_0 ?_
  refine wr_istore_n (pc := 1) (lv' := [(1, .int (0 : Int32)), (0, .ref (G.1 0))]) (dget kX8_eventsThatNeverWere 1 rfl) (by decide) rfl ?_
  refine wr_iconst (pc := 2) (dget kX8_eventsThatNeverWere 2 rfl) ic_0 ?_
  refine wr_istore_n (pc := 3) (lv' := [(2, .int (0 : Int32)), (1, .int (0 : Int32)), (0, .ref (G.1 0))]) (dget kX8_eventsThatNeverWere 3 rfl) (by decide) rfl ?_
  obtain ⟨fu, h⟩ := h
  refine wr_sub [2, 1, 0] rfl ?_
  refine tX8_eventsThatNeverWere_4 (fun z1_1 σ_2 h => ?_) fu _ _ _ h
  refine wr_iload_n (pc := 46) (dget kX8_eventsThatNeverWere 28 rfl) 0 rfl ?_
  exact wr_iret (pc := 47) rfl (dget kX8_eventsThatNeverWere 29 rfl) ⟨_, rfl, h⟩
def vX8_pullsThatMightBe_17 (post : Int32 → Hp → Prop) (ex : Int32 → Hp → Prop) : Nat → Int32 → Int32 → Int32 → Hp → Prop
  | 0 => fun _ _ _ _ => False
  | n + 1 => fun x1 x2 x3 σ => (((5 : Int32) ≤ x3 → (ex x1 σ)) ∧ (¬ (5 : Int32) ≤ x3 → (∀ σ_2 : Hp, σ_2 = wI σ 35 3 x3 → (vX2_play 35 σ_2 (fun σ_3 => (vX8_bitIfSeen x3 σ_3 (fun r_6 σ_5 => ((r_6 = 0 → (∀ x1_8 : Int32, x1_8 = (x1 ||| r_6) → (∀ x3_9 : Int32, x3_9 = x3 + (1 : Int32) → vX8_pullsThatMightBe_17 post ex  n x1_8 x2 x3_9 σ_5))) ∧ (¬ r_6 = 0 → (¬ (0 : Int32) < 0 ∧ ¬ (x2 * (24 : Int32)) < 0 ∧ ¬ (24 : Int32) < 0 ∧ (0 : Int32).toNatClampNeg + (24 : Int32).toNatClampNeg ≤ (iln 41) ∧ ((x2 * (24 : Int32))).toNatClampNeg + (24 : Int32).toNatClampNeg ≤ (iln 53) ∧ ∀ σ_10 : Hp, σ_10 = wR σ_5 53 (va_cpy (σ_5.1 41) (σ_5.1 53) (0 : Int32).toNatClampNeg ((x2 * (24 : Int32))).toNatClampNeg (24 : Int32).toNatClampNeg) → (∀ x2_16 : Int32, x2_16 = x2 + (1 : Int32) → (∀ x1_17 : Int32, x1_17 = (x1 ||| r_6) → (∀ x3_18 : Int32, x3_18 = x3 + (1 : Int32) → vX8_pullsThatMightBe_17 post ex  n x1_17 x2_16 x3_18 σ_10)))))))))))))
set_option maxHeartbeats 4000000 in
set_option maxRecDepth 100000 in
theorem tX8_pullsThatMightBe_17 {G : GT} {post : Int32 → Hp → Prop} {ex : Int32 → Hp → Prop} (hex : ∀ (z1 : Int32) (τ : Hp), ex z1 τ → WP G mX8_pullsThatMightBe 84 [(1, .int z1)] [] τ (LI post)) : ∀ (n : Nat) (x1 : Int32) (x2 : Int32) (x3 : Int32) (σ : Hp), vX8_pullsThatMightBe_17 post ex  n x1 x2 x3 σ → WP G mX8_pullsThatMightBe 17 [(0, .ref (G.1 0)), (1, .int x1), (2, .int x2), (3, .int x3)] [] σ (LI post) := by
  intro n
  induction n with
  | zero => intro x1 x2 x3 σ h; exact False.elim h
  | succ n ih =>
    intro x1 x2 x3 σ h
    simp only [vX8_pullsThatMightBe_17] at h
    refine wr_iload_n (pc := 17) (dget kX8_pullsThatMightBe 11 rfl) 3 rfl ?_
    refine wr_iconst (pc := 18) (dget kX8_pullsThatMightBe 12 rfl) ic_5 ?_
    refine wr_icmp_ge (pc := 19) (tgt := 84) (dget kX8_pullsThatMightBe 13 rfl) (by decide) (fun c_1 => ?_) (fun c_1 => ?_)
    · have h := h.1 c_1
      refine wr_sub [1] rfl ?_
      exact hex _ _ h
    · have h := h.2 c_1
      refine wr_aload_n (pc := 22) (dget kX8_pullsThatMightBe 14 rfl) 0 rfl ?_
      refine wr_getRl (pc := 23) fl_X8_50 kd_0 fk_8_6 rt_0_6 (dget kX8_pullsThatMightBe 15 rfl) ?_
      refine wr_iload_n (pc := 26) (dget kX8_pullsThatMightBe 16 rfl) 3 rfl ?_
      refine wr_putI (pc := 27) fl_X8_127 kd_35 fk_2_3 (vp_nar_int _) rfl (dget kX8_pullsThatMightBe 17 rfl) ?_
      refine wr_tops (fun σ_2 e_σ_2 => ?_)
      have h := h σ_2 e_σ_2
      refine wr_aload_n (pc := 30) (dget kX8_pullsThatMightBe 18 rfl) 0 rfl ?_
      refine wr_getRl (pc := 31) fl_X8_50 kd_0 fk_8_6 rt_0_6 (dget kX8_pullsThatMightBe 19 rfl) ?_
      refine wr_callVv (pc := 34) (Mc := mX2_play) (o := 35) (rest := []) cf_X8_335 cv_X2_play kd_35 rfl ⟨Nat.le_of_ble_eq_true rfl, Nat.le_of_ble_eq_true rfl⟩ rfl rfl (Nat.le_of_ble_eq_true rfl) (dget kX8_pullsThatMightBe 20 rfl) (tX2_play h) (fun σ_3 h => ?_)
      refine wr_aload_n (pc := 37) (dget kX8_pullsThatMightBe 21 rfl) 0 rfl ?_
      refine wr_iload_n (pc := 38) (dget kX8_pullsThatMightBe 22 rfl) 3 rfl ?_
      refine wr_callVi (pc := 39) (Mc := mX8_bitIfSeen) (o := 0) (rest := []) cf_X8_382 cv_X8_bitIfSeen kd_0 rfl ⟨Nat.le_of_ble_eq_true rfl, Nat.le_of_ble_eq_true rfl⟩ rfl rfl (Nat.le_of_ble_eq_true rfl) (dget kX8_pullsThatMightBe 23 rfl) (tX8_bitIfSeen h) (fun r_6 σ_5 h => ?_)
      refine wr_istore (pc := 42) (lv' := [(4, .int r_6), (0, .ref (G.1 0)), (1, .int x1), (2, .int x2), (3, .int x3)]) (dget kX8_pullsThatMightBe 24 rfl) (by decide) rfl ?_
      refine wr_iload (pc := 44) (dget kX8_pullsThatMightBe 25 rfl) 0 rfl ?_
      refine wr_if_eq (pc := 46) (tgt := 73) (dget kX8_pullsThatMightBe 26 rfl) (by decide) (fun c_7 => ?_) (fun c_7 => ?_)
      · have h := h.1 c_7
        refine wr_iload_n (pc := 73) (dget kX8_pullsThatMightBe 39 rfl) 2 rfl ?_
        refine wr_iload (pc := 74) (dget kX8_pullsThatMightBe 40 rfl) 0 rfl ?_
        refine wr_ior (pc := 76) (dget kX8_pullsThatMightBe 41 rfl) ?_
        refine wr_topi (fun x1_8 e_x1_8 => ?_)
        have h := h x1_8 e_x1_8
        refine wr_istore_n (pc := 77) (lv' := [(1, .int x1_8), (4, .int r_6), (0, .ref (G.1 0)), (2, .int x2), (3, .int x3)]) (dget kX8_pullsThatMightBe 42 rfl) (by decide) rfl ?_
        obtain ⟨x3_9, e_x3_9⟩ : ∃ y : Int32, y = x3 + (1 : Int32) := ⟨_, rfl⟩
        have h := h x3_9 e_x3_9
        refine wr_iinc (pc := 78) (v := x3_9) (lv' := [(3, .int x3_9), (1, .int x1_8), (4, .int r_6), (0, .ref (G.1 0)), (2, .int x2)]) (dget kX8_pullsThatMightBe 43 rfl) 4 rfl (by rw [e_x3_9, ic_1]) (by decide) rfl ?_
        refine wr_goto (pc := 81) (tgt := 17) (dget kX8_pullsThatMightBe 44 rfl) (by decide) ?_
        refine wr_sub [3, 1, 4, 0] rfl ?_
        exact ih _ _ _ _ h
      · have h := h.2 c_7
        refine wr_aload_n (pc := 49) (dget kX8_pullsThatMightBe 27 rfl) 1 rfl ?_
        refine wr_getRl (pc := 50) fl_X8_50 kd_0 fk_8_6 rt_0_6 (dget kX8_pullsThatMightBe 28 rfl) ?_
        refine wr_getRl (pc := 53) fl_X8_165 kd_35 fk_2_6 rt_35_6 (dget kX8_pullsThatMightBe 29 rfl) ?_
        refine wr_iconst (pc := 56) (dget kX8_pullsThatMightBe 30 rfl) ic_0 ?_
        refine wr_aload_n (pc := 57) (dget kX8_pullsThatMightBe 31 rfl) 1 rfl ?_
        refine wr_getRl (pc := 58) fl_X8_70 kd_0 fk_8_12 rt_0_12 (dget kX8_pullsThatMightBe 32 rfl) ?_
        refine wr_iload_n (pc := 61) (dget kX8_pullsThatMightBe 33 rfl) 3 rfl ?_
        refine wr_bipush (pc := 62) (dget kX8_pullsThatMightBe 34 rfl) bp_24 ?_
        refine wr_imul (pc := 64) (dget kX8_pullsThatMightBe 35 rfl) ?_
        refine wr_bipush (pc := 65) (dget kX8_pullsThatMightBe 36 rfl) bp_24 ?_
        obtain ⟨q_11, q_12, q_13, q_14, q_15, h⟩ := h
        refine wr_copy (pc := 67) (σ := σ_5) ml_X8_259 kd_41 kd_53 q_11 q_12 q_13 q_14 q_15 (by decide) (by decide) (dget kX8_pullsThatMightBe 37 rfl) ?_
        refine wr_tops (fun σ_10 e_σ_10 => ?_)
        have h := h σ_10 e_σ_10
        obtain ⟨x2_16, e_x2_16⟩ : ∃ y : Int32, y = x2 + (1 : Int32) := ⟨_, rfl⟩
        have h := h x2_16 e_x2_16
        refine wr_iinc (pc := 70) (v := x2_16) (lv' := [(2, .int x2_16), (4, .int r_6), (0, .ref (G.1 0)), (1, .int x1), (3, .int x3)]) (dget kX8_pullsThatMightBe 38 rfl) 3 rfl (by rw [e_x2_16, ic_1]) (by decide) rfl ?_
        refine wr_iload_n (pc := 73) (dget kX8_pullsThatMightBe 39 rfl) 3 rfl ?_
        refine wr_iload (pc := 74) (dget kX8_pullsThatMightBe 40 rfl) 1 rfl ?_
        refine wr_ior (pc := 76) (dget kX8_pullsThatMightBe 41 rfl) ?_
        refine wr_topi (fun x1_17 e_x1_17 => ?_)
        have h := h x1_17 e_x1_17
        refine wr_istore_n (pc := 77) (lv' := [(1, .int x1_17), (2, .int x2_16), (4, .int r_6), (0, .ref (G.1 0)), (3, .int x3)]) (dget kX8_pullsThatMightBe 42 rfl) (by decide) rfl ?_
        obtain ⟨x3_18, e_x3_18⟩ : ∃ y : Int32, y = x3 + (1 : Int32) := ⟨_, rfl⟩
        have h := h x3_18 e_x3_18
        refine wr_iinc (pc := 78) (v := x3_18) (lv' := [(3, .int x3_18), (1, .int x1_17), (2, .int x2_16), (4, .int r_6), (0, .ref (G.1 0))]) (dget kX8_pullsThatMightBe 43 rfl) 4 rfl (by rw [e_x3_18, ic_1]) (by decide) rfl ?_
        refine wr_goto (pc := 81) (tgt := 17) (dget kX8_pullsThatMightBe 44 rfl) (by decide) ?_
        refine wr_sub [4, 1, 2, 0] rfl ?_
        exact ih _ _ _ _ h
def vX8_pullsThatMightBe (σ : Hp) (post : Int32 → Hp → Prop) : Prop := (vX2_takeFrom 35 23 σ (fun σ_1 => (∃ fu : Nat, vX8_pullsThatMightBe_17 post (fun z1_3 σ_4 => post z1_3 σ_4)  fu (0 : Int32) (0 : Int32) (0 : Int32) σ_1)))
set_option maxHeartbeats 4000000 in
set_option maxRecDepth 100000 in
theorem tX8_pullsThatMightBe {G : GT} {σ : Hp} {post : Int32 → Hp → Prop} (h : vX8_pullsThatMightBe  σ post) : CT G mX8_pullsThatMightBe [.ref (G.1 0)] σ (LI post) := by
  refine CT.of (by decide +kernel) (Nat.le_of_ble_eq_true rfl) ?_
  show WP G mX8_pullsThatMightBe 0 [(0, .ref (G.1 0))] [] σ (LI post)
  unfold vX8_pullsThatMightBe at h
  refine wr_aload_n (pc := 0) (dget kX8_pullsThatMightBe 0 rfl) 0 rfl ?_
  refine wr_getRl (pc := 1) fl_X8_50 kd_0 fk_8_6 rt_0_6 (dget kX8_pullsThatMightBe 1 rfl) ?_
  refine wr_aload_n (pc := 4) (dget kX8_pullsThatMightBe 2 rfl) 0 rfl ?_
  refine wr_getRl (pc := 5) fl_X8_46 kd_0 fk_8_5 rt_0_5 (dget kX8_pullsThatMightBe 3 rfl) ?_
  refine wr_callVv (pc := 8) (Mc := mX2_takeFrom) (o := 35) (rest := []) cf_X8_356 cv_X2_takeFrom kd_35 rfl ⟨Nat.le_of_ble_eq_true rfl, Nat.le_of_ble_eq_true rfl⟩ rfl rfl (Nat.le_of_ble_eq_true rfl) (dget kX8_pullsThatMightBe 4 rfl) (tX2_takeFrom h) (fun σ_1 h => ?_)
  refine wr_iconst (pc := 11) (dget kX8_pullsThatMightBe 5 rfl) ic_0 ?_
  refine wr_istore_n (pc := 12) (lv' := [(1, .int (0 : Int32)), (0, .ref (G.1 0))]) (dget kX8_pullsThatMightBe 6 rfl) (by decide) rfl ?_
  refine wr_iconst (pc := 13) (dget kX8_pullsThatMightBe 7 rfl) ic_0 ?_
  refine wr_istore_n (pc := 14) (lv' := [(2, .int (0 : Int32)), (1, .int (0 : Int32)), (0, .ref (G.1 0))]) (dget kX8_pullsThatMightBe 8 rfl) (by decide) rfl ?_
  refine wr_iconst (pc := 15) (dget kX8_pullsThatMightBe 9 rfl) ic_0 ?_
  refine wr_istore_n (pc := 16) (lv' := [(3, .int (0 : Int32)), (2, .int (0 : Int32)), (1, .int (0 : Int32)), (0, .ref (G.1 0))]) (dget kX8_pullsThatMightBe 10 rfl) (by decide) rfl ?_
  obtain ⟨fu, h⟩ := h
  refine wr_sub [3, 2, 1, 0] rfl ?_
  refine tX8_pullsThatMightBe_17 (fun z1_3 σ_4 h => ?_) fu _ _ _ _ h
  refine wr_iload_n (pc := 84) (dget kX8_pullsThatMightBe 45 rfl) 0 rfl ?_
  exact wr_iret (pc := 85) rfl (dget kX8_pullsThatMightBe 46 rfl) ⟨_, rfl, h⟩
def vX8_might (p1 : Int32) (σ : Hp) (post : Int32 → Hp → Prop) : Prop := (vX8_within p1 (2 : Int32) σ (fun r_2 σ_1 => ((r_2 = 0 → post (-2 : Int32) σ_1) ∧ (¬ r_2 = 0 → (vX8_settle  σ_1 (fun σ_4 => ((p1 = 0 → (vX8_eventsThatNeverWere  σ_4 (fun r_10 σ_9 => post r_10 σ_9))) ∧ (¬ p1 = 0 → (vX8_pullsThatMightBe  σ_4 (fun r_8 σ_7 => post r_8 σ_7))))))))))
set_option maxHeartbeats 4000000 in
set_option maxRecDepth 100000 in
theorem tX8_might {G : GT} {p1 : Int32} {σ : Hp} {post : Int32 → Hp → Prop} (h : vX8_might p1 σ post) : CT G mX8_might [.ref (G.1 0), .int p1] σ (LI post) := by
  refine CT.of (by decide +kernel) (Nat.le_of_ble_eq_true rfl) ?_
  show WP G mX8_might 0 [(0, .ref (G.1 0)), (1, .int p1)] [] σ (LI post)
  unfold vX8_might at h
  refine wr_iload_n (pc := 0) (dget kX8_might 0 rfl) 1 rfl ?_
  refine wr_iconst (pc := 1) (dget kX8_might 1 rfl) ic_2 ?_
  refine wr_callSi (pc := 2) (Mc := mX8_within) (rest := []) cf_X8_77 cs_X8_within ⟨Nat.le_of_ble_eq_true rfl, Nat.le_of_ble_eq_true rfl⟩ rfl rfl (Nat.le_of_ble_eq_true rfl) (dget kX8_might 2 rfl) (tX8_within h) (fun r_2 σ_1 h => ?_)
  refine wr_if_ne (pc := 5) (tgt := 11) (dget kX8_might 3 rfl) (by decide) (fun c_3 => ?_) (fun c_3 => ?_)
  · have h := h.2 c_3
    refine wr_aload_n (pc := 11) (dget kX8_might 6 rfl) 0 rfl ?_
    refine wr_callVv (pc := 12) (Mc := mX8_settle) (o := 0) (rest := []) cf_X8_97 cv_X8_settle kd_0 rfl ⟨Nat.le_of_ble_eq_true rfl, Nat.le_of_ble_eq_true rfl⟩ rfl rfl (Nat.le_of_ble_eq_true rfl) (dget kX8_might 7 rfl) (tX8_settle h) (fun σ_4 h => ?_)
    refine wr_iload_n (pc := 15) (dget kX8_might 8 rfl) 1 rfl ?_
    refine wr_if_ne (pc := 16) (tgt := 26) (dget kX8_might 9 rfl) (by decide) (fun c_6 => ?_) (fun c_6 => ?_)
    · have h := h.2 c_6
      refine wr_aload_n (pc := 26) (dget kX8_might 13 rfl) 0 rfl ?_
      refine wr_callVi (pc := 27) (Mc := mX8_pullsThatMightBe) (o := 0) (rest := []) cf_X8_216 cv_X8_pullsThatMightBe kd_0 rfl ⟨Nat.le_of_ble_eq_true rfl, Nat.le_of_ble_eq_true rfl⟩ rfl rfl (Nat.le_of_ble_eq_true rfl) (dget kX8_might 14 rfl) (tX8_pullsThatMightBe h) (fun r_8 σ_7 h => ?_)
      exact wr_iret (pc := 30) rfl (dget kX8_might 15 rfl) ⟨_, rfl, h⟩
    · have h := h.1 c_6
      refine wr_aload_n (pc := 19) (dget kX8_might 10 rfl) 0 rfl ?_
      refine wr_callVi (pc := 20) (Mc := mX8_eventsThatNeverWere) (o := 0) (rest := []) cf_X8_213 cv_X8_eventsThatNeverWere kd_0 rfl ⟨Nat.le_of_ble_eq_true rfl, Nat.le_of_ble_eq_true rfl⟩ rfl rfl (Nat.le_of_ble_eq_true rfl) (dget kX8_might 11 rfl) (tX8_eventsThatNeverWere h) (fun r_10 σ_9 h => ?_)
      refine wr_goto (pc := 23) (tgt := 30) (dget kX8_might 12 rfl) (by decide) ?_
      exact wr_iret (pc := 30) rfl (dget kX8_might 15 rfl) ⟨_, rfl, h⟩
  · have h := h.1 c_3
    refine wr_bipush (pc := 8) (dget kX8_might 4 rfl) bp_m2 ?_
    exact wr_iret (pc := 10) rfl (dget kX8_might 5 rfl) ⟨_, rfl, h⟩
def vX8_kindsThatMightBe_15 (post : Int32 → Hp → Prop) (ex : Int32 → Hp → Prop) (x1 : Int32) : Nat → Int32 → Int32 → Hp → Prop
  | 0 => fun _ _ _ => False
  | n + 1 => fun x2 x3 σ => (((3 : Int32) ≤ x3 → (ex x2 σ)) ∧ (¬ (3 : Int32) ≤ x3 → (vp_in x1 12 ∧ ∀ σ_3 : Hp, σ_3 = wI σ 40 x1.toNatClampNeg x3 → (vX2_play 35 σ_3 (fun σ_4 => (vX8_bitIfSeen x3 σ_4 (fun r_7 σ_6 => (∀ x2_8 : Int32, x2_8 = (x2 ||| r_7) → (∀ x3_9 : Int32, x3_9 = x3 + (1 : Int32) → vX8_kindsThatMightBe_15 post ex x1 n x2_8 x3_9 σ_6)))))))))
set_option maxHeartbeats 4000000 in
set_option maxRecDepth 100000 in
theorem tX8_kindsThatMightBe_15 {G : GT} {post : Int32 → Hp → Prop} {ex : Int32 → Hp → Prop} {x1 : Int32} (hex : ∀ (z2 : Int32) (τ : Hp), ex z2 τ → WP G mX8_kindsThatMightBe 51 [(2, .int z2)] [] τ (LI post)) : ∀ (n : Nat) (x2 : Int32) (x3 : Int32) (σ : Hp), vX8_kindsThatMightBe_15 post ex x1 n x2 x3 σ → WP G mX8_kindsThatMightBe 15 [(0, .ref (G.1 0)), (1, .int x1), (2, .int x2), (3, .int x3)] [] σ (LI post) := by
  intro n
  induction n with
  | zero => intro x2 x3 σ h; exact False.elim h
  | succ n ih =>
    intro x2 x3 σ h
    simp only [vX8_kindsThatMightBe_15] at h
    refine wr_iload_n (pc := 15) (dget kX8_kindsThatMightBe 9 rfl) 3 rfl ?_
    refine wr_iconst (pc := 16) (dget kX8_kindsThatMightBe 10 rfl) ic_3 ?_
    refine wr_icmp_ge (pc := 17) (tgt := 51) (dget kX8_kindsThatMightBe 11 rfl) (by decide) (fun c_1 => ?_) (fun c_1 => ?_)
    · have h := h.1 c_1
      refine wr_sub [2] rfl ?_
      exact hex _ _ h
    · have h := h.2 c_1
      refine wr_aload_n (pc := 20) (dget kX8_kindsThatMightBe 12 rfl) 0 rfl ?_
      refine wr_getRl (pc := 21) fl_X8_50 kd_0 fk_8_6 rt_0_6 (dget kX8_kindsThatMightBe 13 rfl) ?_
      refine wr_getRl (pc := 24) fl_X8_334 kd_35 fk_2_2 rt_35_2 (dget kX8_kindsThatMightBe 14 rfl) ?_
      refine wr_iload_n (pc := 27) (dget kX8_kindsThatMightBe 15 rfl) 1 rfl ?_
      refine wr_iload_n (pc := 28) (dget kX8_kindsThatMightBe 16 rfl) 3 rfl ?_
      obtain ⟨q_2, h⟩ := h
      refine wr_iastl (pc := 29) il_40 q_2 (dget kX8_kindsThatMightBe 17 rfl) ?_
      refine wr_tops (fun σ_3 e_σ_3 => ?_)
      have h := h σ_3 e_σ_3
      refine wr_aload_n (pc := 30) (dget kX8_kindsThatMightBe 18 rfl) 0 rfl ?_
      refine wr_getRl (pc := 31) fl_X8_50 kd_0 fk_8_6 rt_0_6 (dget kX8_kindsThatMightBe 19 rfl) ?_
      refine wr_callVv (pc := 34) (Mc := mX2_play) (o := 35) (rest := []) cf_X8_335 cv_X2_play kd_35 rfl ⟨Nat.le_of_ble_eq_true rfl, Nat.le_of_ble_eq_true rfl⟩ rfl rfl (Nat.le_of_ble_eq_true rfl) (dget kX8_kindsThatMightBe 20 rfl) (tX2_play h) (fun σ_4 h => ?_)
      refine wr_iload_n (pc := 37) (dget kX8_kindsThatMightBe 21 rfl) 2 rfl ?_
      refine wr_aload_n (pc := 38) (dget kX8_kindsThatMightBe 22 rfl) 0 rfl ?_
      refine wr_iload_n (pc := 39) (dget kX8_kindsThatMightBe 23 rfl) 3 rfl ?_
      refine wr_callVi (pc := 40) (Mc := mX8_bitIfSeen) (o := 0) (rest := [.int x2]) cf_X8_382 cv_X8_bitIfSeen kd_0 rfl ⟨Nat.le_of_ble_eq_true rfl, Nat.le_of_ble_eq_true rfl⟩ rfl rfl (Nat.le_of_ble_eq_true rfl) (dget kX8_kindsThatMightBe 24 rfl) (tX8_bitIfSeen h) (fun r_7 σ_6 h => ?_)
      refine wr_ior (pc := 43) (dget kX8_kindsThatMightBe 25 rfl) ?_
      refine wr_topi (fun x2_8 e_x2_8 => ?_)
      have h := h x2_8 e_x2_8
      refine wr_istore_n (pc := 44) (lv' := [(2, .int x2_8), (0, .ref (G.1 0)), (1, .int x1), (3, .int x3)]) (dget kX8_kindsThatMightBe 26 rfl) (by decide) rfl ?_
      obtain ⟨x3_9, e_x3_9⟩ : ∃ y : Int32, y = x3 + (1 : Int32) := ⟨_, rfl⟩
      have h := h x3_9 e_x3_9
      refine wr_iinc (pc := 45) (v := x3_9) (lv' := [(3, .int x3_9), (2, .int x2_8), (0, .ref (G.1 0)), (1, .int x1)]) (dget kX8_kindsThatMightBe 27 rfl) 3 rfl (by rw [e_x3_9, ic_1]) (by decide) rfl ?_
      refine wr_goto (pc := 48) (tgt := 15) (dget kX8_kindsThatMightBe 28 rfl) (by decide) ?_
      refine wr_sub [2, 3, 1, 0] rfl ?_
      exact ih _ _ _ h
def vX8_kindsThatMightBe (p1 : Int32) (σ : Hp) (post : Int32 → Hp → Prop) : Prop := (vX2_takeFrom 35 23 σ (fun σ_1 => (∃ fu : Nat, vX8_kindsThatMightBe_15 post (fun z2_3 σ_4 => post z2_3 σ_4) p1 fu (0 : Int32) (0 : Int32) σ_1)))
set_option maxHeartbeats 4000000 in
set_option maxRecDepth 100000 in
theorem tX8_kindsThatMightBe {G : GT} {p1 : Int32} {σ : Hp} {post : Int32 → Hp → Prop} (h : vX8_kindsThatMightBe p1 σ post) : CT G mX8_kindsThatMightBe [.ref (G.1 0), .int p1] σ (LI post) := by
  refine CT.of (by decide +kernel) (Nat.le_of_ble_eq_true rfl) ?_
  show WP G mX8_kindsThatMightBe 0 [(0, .ref (G.1 0)), (1, .int p1)] [] σ (LI post)
  unfold vX8_kindsThatMightBe at h
  refine wr_aload_n (pc := 0) (dget kX8_kindsThatMightBe 0 rfl) 0 rfl ?_
  refine wr_getRl (pc := 1) fl_X8_50 kd_0 fk_8_6 rt_0_6 (dget kX8_kindsThatMightBe 1 rfl) ?_
  refine wr_aload_n (pc := 4) (dget kX8_kindsThatMightBe 2 rfl) 0 rfl ?_
  refine wr_getRl (pc := 5) fl_X8_46 kd_0 fk_8_5 rt_0_5 (dget kX8_kindsThatMightBe 3 rfl) ?_
  refine wr_callVv (pc := 8) (Mc := mX2_takeFrom) (o := 35) (rest := []) cf_X8_356 cv_X2_takeFrom kd_35 rfl ⟨Nat.le_of_ble_eq_true rfl, Nat.le_of_ble_eq_true rfl⟩ rfl rfl (Nat.le_of_ble_eq_true rfl) (dget kX8_kindsThatMightBe 4 rfl) (tX2_takeFrom h) (fun σ_1 h => ?_)
  refine wr_iconst (pc := 11) (dget kX8_kindsThatMightBe 5 rfl) ic_0 ?_
  refine wr_istore_n (pc := 12) (lv' := [(2, .int (0 : Int32)), (0, .ref (G.1 0)), (1, .int p1)]) (dget kX8_kindsThatMightBe 6 rfl) (by decide) rfl ?_
  refine wr_iconst (pc := 13) (dget kX8_kindsThatMightBe 7 rfl) ic_0 ?_
  refine wr_istore_n (pc := 14) (lv' := [(3, .int (0 : Int32)), (2, .int (0 : Int32)), (0, .ref (G.1 0)), (1, .int p1)]) (dget kX8_kindsThatMightBe 8 rfl) (by decide) rfl ?_
  obtain ⟨fu, h⟩ := h
  refine wr_sub [2, 3, 1, 0] rfl ?_
  refine tX8_kindsThatMightBe_15 (fun z2_3 σ_4 h => ?_) fu _ _ _ h
  refine wr_iload_n (pc := 51) (dget kX8_kindsThatMightBe 29 rfl) 0 rfl ?_
  exact wr_iret (pc := 52) rfl (dget kX8_kindsThatMightBe 30 rfl) ⟨_, rfl, h⟩
def vX8_kind (p1 : Int32) (σ : Hp) (post : Int32 → Hp → Prop) : Prop := (vX8_settle  σ (fun σ_1 => (vX8_isDuck p1 σ_1 (fun r_4 σ_3 => ((r_4 = 0 → post (-2 : Int32) σ_3) ∧ (¬ r_4 = 0 → (vX8_kindsThatMightBe p1 σ_3 (fun r_7 σ_6 => post r_7 σ_6))))))))
set_option maxHeartbeats 4000000 in
set_option maxRecDepth 100000 in
theorem tX8_kind {G : GT} {p1 : Int32} {σ : Hp} {post : Int32 → Hp → Prop} (h : vX8_kind p1 σ post) : CT G mX8_kind [.ref (G.1 0), .int p1] σ (LI post) := by
  refine CT.of (by decide +kernel) (Nat.le_of_ble_eq_true rfl) ?_
  show WP G mX8_kind 0 [(0, .ref (G.1 0)), (1, .int p1)] [] σ (LI post)
  unfold vX8_kind at h
  refine wr_aload_n (pc := 0) (dget kX8_kind 0 rfl) 0 rfl ?_
  refine wr_callVv (pc := 1) (Mc := mX8_settle) (o := 0) (rest := []) cf_X8_97 cv_X8_settle kd_0 rfl ⟨Nat.le_of_ble_eq_true rfl, Nat.le_of_ble_eq_true rfl⟩ rfl rfl (Nat.le_of_ble_eq_true rfl) (dget kX8_kind 1 rfl) (tX8_settle h) (fun σ_1 h => ?_)
  refine wr_aload_n (pc := 4) (dget kX8_kind 2 rfl) 0 rfl ?_
  refine wr_iload_n (pc := 5) (dget kX8_kind 3 rfl) 1 rfl ?_
  refine wr_callVi (pc := 6) (Mc := mX8_isDuck) (o := 0) (rest := []) cf_X8_107 cv_X8_isDuck kd_0 rfl ⟨Nat.le_of_ble_eq_true rfl, Nat.le_of_ble_eq_true rfl⟩ rfl rfl (Nat.le_of_ble_eq_true rfl) (dget kX8_kind 4 rfl) (tX8_isDuck h) (fun r_4 σ_3 h => ?_)
  refine wr_if_ne (pc := 9) (tgt := 15) (dget kX8_kind 5 rfl) (by decide) (fun c_5 => ?_) (fun c_5 => ?_)
  · have h := h.2 c_5
    refine wr_aload_n (pc := 15) (dget kX8_kind 8 rfl) 0 rfl ?_
    refine wr_iload_n (pc := 16) (dget kX8_kind 9 rfl) 1 rfl ?_
    refine wr_callVi (pc := 17) (Mc := mX8_kindsThatMightBe) (o := 0) (rest := []) cf_X8_219 cv_X8_kindsThatMightBe kd_0 rfl ⟨Nat.le_of_ble_eq_true rfl, Nat.le_of_ble_eq_true rfl⟩ rfl rfl (Nat.le_of_ble_eq_true rfl) (dget kX8_kind 10 rfl) (tX8_kindsThatMightBe h) (fun r_7 σ_6 h => ?_)
    exact wr_iret (pc := 20) rfl (dget kX8_kind 11 rfl) ⟨_, rfl, h⟩
  · have h := h.1 c_5
    refine wr_bipush (pc := 12) (dget kX8_kind 6 rfl) bp_m2 ?_
    exact wr_iret (pc := 14) rfl (dget kX8_kind 7 rfl) ⟨_, rfl, h⟩
