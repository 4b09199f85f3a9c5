def vX8_greatestLikeGroup_17 (post : Int32 → Hp → Prop) (ex : Int32 → Hp → Prop) (x1 : Int32) (x2 : Int32) (x3 : Int32) (x4 : Int32) : Nat → Int32 → Int32 → Hp → Prop
  | 0 => fun _ _ _ => False
  | n + 1 => fun x5 x6 σ => ((x2 ≤ x6 → (ex x5 σ)) ∧ (¬ x2 ≤ x6 → (vp_in ((x4 * (24 : Int32)) + x1) 120 ∧ (vp_in ((x6 * (24 : Int32)) + x1) 120 ∧ (((σ.1 53 (((x4 * (24 : Int32)) + x1)).toNatClampNeg) = (σ.1 53 (((x6 * (24 : Int32)) + x1)).toNatClampNeg) → (∀ x5_6 : Int32, x5_6 = x5 + (1 : Int32) → (∀ x6_7 : Int32, x6_7 = x6 + (1 : Int32) → vX8_greatestLikeGroup_17 post ex x1 x2 x3 x4 n x5_6 x6_7 σ))) ∧ (¬ (σ.1 53 (((x4 * (24 : Int32)) + x1)).toNatClampNeg) = (σ.1 53 (((x6 * (24 : Int32)) + x1)).toNatClampNeg) → (∀ x6_5 : Int32, x6_5 = x6 + (1 : Int32) → vX8_greatestLikeGroup_17 post ex x1 x2 x3 x4 n x5 x6_5 σ)))))))
set_option maxHeartbeats 4000000 in
set_option maxRecDepth 100000 in
theorem tX8_greatestLikeGroup_17 {G : GT} {post : Int32 → Hp → Prop} {ex : Int32 → Hp → Prop} {x1 : Int32} {x2 : Int32} {x3 : Int32} {x4 : Int32} (hex : ∀ (z5 : Int32) (τ : Hp), ex z5 τ → WP G mX8_greatestLikeGroup 59 [(0, .ref (G.1 0)), (1, .int x1), (2, .int x2), (3, .int x3), (4, .int x4), (5, .int z5)] [] τ (LI post)) : ∀ (n : Nat) (x5 : Int32) (x6 : Int32) (σ : Hp), vX8_greatestLikeGroup_17 post ex x1 x2 x3 x4 n x5 x6 σ → WP G mX8_greatestLikeGroup 17 [(0, .ref (G.1 0)), (1, .int x1), (2, .int x2), (3, .int x3), (4, .int x4), (5, .int x5), (6, .int x6)] [] σ (LI post) := by
  intro n
  induction n with
  | zero => intro x5 x6 σ h; exact False.elim h
  | succ n ih =>
    intro x5 x6 σ h
    simp only [vX8_greatestLikeGroup_17] at h
    refine wr_iload (pc := 17) (dget kX8_greatestLikeGroup 11 rfl) 6 rfl ?_
    refine wr_iload_n (pc := 19) (dget kX8_greatestLikeGroup 12 rfl) 2 rfl ?_
    refine wr_icmp_ge (pc := 20) (tgt := 59) (dget kX8_greatestLikeGroup 13 rfl) (by decide) (fun c_1 => ?_) (fun c_1 => ?_)
    · have h := h.1 c_1
      refine wr_sub [0, 1, 2, 3, 4, 5] rfl ?_
      exact hex _ _ h
    · have h := h.2 c_1
      refine wr_aload_n (pc := 23) (dget kX8_greatestLikeGroup 14 rfl) 0 rfl ?_
      refine wr_getRl (pc := 24) fl_X8_70 kd_0 fk_8_12 rt_0_12 (dget kX8_greatestLikeGroup 15 rfl) ?_
      refine wr_iload (pc := 27) (dget kX8_greatestLikeGroup 16 rfl) 4 rfl ?_
      refine wr_bipush (pc := 29) (dget kX8_greatestLikeGroup 17 rfl) bp_24 ?_
      refine wr_imul (pc := 31) (dget kX8_greatestLikeGroup 18 rfl) ?_
      refine wr_iload_n (pc := 32) (dget kX8_greatestLikeGroup 19 rfl) 1 rfl ?_
      refine wr_iadd (pc := 33) (dget kX8_greatestLikeGroup 20 rfl) ?_
      obtain ⟨q_2, h⟩ := h
      refine wr_ialdl (pc := 34) (σ := σ) il_53 q_2 (dget kX8_greatestLikeGroup 21 rfl) ?_
      refine wr_aload_n (pc := 35) (dget kX8_greatestLikeGroup 22 rfl) 0 rfl ?_
      refine wr_getRl (pc := 36) fl_X8_70 kd_0 fk_8_12 rt_0_12 (dget kX8_greatestLikeGroup 23 rfl) ?_
      refine wr_iload (pc := 39) (dget kX8_greatestLikeGroup 24 rfl) 6 rfl ?_
      refine wr_bipush (pc := 41) (dget kX8_greatestLikeGroup 25 rfl) bp_24 ?_
      refine wr_imul (pc := 43) (dget kX8_greatestLikeGroup 26 rfl) ?_
      refine wr_iload_n (pc := 44) (dget kX8_greatestLikeGroup 27 rfl) 1 rfl ?_
      refine wr_iadd (pc := 45) (dget kX8_greatestLikeGroup 28 rfl) ?_
      obtain ⟨q_3, h⟩ := h
      refine wr_ialdl (pc := 46) (σ := σ) il_53 q_3 (dget kX8_greatestLikeGroup 29 rfl) ?_
      refine wr_icmp_ne (pc := 47) (tgt := 53) (dget kX8_greatestLikeGroup 30 rfl) (by decide) (fun c_4 => ?_) (fun c_4 => ?_)
      · have h := h.2 c_4
        obtain ⟨x6_5, e_x6_5⟩ : ∃ y : Int32, y = x6 + (1 : Int32) := ⟨_, rfl⟩
        have h := h x6_5 e_x6_5
        refine wr_iinc (pc := 53) (v := x6_5) (lv' := [(6, .int x6_5), (0, .ref (G.1 0)), (1, .int x1), (2, .int x2), (3, .int x3), (4, .int x4), (5, .int x5)]) (dget kX8_greatestLikeGroup 32 rfl) 6 rfl (by rw [e_x6_5, ic_1]) (by decide) rfl ?_
        refine wr_goto (pc := 56) (tgt := 17) (dget kX8_greatestLikeGroup 33 rfl) (by decide) ?_
        refine wr_sub [1, 2, 3, 4, 5, 6, 0] rfl ?_
        exact ih _ _ _ h
      · have h := h.1 c_4
        obtain ⟨x5_6, e_x5_6⟩ : ∃ y : Int32, y = x5 + (1 : Int32) := ⟨_, rfl⟩
        have h := h x5_6 e_x5_6
        refine wr_iinc (pc := 50) (v := x5_6) (lv' := [(5, .int x5_6), (0, .ref (G.1 0)), (1, .int x1), (2, .int x2), (3, .int x3), (4, .int x4), (6, .int x6)]) (dget kX8_greatestLikeGroup 31 rfl) 5 rfl (by rw [e_x5_6, ic_1]) (by decide) rfl ?_
        obtain ⟨x6_7, e_x6_7⟩ : ∃ y : Int32, y = x6 + (1 : Int32) := ⟨_, rfl⟩
        have h := h x6_7 e_x6_7
        refine wr_iinc (pc := 53) (v := x6_7) (lv' := [(6, .int x6_7), (5, .int x5_6), (0, .ref (G.1 0)), (1, .int x1), (2, .int x2), (3, .int x3), (4, .int x4)]) (dget kX8_greatestLikeGroup 32 rfl) 6 rfl (by rw [e_x6_7, ic_1]) (by decide) rfl ?_
        refine wr_goto (pc := 56) (tgt := 17) (dget kX8_greatestLikeGroup 33 rfl) (by decide) ?_
        refine wr_sub [2, 3, 4, 5, 6, 1, 0] rfl ?_
        exact ih _ _ _ h
def vX8_greatestLikeGroup_5 (post : Int32 → Hp → Prop) (ex : Int32 → Hp → Prop) (x1 : Int32) (x2 : Int32) : Nat → Int32 → Int32 → Hp → Prop
  | 0 => fun _ _ _ => False
  | n + 1 => fun x3 x4 σ => ((x2 ≤ x4 → (ex x3 σ)) ∧ (¬ x2 ≤ x4 → (∃ fu : Nat, vX8_greatestLikeGroup_17 post (fun z5_2 σ_3 => (vJ9_max_7cf53 x3 z5_2 σ_3 (fun r_5 σ_4 => (∀ x4_6 : Int32, x4_6 = x4 + (1 : Int32) → vX8_greatestLikeGroup_5 post ex x1 x2 n r_5 x4_6 σ_4)))) x1 x2 x3 x4 fu (0 : Int32) (0 : Int32) σ)))
set_option maxHeartbeats 4000000 in
set_option maxRecDepth 100000 in
theorem tX8_greatestLikeGroup_5 {G : GT} {post : Int32 → Hp → Prop} {ex : Int32 → Hp → Prop} {x1 : Int32} {x2 : Int32} (hex : ∀ (z3 : Int32) (τ : Hp), ex z3 τ → WP G mX8_greatestLikeGroup 72 [(3, .int z3)] [] τ (LI post)) : ∀ (n : Nat) (x3 : Int32) (x4 : Int32) (σ : Hp), vX8_greatestLikeGroup_5 post ex x1 x2 n x3 x4 σ → WP G mX8_greatestLikeGroup 5 [(0, .ref (G.1 0)), (1, .int x1), (2, .int x2), (3, .int x3), (4, .int x4)] [] σ (LI post) := by
  intro n
  induction n with
  | zero => intro x3 x4 σ h; exact False.elim h
  | succ n ih =>
    intro x3 x4 σ h
    simp only [vX8_greatestLikeGroup_5] at h
    refine wr_iload (pc := 5) (dget kX8_greatestLikeGroup 4 rfl) 4 rfl ?_
    refine wr_iload_n (pc := 7) (dget kX8_greatestLikeGroup 5 rfl) 2 rfl ?_
    refine wr_icmp_ge (pc := 8) (tgt := 72) (dget kX8_greatestLikeGroup 6 rfl) (by decide) (fun c_1 => ?_) (fun c_1 => ?_)
    · have h := h.1 c_1
      refine wr_sub [3] rfl ?_
      exact hex _ _ h
    · have h := h.2 c_1
      refine wr_iconst (pc := 11) (dget kX8_greatestLikeGroup 7 rfl) ic_0 ?_
      refine wr_istore (pc := 12) (lv' := [(5, .int (0 : Int32)), (0, .ref (G.1 0)), (1, .int x1), (2, .int x2), (3, .int x3), (4, .int x4)]) (dget kX8_greatestLikeGroup 8 rfl) (by decide) rfl ?_
      refine wr_iconst (pc := 14) (dget kX8_greatestLikeGroup 9 rfl) ic_0 ?_
      refine wr_istore (pc := 15) (lv' := [(6, .int (0 : Int32)), (5, .int (0 : Int32)), (0, .ref (G.1 0)), (1, .int x1), (2, .int x2), (3, .int x3), (4, .int x4)]) (dget kX8_greatestLikeGroup 10 rfl) (by decide) rfl ?_
      obtain ⟨fu, h⟩ := h
      refine wr_sub [2, 3, 4, 5, 6, 1, 0] rfl ?_
      refine tX8_greatestLikeGroup_17 (fun z5_2 σ_3 h => ?_) fu _ _ _ h
      refine wr_iload_n (pc := 59) (dget kX8_greatestLikeGroup 34 rfl) 3 rfl ?_
      refine wr_iload (pc := 60) (dget kX8_greatestLikeGroup 35 rfl) 5 rfl ?_
      refine wr_callSi (pc := 62) (Mc := mJ9_max_7cf53) (rest := []) cf_X8_388 cs_J9_max_7cf53 ⟨Nat.le_of_ble_eq_true rfl, Nat.le_of_ble_eq_true rfl⟩ rfl rfl (Nat.le_of_ble_eq_true rfl) (dget kX8_greatestLikeGroup 36 rfl) (tJ9_max_7cf53 h) (fun r_5 σ_4 h => ?_)
      refine wr_istore_n (pc := 65) (lv' := [(3, .int r_5), (0, .ref (G.1 0)), (1, .int x1), (2, .int x2), (4, .int x4), (5, .int z5_2)]) (dget kX8_greatestLikeGroup 37 rfl) (by decide) rfl ?_
      obtain ⟨x4_6, e_x4_6⟩ : ∃ y : Int32, y = x4 + (1 : Int32) := ⟨_, rfl⟩
      have h := h x4_6 e_x4_6
      refine wr_iinc (pc := 66) (v := x4_6) (lv' := [(4, .int x4_6), (3, .int r_5), (0, .ref (G.1 0)), (1, .int x1), (2, .int x2), (5, .int z5_2)]) (dget kX8_greatestLikeGroup 38 rfl) 4 rfl (by rw [e_x4_6, ic_1]) (by decide) rfl ?_
      refine wr_goto (pc := 69) (tgt := 5) (dget kX8_greatestLikeGroup 39 rfl) (by decide) ?_
      refine wr_sub [2, 3, 4, 1, 0] rfl ?_
      exact ih _ _ _ h
def vX8_greatestLikeGroup (p1 : Int32) (p2 : Int32) (σ : Hp) (post : Int32 → Hp → Prop) : Prop := (∃ fu : Nat, vX8_greatestLikeGroup_5 post (fun z3_1 σ_2 => post z3_1 σ_2) p1 p2 fu (0 : Int32) (0 : Int32) σ)
set_option maxHeartbeats 4000000 in
set_option maxRecDepth 100000 in
theorem tX8_greatestLikeGroup {G : GT} {p1 : Int32} {p2 : Int32} {σ : Hp} {post : Int32 → Hp → Prop} (h : vX8_greatestLikeGroup p1 p2 σ post) : CT G mX8_greatestLikeGroup [.ref (G.1 0), .int p1, .int p2] σ (LI post) := by
  refine CT.of (by decide +kernel) (Nat.le_of_ble_eq_true rfl) ?_
  show WP G mX8_greatestLikeGroup 0 [(0, .ref (G.1 0)), (1, .int p1), (2, .int p2)] [] σ (LI post)
  unfold vX8_greatestLikeGroup at h
  refine wr_iconst (pc := 0) (dget kX8_greatestLikeGroup 0 rfl) ic_0 ?_
  refine wr_istore_n (pc := 1) (lv' := [(3, .int (0 : Int32)), (0, .ref (G.1 0)), (1, .int p1), (2, .int p2)]) (dget kX8_greatestLikeGroup 1 rfl) (by decide) rfl ?_
  refine wr_iconst (pc := 2) (dget kX8_greatestLikeGroup 2 rfl) ic_0 ?_
  refine wr_istore (pc := 3) (lv' := [(4, .int (0 : Int32)), (3, .int (0 : Int32)), (0, .ref (G.1 0)), (1, .int p1), (2, .int p2)]) (dget kX8_greatestLikeGroup 3 rfl) (by decide) rfl ?_
  obtain ⟨fu, h⟩ := h
  refine wr_sub [2, 3, 4, 1, 0] rfl ?_
  refine tX8_greatestLikeGroup_5 (fun z3_1 σ_2 h => ?_) fu _ _ _ h
  refine wr_iload_n (pc := 72) (dget kX8_greatestLikeGroup 40 rfl) 0 rfl ?_
  exact wr_iret (pc := 73) rfl (dget kX8_greatestLikeGroup 41 rfl) ⟨_, rfl, h⟩
def vX8_tickToAsk_16 (post : Int32 → Hp → Prop) (ex : Int32 → Hp → Prop) (x1 : Int32) : Nat → Int32 → Int32 → Int32 → Hp → Prop
  | 0 => fun _ _ _ _ => False
  | n + 1 => fun x2 x3 x4 σ => (((24 : Int32) ≤ x4 → (ex x2 σ)) ∧ (¬ (24 : Int32) ≤ x4 → (vX8_greatestLikeGroup x4 x1 σ (fun r_3 σ_2 => ((x3 ≤ r_3 → (∀ x4_5 : Int32, x4_5 = x4 + (1 : Int32) → vX8_tickToAsk_16 post ex x1 n x2 x3 x4_5 σ_2)) ∧ (¬ x3 ≤ r_3 → (∀ x4_6 : Int32, x4_6 = x4 + (1 : Int32) → vX8_tickToAsk_16 post ex x1 n x4 r_3 x4_6 σ_2)))))))
set_option maxHeartbeats 4000000 in
set_option maxRecDepth 100000 in
theorem tX8_tickToAsk_16 {G : GT} {post : Int32 → Hp → Prop} {ex : Int32 → Hp → Prop} {x1 : Int32} (hex : ∀ (z2 : Int32) (τ : Hp), ex z2 τ → WP G mX8_tickToAsk 50 [(2, .int z2)] [] τ (LI post)) : ∀ (n : Nat) (x2 : Int32) (x3 : Int32) (x4 : Int32) (σ : Hp), vX8_tickToAsk_16 post ex x1 n x2 x3 x4 σ → WP G mX8_tickToAsk 16 [(0, .ref (G.1 0)), (1, .int x1), (2, .int x2), (3, .int x3), (4, .int x4)] [] σ (LI post) := by
  intro n
  induction n with
  | zero => intro x2 x3 x4 σ h; exact False.elim h
  | succ n ih =>
    intro x2 x3 x4 σ h
    simp only [vX8_tickToAsk_16] at h
    refine wr_iload (pc := 16) (dget kX8_tickToAsk 10 rfl) 4 rfl ?_
    refine wr_bipush (pc := 18) (dget kX8_tickToAsk 11 rfl) bp_24 ?_
    refine wr_icmp_ge (pc := 20) (tgt := 50) (dget kX8_tickToAsk 12 rfl) (by decide) (fun c_1 => ?_) (fun c_1 => ?_)
    · have h := h.1 c_1
      refine wr_sub [2] rfl ?_
      exact hex _ _ h
    · have h := h.2 c_1
      refine wr_aload_n (pc := 23) (dget kX8_tickToAsk 13 rfl) 0 rfl ?_
      refine wr_iload (pc := 24) (dget kX8_tickToAsk 14 rfl) 4 rfl ?_
      refine wr_iload_n (pc := 26) (dget kX8_tickToAsk 15 rfl) 1 rfl ?_
      refine wr_callVi (pc := 27) (Mc := mX8_greatestLikeGroup) (o := 0) (rest := []) cf_X8_385 cv_X8_greatestLikeGroup kd_0 rfl ⟨Nat.le_of_ble_eq_true rfl, Nat.le_of_ble_eq_true rfl⟩ rfl rfl (Nat.le_of_ble_eq_true rfl) (dget kX8_tickToAsk 16 rfl) (tX8_greatestLikeGroup h) (fun r_3 σ_2 h => ?_)
      refine wr_istore (pc := 30) (lv' := [(5, .int r_3), (0, .ref (G.1 0)), (1, .int x1), (2, .int x2), (3, .int x3), (4, .int x4)]) (dget kX8_tickToAsk 17 rfl) (by decide) rfl ?_
      refine wr_iload (pc := 32) (dget kX8_tickToAsk 18 rfl) 0 rfl ?_
      refine wr_iload_n (pc := 34) (dget kX8_tickToAsk 19 rfl) 4 rfl ?_
      refine wr_icmp_ge (pc := 35) (tgt := 44) (dget kX8_tickToAsk 20 rfl) (by decide) (fun c_4 => ?_) (fun c_4 => ?_)
      · have h := h.1 c_4
        obtain ⟨x4_5, e_x4_5⟩ : ∃ y : Int32, y = x4 + (1 : Int32) := ⟨_, rfl⟩
        have h := h x4_5 e_x4_5
        refine wr_iinc (pc := 44) (v := x4_5) (lv' := [(4, .int x4_5), (5, .int r_3), (0, .ref (G.1 0)), (1, .int x1), (2, .int x2), (3, .int x3)]) (dget kX8_tickToAsk 25 rfl) 5 rfl (by rw [e_x4_5, ic_1]) (by decide) rfl ?_
        refine wr_goto (pc := 47) (tgt := 16) (dget kX8_tickToAsk 26 rfl) (by decide) ?_
        refine wr_sub [2, 3, 4, 5, 0] rfl ?_
        exact ih _ _ _ _ h
      · have h := h.2 c_4
        refine wr_iload (pc := 38) (dget kX8_tickToAsk 21 rfl) 0 rfl ?_
        refine wr_istore_n (pc := 40) (lv' := [(3, .int r_3), (5, .int r_3), (0, .ref (G.1 0)), (1, .int x1), (2, .int x2), (4, .int x4)]) (dget kX8_tickToAsk 22 rfl) (by decide) rfl ?_
        refine wr_iload (pc := 41) (dget kX8_tickToAsk 23 rfl) 5 rfl ?_
        refine wr_istore_n (pc := 43) (lv' := [(2, .int x4), (3, .int r_3), (5, .int r_3), (0, .ref (G.1 0)), (1, .int x1), (4, .int x4)]) (dget kX8_tickToAsk 24 rfl) (by decide) rfl ?_
        obtain ⟨x4_6, e_x4_6⟩ : ∃ y : Int32, y = x4 + (1 : Int32) := ⟨_, rfl⟩
        have h := h x4_6 e_x4_6
        refine wr_iinc (pc := 44) (v := x4_6) (lv' := [(4, .int x4_6), (2, .int x4), (3, .int r_3), (5, .int r_3), (0, .ref (G.1 0)), (1, .int x1)]) (dget kX8_tickToAsk 25 rfl) 5 rfl (by rw [e_x4_6, ic_1]) (by decide) rfl ?_
        refine wr_goto (pc := 47) (tgt := 16) (dget kX8_tickToAsk 26 rfl) (by decide) ?_
        refine wr_sub [4, 5, 1, 2, 0] rfl ?_
        exact ih _ _ _ _ h
def vX8_tickToAsk (σ : Hp) (post : Int32 → Hp → Prop) : Prop := (vX8_pullsThatMightBe  σ (fun r_2 σ_1 => (vJ6_bitCount_0f7a4 r_2 σ_1 (fun r_4 σ_3 => (∃ fu : Nat, vX8_tickToAsk_16 post (fun z2_5 σ_6 => post z2_5 σ_6) r_4 fu (0 : Int32) (6 : Int32) (0 : Int32) σ_3)))))
set_option maxHeartbeats 4000000 in
set_option maxRecDepth 100000 in
theorem tX8_tickToAsk {G : GT} {σ : Hp} {post : Int32 → Hp → Prop} (h : vX8_tickToAsk  σ post) : CT G mX8_tickToAsk [.ref (G.1 0)] σ (LI post) := by
  refine CT.of (by decide +kernel) (Nat.le_of_ble_eq_true rfl) ?_
  show WP G mX8_tickToAsk 0 [(0, .ref (G.1 0))] [] σ (LI post)
  unfold vX8_tickToAsk at h
  refine wr_aload_n (pc := 0) (dget kX8_tickToAsk 0 rfl) 0 rfl ?_
  refine wr_callVi (pc := 1) (Mc := mX8_pullsThatMightBe) (o := 0) (rest := []) cf_X8_216 cv_X8_pullsThatMightBe kd_0 rfl ⟨Nat.le_of_ble_eq_true rfl, Nat.le_of_ble_eq_true rfl⟩ rfl rfl (Nat.le_of_ble_eq_true rfl) (dget kX8_tickToAsk 1 rfl) (tX8_pullsThatMightBe h) (fun r_2 σ_1 h => ?_)
  refine wr_callSi (pc := 4) (Mc := mJ6_bitCount_0f7a4) (rest := []) cf_X8_168 cs_J6_bitCount_0f7a4 ⟨Nat.le_of_ble_eq_true rfl, Nat.le_of_ble_eq_true rfl⟩ rfl rfl (Nat.le_of_ble_eq_true rfl) (dget kX8_tickToAsk 2 rfl) (tJ6_bitCount_0f7a4 h) (fun r_4 σ_3 h => ?_)
  refine wr_istore_n (pc := 7) (lv' := [(1, .int r_4), (0, .ref (G.1 0))]) (dget kX8_tickToAsk 3 rfl) (by decide) rfl ?_
  refine wr_iconst (pc := 8) (dget kX8_tickToAsk 4 rfl) ic_0 ?_
  refine wr_istore_n (pc := 9) (lv' := [(2, .int (0 : Int32)), (1, .int r_4), (0, .ref (G.1 0))]) (dget kX8_tickToAsk 5 rfl) (by decide) rfl ?_
  refine wr_bipush (pc := 10) (dget kX8_tickToAsk 6 rfl) bp_6 ?_
  refine wr_istore_n (pc := 12) (lv' := [(3, .int (6 : Int32)), (2, .int (0 : Int32)), (1, .int r_4), (0, .ref (G.1 0))]) (dget kX8_tickToAsk 7 rfl) (by decide) rfl ?_
  refine wr_iconst (pc := 13) (dget kX8_tickToAsk 8 rfl) ic_0 ?_
  refine wr_istore (pc := 14) (lv' := [(4, .int (0 : Int32)), (3, .int (6 : Int32)), (2, .int (0 : Int32)), (1, .int r_4), (0, .ref (G.1 0))]) (dget kX8_tickToAsk 9 rfl) (by decide) rfl ?_
  obtain ⟨fu, h⟩ := h
  refine wr_sub [4, 3, 2, 1, 0] rfl ?_
  refine tX8_tickToAsk_16 (fun z2_5 σ_6 h => ?_) fu _ _ _ _ h
  refine wr_iload_n (pc := 50) (dget kX8_tickToAsk 27 rfl) 0 rfl ?_
  exact wr_iret (pc := 51) rfl (dget kX8_tickToAsk 28 rfl) ⟨_, rfl, h⟩
def vX8_ask (σ : Hp) (post : Int32 → Hp → Prop) : Prop := (vX8_settle  σ (fun σ_1 => (vX8_tickToAsk  σ_1 (fun r_4 σ_3 => post r_4 σ_3))))
set_option maxHeartbeats 4000000 in
set_option maxRecDepth 100000 in
theorem tX8_ask {G : GT} {σ : Hp} {post : Int32 → Hp → Prop} (h : vX8_ask  σ post) : CT G mX8_ask [.ref (G.1 0)] σ (LI post) := by
  refine CT.of (by decide +kernel) (Nat.le_of_ble_eq_true rfl) ?_
  show WP G mX8_ask 0 [(0, .ref (G.1 0))] [] σ (LI post)
  unfold vX8_ask at h
  refine wr_aload_n (pc := 0) (dget kX8_ask 0 rfl) 0 rfl ?_
  refine wr_callVv (pc := 1) (Mc := mX8_settle) (o := 0) (rest := []) cf_X8_97 cv_X8_settle kd_0 rfl ⟨Nat.le_of_ble_eq_true rfl, Nat.le_of_ble_eq_true rfl⟩ rfl rfl (Nat.le_of_ble_eq_true rfl) (dget kX8_ask 1 rfl) (tX8_settle h) (fun σ_1 h => ?_)
  refine wr_aload_n (pc := 4) (dget kX8_ask 2 rfl) 0 rfl ?_
  refine wr_callVi (pc := 5) (Mc := mX8_tickToAsk) (o := 0) (rest := []) cf_X8_222 cv_X8_tickToAsk kd_0 rfl ⟨Nat.le_of_ble_eq_true rfl, Nat.le_of_ble_eq_true rfl⟩ rfl rfl (Nat.le_of_ble_eq_true rfl) (dget kX8_ask 3 rfl) (tX8_tickToAsk h) (fun r_4 σ_3 h => ?_)
  exact wr_iret (pc := 8) rfl (dget kX8_ask 4 rfl) ⟨_, rfl, h⟩
def vX8_commonDivisor_6 (post : Int64 → Hp → Prop) (ex : Int64 → Hp → Prop) (x0 : Int64) : Nat → Int64 → Int32 → Hp → Prop
  | 0 => fun _ _ _ => False
  | n + 1 => fun x4 x6 σ => (((64 : Int32) ≤ x6 → (ex x4 σ)) ∧ (¬ (64 : Int32) ≤ x6 → (((lg_cmp x4 (1 : Int64)) ≤ 0 → (ex x4 σ)) ∧ (¬ (lg_cmp x4 (1 : Int64)) ≤ 0 → (((lg_cmp (x0 &&& (x4 - (1 : Int64))) (0 : Int64)) = 0 → (ex x4 σ)) ∧ (¬ (lg_cmp (x0 &&& (x4 - (1 : Int64))) (0 : Int64)) = 0 → (∀ x4_4 : Int64, x4_4 = (x4 >>> ((1 : Int32).toInt64 &&& 63)) → (∀ x6_5 : Int32, x6_5 = x6 + (1 : Int32) → vX8_commonDivisor_6 post ex x0 n x4_4 x6_5 σ))))))))
set_option maxHeartbeats 4000000 in
set_option maxRecDepth 100000 in
theorem tX8_commonDivisor_6 {G : GT} {post : Int64 → Hp → Prop} {ex : Int64 → Hp → Prop} {x0 : Int64} (hex : ∀ (z4 : Int64) (τ : Hp), ex z4 τ → WP G mX8_commonDivisor 43 [(4, .long z4)] [] τ (LL post)) : ∀ (n : Nat) (x4 : Int64) (x6 : Int32) (σ : Hp), vX8_commonDivisor_6 post ex x0 n x4 x6 σ → WP G mX8_commonDivisor 6 [(0, .long x0), (4, .long x4), (6, .int x6)] [] σ (LL post) := by
  intro n
  induction n with
  | zero => intro x4 x6 σ h; exact False.elim h
  | succ n ih =>
    intro x4 x6 σ h
    simp only [vX8_commonDivisor_6] at h
    refine wr_iload (pc := 6) (dget kX8_commonDivisor 4 rfl) 2 rfl ?_
    refine wr_bipush (pc := 8) (dget kX8_commonDivisor 5 rfl) bp_64 ?_
    refine wr_icmp_ge (pc := 10) (tgt := 43) (dget kX8_commonDivisor 6 rfl) (by decide) (fun c_1 => ?_) (fun c_1 => ?_)
    · have h := h.1 c_1
      refine wr_sub [1] rfl ?_
      exact hex _ _ h
    · have h := h.2 c_1
      refine wr_lload (pc := 13) (dget kX8_commonDivisor 7 rfl) 1 rfl ?_
      refine wr_lconst (pc := 15) (dget kX8_commonDivisor 8 rfl) lc_1 ?_
      refine wr_lcmp (pc := 16) (dget kX8_commonDivisor 9 rfl) ?_
      refine wr_if_le (pc := 17) (tgt := 43) (dget kX8_commonDivisor 10 rfl) (by decide) (fun c_2 => ?_) (fun c_2 => ?_)
      · have h := h.1 c_2
        refine wr_sub [1] rfl ?_
        exact hex _ _ h
      · have h := h.2 c_2
        refine wr_lload_n (pc := 20) (dget kX8_commonDivisor 11 rfl) 0 rfl ?_
        refine wr_lload (pc := 21) (dget kX8_commonDivisor 12 rfl) 1 rfl ?_
        refine wr_lconst (pc := 23) (dget kX8_commonDivisor 13 rfl) lc_1 ?_
        refine wr_lsub (pc := 24) (dget kX8_commonDivisor 14 rfl) ?_
        refine wr_land (pc := 25) (dget kX8_commonDivisor 15 rfl) ?_
        refine wr_lconst (pc := 26) (dget kX8_commonDivisor 16 rfl) lc_0 ?_
        refine wr_lcmp (pc := 27) (dget kX8_commonDivisor 17 rfl) ?_
        refine wr_if_eq (pc := 28) (tgt := 43) (dget kX8_commonDivisor 18 rfl) (by decide) (fun c_3 => ?_) (fun c_3 => ?_)
        · have h := h.1 c_3
          refine wr_sub [1] rfl ?_
          exact hex _ _ h
        · have h := h.2 c_3
          refine wr_lload (pc := 31) (dget kX8_commonDivisor 19 rfl) 1 rfl ?_
          refine wr_iconst (pc := 33) (dget kX8_commonDivisor 20 rfl) ic_1 ?_
          refine wr_lshr (pc := 34) (dget kX8_commonDivisor 21 rfl) rfl ?_
          refine wr_topl (fun x4_4 e_x4_4 => ?_)
          have h := h x4_4 e_x4_4
          refine wr_lstore (pc := 35) (lv' := [(4, .long x4_4), (0, .long x0), (6, .int x6)]) (dget kX8_commonDivisor 22 rfl) (by decide) rfl ?_
          obtain ⟨x6_5, e_x6_5⟩ : ∃ y : Int32, y = x6 + (1 : Int32) := ⟨_, rfl⟩
          have h := h x6_5 e_x6_5
          refine wr_iinc (pc := 37) (v := x6_5) (lv' := [(6, .int x6_5), (4, .long x4_4), (0, .long x0)]) (dget kX8_commonDivisor 23 rfl) 2 rfl (by rw [e_x6_5, ic_1]) (by decide) rfl ?_
          refine wr_goto (pc := 40) (tgt := 6) (dget kX8_commonDivisor 24 rfl) (by decide) ?_
          refine wr_sub [2, 1, 0] rfl ?_
          exact ih _ _ _ h
def vX8_commonDivisor (p1 : Int64) (p2 : Int64) (σ : Hp) (post : Int64 → Hp → Prop) : Prop := (∃ fu : Nat, vX8_commonDivisor_6 post (fun z4_1 σ_2 => (vJ9_max_f86c9 z4_1 (1 : Int64) σ_2 (fun r_4 σ_3 => post r_4 σ_3))) p1 fu p2 (0 : Int32) σ)
set_option maxHeartbeats 4000000 in
set_option maxRecDepth 100000 in
theorem tX8_commonDivisor {G : GT} {p1 : Int64} {p2 : Int64} {σ : Hp} {post : Int64 → Hp → Prop} (h : vX8_commonDivisor p1 p2 σ post) : CT G mX8_commonDivisor [.long p1, .long p2] σ (LL post) := by
  refine CT.of (by decide +kernel) (Nat.le_of_ble_eq_true rfl) ?_
  show WP G mX8_commonDivisor 0 [(0, .long p1), (2, .long p2)] [] σ (LL post)
  unfold vX8_commonDivisor at h
  refine wr_lload_n (pc := 0) (dget kX8_commonDivisor 0 rfl) 1 rfl ?_
  refine wr_lstore (pc := 1) (lv' := [(4, .long p2), (0, .long p1), (2, .long p2)]) (dget kX8_commonDivisor 1 rfl) (by decide) rfl ?_
  refine wr_iconst (pc := 3) (dget kX8_commonDivisor 2 rfl) ic_0 ?_
  refine wr_istore (pc := 4) (lv' := [(6, .int (0 : Int32)), (4, .long p2), (0, .long p1), (2, .long p2)]) (dget kX8_commonDivisor 3 rfl) (by decide) rfl ?_
  obtain ⟨fu, h⟩ := h
  refine wr_sub [2, 1, 0] rfl ?_
  refine tX8_commonDivisor_6 (fun z4_1 σ_2 h => ?_) fu _ _ _ h
  refine wr_lload (pc := 43) (dget kX8_commonDivisor 25 rfl) 0 rfl ?_
  refine wr_lconst (pc := 45) (dget kX8_commonDivisor 26 rfl) lc_1 ?_
  refine wr_callSl (pc := 46) (Mc := mJ9_max_f86c9) (rest := []) cf_X8_407 cs_J9_max_f86c9 ⟨Nat.le_of_ble_eq_true rfl, Nat.le_of_ble_eq_true rfl⟩ rfl rfl (Nat.le_of_ble_eq_true rfl) (dget kX8_commonDivisor 27 rfl) (tJ9_max_f86c9 h) (fun r_4 σ_3 h => ?_)
  exact wr_lret (pc := 49) rfl (dget kX8_commonDivisor 28 rfl) ⟨_, rfl, h⟩
def vX8_power_5 (post : Int64 → Hp → Prop) (ex : Int64 → Hp → Prop) (x0 : Int32) (x1 : Int32) : Nat → Int64 → Int32 → Hp → Prop
  | 0 => fun _ _ _ => False
  | n + 1 => fun x2 x4 σ => ((x1 ≤ x4 → (ex x2 σ)) ∧ (¬ x1 ≤ x4 → (∀ x2_2 : Int64, x2_2 = (x2 * x0.toInt64) → (∀ x4_3 : Int32, x4_3 = x4 + (1 : Int32) → vX8_power_5 post ex x0 x1 n x2_2 x4_3 σ))))
set_option maxHeartbeats 4000000 in
set_option maxRecDepth 100000 in
theorem tX8_power_5 {G : GT} {post : Int64 → Hp → Prop} {ex : Int64 → Hp → Prop} {x0 : Int32} {x1 : Int32} (hex : ∀ (z2 : Int64) (τ : Hp), ex z2 τ → WP G mX8_power 22 [(2, .long z2)] [] τ (LL post)) : ∀ (n : Nat) (x2 : Int64) (x4 : Int32) (σ : Hp), vX8_power_5 post ex x0 x1 n x2 x4 σ → WP G mX8_power 5 [(0, .int x0), (1, .int x1), (2, .long x2), (4, .int x4)] [] σ (LL post) := by
  intro n
  induction n with
  | zero => intro x2 x4 σ h; exact False.elim h
  | succ n ih =>
    intro x2 x4 σ h
    simp only [vX8_power_5] at h
    refine wr_iload (pc := 5) (dget kX8_power 4 rfl) 3 rfl ?_
    refine wr_iload_n (pc := 7) (dget kX8_power 5 rfl) 1 rfl ?_
    refine wr_icmp_ge (pc := 8) (tgt := 22) (dget kX8_power 6 rfl) (by decide) (fun c_1 => ?_) (fun c_1 => ?_)
    · have h := h.1 c_1
      refine wr_sub [2] rfl ?_
      exact hex _ _ h
    · have h := h.2 c_1
      refine wr_lload_n (pc := 11) (dget kX8_power 7 rfl) 2 rfl ?_
      refine wr_iload_n (pc := 12) (dget kX8_power 8 rfl) 0 rfl ?_
      refine wr_i2l (pc := 13) (dget kX8_power 9 rfl) rfl ?_
      refine wr_lmul (pc := 14) (dget kX8_power 10 rfl) ?_
      refine wr_topl (fun x2_2 e_x2_2 => ?_)
      have h := h x2_2 e_x2_2
      refine wr_lstore_n (pc := 15) (lv' := [(2, .long x2_2), (0, .int x0), (1, .int x1), (4, .int x4)]) (dget kX8_power 11 rfl) (by decide) rfl ?_
      obtain ⟨x4_3, e_x4_3⟩ : ∃ y : Int32, y = x4 + (1 : Int32) := ⟨_, rfl⟩
      have h := h x4_3 e_x4_3
      refine wr_iinc (pc := 16) (v := x4_3) (lv' := [(4, .int x4_3), (2, .long x2_2), (0, .int x0), (1, .int x1)]) (dget kX8_power 12 rfl) 3 rfl (by rw [e_x4_3, ic_1]) (by decide) rfl ?_
      refine wr_goto (pc := 19) (tgt := 5) (dget kX8_power 13 rfl) (by decide) ?_
      refine wr_sub [2, 3, 1, 0] rfl ?_
      exact ih _ _ _ h
def vX8_power (p1 : Int32) (p2 : Int32) (σ : Hp) (post : Int64 → Hp → Prop) : Prop := (∃ fu : Nat, vX8_power_5 post (fun z2_1 σ_2 => post z2_1 σ_2) p1 p2 fu (1 : Int64) (0 : Int32) σ)
set_option maxHeartbeats 4000000 in
set_option maxRecDepth 100000 in
theorem tX8_power {G : GT} {p1 : Int32} {p2 : Int32} {σ : Hp} {post : Int64 → Hp → Prop} (h : vX8_power p1 p2 σ post) : CT G mX8_power [.int p1, .int p2] σ (LL post) := by
  refine CT.of (by decide +kernel) (Nat.le_of_ble_eq_true rfl) ?_
  show WP G mX8_power 0 [(0, .int p1), (1, .int p2)] [] σ (LL post)
  unfold vX8_power at h
  refine wr_lconst (pc := 0) (dget kX8_power 0 rfl) lc_1 ?_
  refine wr_lstore_n (pc := 1) (lv' := [(2, .long (1 : Int64)), (0, .int p1), (1, .int p2)]) (dget kX8_power 1 rfl) (by decide) rfl ?_
  refine wr_iconst (pc := 2) (dget kX8_power 2 rfl) ic_0 ?_
  refine wr_istore (pc := 3) (lv' := [(4, .int (0 : Int32)), (2, .long (1 : Int64)), (0, .int p1), (1, .int p2)]) (dget kX8_power 3 rfl) (by decide) rfl ?_
  obtain ⟨fu, h⟩ := h
  refine wr_sub [2, 3, 1, 0] rfl ?_
  refine tX8_power_5 (fun z2_1 σ_2 h => ?_) fu _ _ _ h
  refine wr_lload_n (pc := 22) (dget kX8_power 14 rfl) 0 rfl ?_
  exact wr_lret (pc := 23) rfl (dget kX8_power 15 rfl) ⟨_, rfl, h⟩
def vX8_weightOfHits_5 (post : Int64 → Hp → Prop) (ex : Int64 → Hp → Prop) (x1 : Int32) (x2 : Int32) : Nat → Int64 → Int32 → Hp → Prop
  | 0 => fun _ _ _ => False
  | n + 1 => fun x3 x5 σ => (((σ.1 10 4) < x5 → (ex x3 σ)) ∧ (¬ (σ.1 10 4) < x5 → (vX8_power x1 x5 σ (fun r_3 σ_2 => (vX8_power ((16 : Int32) - x1) ((σ_2.1 10 4) - x5) σ_2 (fun r_5 σ_4 => (∀ x6_6 : Int64, x6_6 = (r_3 * r_5) → (vp_in ((x2 * (9 : Int32)) + x5) 108 ∧ (∀ x3_8 : Int64, x3_8 = (x3 + (((σ_4.1 52 (((x2 * (9 : Int32)) + x5)).toNatClampNeg)).toInt64 * x6_6)) → (∀ x5_9 : Int32, x5_9 = x5 + (1 : Int32) → vX8_weightOfHits_5 post ex x1 x2 n x3_8 x5_9 σ_4))))))))))
set_option maxHeartbeats 4000000 in
set_option maxRecDepth 100000 in
theorem tX8_weightOfHits_5 {G : GT} {post : Int64 → Hp → Prop} {ex : Int64 → Hp → Prop} {x1 : Int32} {x2 : Int32} (hex : ∀ (z3 : Int64) (τ : Hp), ex z3 τ → WP G mX8_weightOfHits 68 [(3, .long z3)] [] τ (LL post)) : ∀ (n : Nat) (x3 : Int64) (x5 : Int32) (σ : Hp), vX8_weightOfHits_5 post ex x1 x2 n x3 x5 σ → WP G mX8_weightOfHits 5 [(0, .ref (G.1 0)), (1, .int x1), (2, .int x2), (3, .long x3), (5, .int x5)] [] σ (LL post) := by
  intro n
  induction n with
  | zero => intro x3 x5 σ h; exact False.elim h
  | succ n ih =>
    intro x3 x5 σ h
    simp only [vX8_weightOfHits_5] at h
    refine wr_iload (pc := 5) (dget kX8_weightOfHits 4 rfl) 4 rfl ?_
    refine wr_aload_n (pc := 7) (dget kX8_weightOfHits 5 rfl) 0 rfl ?_
    refine wr_getRl (pc := 8) fl_X8_25 kd_0 fk_8_2 rt_0_2 (dget kX8_weightOfHits 6 rfl) ?_
    refine wr_getI (pc := 11) (σ := σ) fl_X8_141 kd_10 fk_1_4 (dget kX8_weightOfHits 7 rfl) ?_
    refine wr_icmp_gt (pc := 14) (tgt := 68) (dget kX8_weightOfHits 8 rfl) (by decide) (fun c_1 => ?_) (fun c_1 => ?_)
    · have h := h.1 c_1
      refine wr_sub [3] rfl ?_
      exact hex _ _ h
    · have h := h.2 c_1
      refine wr_iload_n (pc := 17) (dget kX8_weightOfHits 9 rfl) 1 rfl ?_
      refine wr_iload (pc := 18) (dget kX8_weightOfHits 10 rfl) 4 rfl ?_
      refine wr_callSl (pc := 20) (Mc := mX8_power) (rest := []) cf_X8_401 cs_X8_power ⟨Nat.le_of_ble_eq_true rfl, Nat.le_of_ble_eq_true rfl⟩ rfl rfl (Nat.le_of_ble_eq_true rfl) (dget kX8_weightOfHits 11 rfl) (tX8_power h) (fun r_3 σ_2 h => ?_)
      refine wr_bipush (pc := 23) (dget kX8_weightOfHits 12 rfl) bp_16 ?_
      refine wr_iload_n (pc := 25) (dget kX8_weightOfHits 13 rfl) 1 rfl ?_
      refine wr_isub (pc := 26) (dget kX8_weightOfHits 14 rfl) ?_
      refine wr_aload_n (pc := 27) (dget kX8_weightOfHits 15 rfl) 0 rfl ?_
      refine wr_getRl (pc := 28) fl_X8_25 kd_0 fk_8_2 rt_0_2 (dget kX8_weightOfHits 16 rfl) ?_
      refine wr_getI (pc := 31) (σ := σ_2) fl_X8_141 kd_10 fk_1_4 (dget kX8_weightOfHits 17 rfl) ?_
      refine wr_iload (pc := 34) (dget kX8_weightOfHits 18 rfl) 4 rfl ?_
      refine wr_isub (pc := 36) (dget kX8_weightOfHits 19 rfl) ?_
      refine wr_callSl (pc := 37) (Mc := mX8_power) (rest := [.long r_3]) cf_X8_401 cs_X8_power ⟨Nat.le_of_ble_eq_true rfl, Nat.le_of_ble_eq_true rfl⟩ rfl rfl (Nat.le_of_ble_eq_true rfl) (dget kX8_weightOfHits 20 rfl) (tX8_power h) (fun r_5 σ_4 h => ?_)
      refine wr_lmul (pc := 40) (dget kX8_weightOfHits 21 rfl) ?_
      refine wr_topl (fun x6_6 e_x6_6 => ?_)
      have h := h x6_6 e_x6_6
      refine wr_lstore (pc := 41) (lv' := [(6, .long x6_6), (0, .ref (G.1 0)), (1, .int x1), (2, .int x2), (3, .long x3), (5, .int x5)]) (dget kX8_weightOfHits 22 rfl) (by decide) rfl ?_
      refine wr_lload_n (pc := 43) (dget kX8_weightOfHits 23 rfl) 4 rfl ?_
      refine wr_aload_n (pc := 44) (dget kX8_weightOfHits 24 rfl) 1 rfl ?_
      refine wr_getRl (pc := 45) fl_X8_66 kd_0 fk_8_11 rt_0_11 (dget kX8_weightOfHits 25 rfl) ?_
      refine wr_iload_n (pc := 48) (dget kX8_weightOfHits 26 rfl) 3 rfl ?_
      refine wr_bipush (pc := 49) (dget kX8_weightOfHits 27 rfl) bp_9 ?_
      refine wr_imul (pc := 51) (dget kX8_weightOfHits 28 rfl) ?_
      refine wr_iload (pc := 52) (dget kX8_weightOfHits 29 rfl) 5 rfl ?_
      refine wr_iadd (pc := 54) (dget kX8_weightOfHits 30 rfl) ?_
      obtain ⟨q_7, h⟩ := h
      refine wr_ialdl (pc := 55) (σ := σ_4) il_52 q_7 (dget kX8_weightOfHits 31 rfl) ?_
      refine wr_i2l (pc := 56) (dget kX8_weightOfHits 32 rfl) rfl ?_
      refine wr_lload (pc := 57) (dget kX8_weightOfHits 33 rfl) 0 rfl ?_
      refine wr_lmul (pc := 59) (dget kX8_weightOfHits 34 rfl) ?_
      refine wr_ladd (pc := 60) (dget kX8_weightOfHits 35 rfl) ?_
      refine wr_topl (fun x3_8 e_x3_8 => ?_)
      have h := h x3_8 e_x3_8
      refine wr_lstore_n (pc := 61) (lv' := [(3, .long x3_8), (6, .long x6_6), (0, .ref (G.1 0)), (1, .int x1), (2, .int x2), (5, .int x5)]) (dget kX8_weightOfHits 36 rfl) (by decide) rfl ?_
      obtain ⟨x5_9, e_x5_9⟩ : ∃ y : Int32, y = x5 + (1 : Int32) := ⟨_, rfl⟩
      have h := h x5_9 e_x5_9
      refine wr_iinc (pc := 62) (v := x5_9) (lv' := [(5, .int x5_9), (3, .long x3_8), (6, .long x6_6), (0, .ref (G.1 0)), (1, .int x1), (2, .int x2)]) (dget kX8_weightOfHits 37 rfl) 5 rfl (by rw [e_x5_9, ic_1]) (by decide) rfl ?_
      refine wr_goto (pc := 65) (tgt := 5) (dget kX8_weightOfHits 38 rfl) (by decide) ?_
      refine wr_sub [3, 4, 5, 1, 0] rfl ?_
      exact ih _ _ _ h
def vX8_weightOfHits (p1 : Int32) (p2 : Int32) (σ : Hp) (post : Int64 → Hp → Prop) : Prop := (∃ fu : Nat, vX8_weightOfHits_5 post (fun z3_1 σ_2 => post z3_1 σ_2) p1 p2 fu (0 : Int64) (0 : Int32) σ)
set_option maxHeartbeats 4000000 in
set_option maxRecDepth 100000 in
theorem tX8_weightOfHits {G : GT} {p1 : Int32} {p2 : Int32} {σ : Hp} {post : Int64 → Hp → Prop} (h : vX8_weightOfHits p1 p2 σ post) : CT G mX8_weightOfHits [.ref (G.1 0), .int p1, .int p2] σ (LL post) := by
  refine CT.of (by decide +kernel) (Nat.le_of_ble_eq_true rfl) ?_
  show WP G mX8_weightOfHits 0 [(0, .ref (G.1 0)), (1, .int p1), (2, .int p2)] [] σ (LL post)
  unfold vX8_weightOfHits at h
  refine wr_lconst (pc := 0) (dget kX8_weightOfHits 0 rfl) lc_0 ?_
  refine wr_lstore_n (pc := 1) (lv' := [(3, .long (0 : Int64)), (0, .ref (G.1 0)), (1, .int p1), (2, .int p2)]) (dget kX8_weightOfHits 1 rfl) (by decide) rfl ?_
  refine wr_iconst (pc := 2) (dget kX8_weightOfHits 2 rfl) ic_0 ?_
  refine wr_istore (pc := 3) (lv' := [(5, .int (0 : Int32)), (3, .long (0 : Int64)), (0, .ref (G.1 0)), (1, .int p1), (2, .int p2)]) (dget kX8_weightOfHits 3 rfl) (by decide) rfl ?_
  obtain ⟨fu, h⟩ := h
  refine wr_sub [2, 3, 4, 1, 0] rfl ?_
  refine tX8_weightOfHits_5 (fun z3_1 σ_2 h => ?_) fu _ _ _ h
  refine wr_lload_n (pc := 68) (dget kX8_weightOfHits 39 rfl) 0 rfl ?_
  exact wr_lret (pc := 69) rfl (dget kX8_weightOfHits 40 rfl) ⟨_, rfl, h⟩
def vX8_chanceLearned (p1 : Int32) (p2 : Int32) (p3 : Int32) (σ : Hp) (post : Int64 → Hp → Prop) : Prop := (vX8_weightOfHits p1 p2 σ (fun r_2 σ_1 => (vX8_power (16 : Int32) (σ_1.1 10 4) σ_1 (fun r_4 σ_3 => (vX8_commonDivisor r_2 r_4 σ_3 (fun r_6 σ_5 => ((p3 = 0 → (¬ r_6 = 0 ∧ post (r_2 / r_6) σ_5)) ∧ (¬ p3 = 0 → (¬ r_6 = 0 ∧ post (r_4 / r_6) σ_5)))))))))
set_option maxHeartbeats 4000000 in
set_option maxRecDepth 100000 in
theorem tX8_chanceLearned {G : GT} {p1 : Int32} {p2 : Int32} {p3 : Int32} {σ : Hp} {post : Int64 → Hp → Prop} (h : vX8_chanceLearned p1 p2 p3 σ post) : CT G mX8_chanceLearned [.ref (G.1 0), .int p1, .int p2, .int p3] σ (LL post) := by
  refine CT.of (by decide +kernel) (Nat.le_of_ble_eq_true rfl) ?_
  show WP G mX8_chanceLearned 0 [(0, .ref (G.1 0)), (1, .int p1), (2, .int p2), (3, .int p3)] [] σ (LL post)
  unfold vX8_chanceLearned at h
  refine wr_aload_n (pc := 0) (dget kX8_chanceLearned 0 rfl) 0 rfl ?_
  refine wr_iload_n (pc := 1) (dget kX8_chanceLearned 1 rfl) 1 rfl ?_
  refine wr_iload_n (pc := 2) (dget kX8_chanceLearned 2 rfl) 2 rfl ?_
  refine wr_callVl (pc := 3) (Mc := mX8_weightOfHits) (o := 0) (rest := []) cf_X8_397 cv_X8_weightOfHits kd_0 rfl ⟨Nat.le_of_ble_eq_true rfl, Nat.le_of_ble_eq_true rfl⟩ rfl rfl (Nat.le_of_ble_eq_true rfl) (dget kX8_chanceLearned 3 rfl) (tX8_weightOfHits h) (fun r_2 σ_1 h => ?_)
  refine wr_lstore (pc := 6) (lv' := [(4, .long r_2), (0, .ref (G.1 0)), (1, .int p1), (2, .int p2), (3, .int p3)]) (dget kX8_chanceLearned 4 rfl) (by decide) rfl ?_
  refine wr_bipush (pc := 8) (dget kX8_chanceLearned 5 rfl) bp_16 ?_
  refine wr_aload_n (pc := 10) (dget kX8_chanceLearned 6 rfl) 1 rfl ?_
  refine wr_getRl (pc := 11) fl_X8_25 kd_0 fk_8_2 rt_0_2 (dget kX8_chanceLearned 7 rfl) ?_
  refine wr_getI (pc := 14) (σ := σ_1) fl_X8_141 kd_10 fk_1_4 (dget kX8_chanceLearned 8 rfl) ?_
  refine wr_callSl (pc := 17) (Mc := mX8_power) (rest := []) cf_X8_401 cs_X8_power ⟨Nat.le_of_ble_eq_true rfl, Nat.le_of_ble_eq_true rfl⟩ rfl rfl (Nat.le_of_ble_eq_true rfl) (dget kX8_chanceLearned 9 rfl) (tX8_power h) (fun r_4 σ_3 h => ?_)
  refine wr_lstore (pc := 20) (lv' := [(6, .long r_4), (4, .long r_2), (0, .ref (G.1 0)), (1, .int p1), (2, .int p2), (3, .int p3)]) (dget kX8_chanceLearned 10 rfl) (by decide) rfl ?_
  refine wr_lload (pc := 22) (dget kX8_chanceLearned 11 rfl) 1 rfl ?_
  refine wr_lload (pc := 24) (dget kX8_chanceLearned 12 rfl) 0 rfl ?_
  refine wr_callSl (pc := 26) (Mc := mX8_commonDivisor) (rest := []) cf_X8_404 cs_X8_commonDivisor ⟨Nat.le_of_ble_eq_true rfl, Nat.le_of_ble_eq_true rfl⟩ rfl rfl (Nat.le_of_ble_eq_true rfl) (dget kX8_chanceLearned 13 rfl) (tX8_commonDivisor h) (fun r_6 σ_5 h => ?_)
  refine wr_lstore (pc := 29) (lv' := [(8, .long r_6), (6, .long r_4), (4, .long r_2), (0, .ref (G.1 0)), (1, .int p1), (2, .int p2), (3, .int p3)]) (dget kX8_chanceLearned 14 rfl) (by decide) rfl ?_
  refine wr_iload_n (pc := 31) (dget kX8_chanceLearned 15 rfl) 6 rfl ?_
  refine wr_if_ne (pc := 32) (tgt := 40) (dget kX8_chanceLearned 16 rfl) (by decide) (fun c_7 => ?_) (fun c_7 => ?_)
  · have h := h.2 c_7
    refine wr_lload (pc := 40) (dget kX8_chanceLearned 19 rfl) 1 rfl ?_
    refine wr_lload (pc := 42) (dget kX8_chanceLearned 20 rfl) 0 rfl ?_
    obtain ⟨q_8, h⟩ := h
    refine wr_ldiv (pc := 44) (dget kX8_chanceLearned 21 rfl) q_8 ?_
    exact wr_lret (pc := 45) rfl (dget kX8_chanceLearned 22 rfl) ⟨_, rfl, h⟩
  · have h := h.1 c_7
    refine wr_lload (pc := 35) (dget kX8_chanceLearned 17 rfl) 2 rfl ?_
    refine wr_goto (pc := 37) (tgt := 42) (dget kX8_chanceLearned 18 rfl) (by decide) ?_
    refine wr_lload (pc := 42) (dget kX8_chanceLearned 20 rfl) 0 rfl ?_
    obtain ⟨q_9, h⟩ := h
    refine wr_ldiv (pc := 44) (dget kX8_chanceLearned 21 rfl) q_9 ?_
    exact wr_lret (pc := 45) rfl (dget kX8_chanceLearned 22 rfl) ⟨_, rfl, h⟩
def vX8_learnChances_41 (post : Hp → Prop) (ex : Hp → Prop) (x1 : Int32) (x2 : Int32) : Nat → Int32 → Hp → Prop
  | 0 => fun _ _ => False
  | n + 1 => fun x3 σ => (((σ.1 24 3) ≤ x3 → (ex σ)) ∧ (¬ (σ.1 24 3) ≤ x3 → (vX8_isSet (σ.1 35 12) x3 σ (fun r_3 σ_2 => ((r_3 = 0 → (∀ x3_5 : Int32, x3_5 = x3 + (1 : Int32) → vX8_learnChances_41 post ex x1 x2 n x3_5 σ_2)) ∧ (¬ r_3 = 0 → (vp_in ((x3 * (9 : Int32)) + x2) 108 ∧ (vp_in ((x3 * (9 : Int32)) + x2) 108 ∧ ∀ σ_8 : Hp, σ_8 = wI σ_2 52 (((x3 * (9 : Int32)) + x2)).toNatClampNeg ((σ_2.1 52 (((x3 * (9 : Int32)) + x2)).toNatClampNeg) + (1 : Int32)) → (∀ x3_9 : Int32, x3_9 = x3 + (1 : Int32) → vX8_learnChances_41 post ex x1 x2 n x3_9 σ_8)))))))))
set_option maxHeartbeats 4000000 in
set_option maxRecDepth 100000 in
theorem tX8_learnChances_41 {G : GT} {post : Hp → Prop} {ex : Hp → Prop} {x1 : Int32} {x2 : Int32} (hex : ∀  (τ : Hp), ex  τ → WP G mX8_learnChances 90 [(0, .ref (G.1 0)), (1, .int x1)] [] τ (LV post)) : ∀ (n : Nat) (x3 : Int32) (σ : Hp), vX8_learnChances_41 post ex x1 x2 n x3 σ → WP G mX8_learnChances 41 [(0, .ref (G.1 0)), (1, .int x1), (2, .int x2), (3, .int x3)] [] σ (LV post) := by
  intro n
  induction n with
  | zero => intro x3 σ h; exact False.elim h
  | succ n ih =>
    intro x3 σ h
    simp only [vX8_learnChances_41] at h
    refine wr_iload_n (pc := 41) (dget kX8_learnChances 23 rfl) 3 rfl ?_
    refine wr_aload_n (pc := 42) (dget kX8_learnChances 24 rfl) 0 rfl ?_
    refine wr_getRl (pc := 43) fl_X8_46 kd_0 fk_8_5 rt_0_5 (dget kX8_learnChances 25 rfl) ?_
    refine wr_getRl (pc := 46) fl_X8_118 kd_23 fk_2_1 rt_23_1 (dget kX8_learnChances 26 rfl) ?_
    refine wr_getI (pc := 49) (σ := σ) fl_X8_289 kd_24 fk_5_3 (dget kX8_learnChances 27 rfl) ?_
    refine wr_icmp_ge (pc := 52) (tgt := 90) (dget kX8_learnChances 28 rfl) (by decide) (fun c_1 => ?_) (fun c_1 => ?_)
    · have h := h.1 c_1
      refine wr_sub [0, 1] rfl ?_
      exact hex  _ h
    · have h := h.2 c_1
      refine wr_aload_n (pc := 55) (dget kX8_learnChances 29 rfl) 0 rfl ?_
      refine wr_getRl (pc := 56) fl_X8_50 kd_0 fk_8_6 rt_0_6 (dget kX8_learnChances 30 rfl) ?_
      refine wr_getI (pc := 59) (σ := σ) fl_X8_344 kd_35 fk_2_12 (dget kX8_learnChances 31 rfl) ?_
      refine wr_iload_n (pc := 62) (dget kX8_learnChances 32 rfl) 3 rfl ?_
      refine wr_callSi (pc := 63) (Mc := mX8_isSet) (rest := []) cf_X8_353 cs_X8_isSet ⟨Nat.le_of_ble_eq_true rfl, Nat.le_of_ble_eq_true rfl⟩ rfl rfl (Nat.le_of_ble_eq_true rfl) (dget kX8_learnChances 33 rfl) (tX8_isSet h) (fun r_3 σ_2 h => ?_)
      refine wr_if_eq (pc := 66) (tgt := 84) (dget kX8_learnChances 34 rfl) (by decide) (fun c_4 => ?_) (fun c_4 => ?_)
      · have h := h.1 c_4
        obtain ⟨x3_5, e_x3_5⟩ : ∃ y : Int32, y = x3 + (1 : Int32) := ⟨_, rfl⟩
        have h := h x3_5 e_x3_5
        refine wr_iinc (pc := 84) (v := x3_5) (lv' := [(3, .int x3_5), (0, .ref (G.1 0)), (1, .int x1), (2, .int x2)]) (dget kX8_learnChances 47 rfl) 3 rfl (by rw [e_x3_5, ic_1]) (by decide) rfl ?_
        refine wr_goto (pc := 87) (tgt := 41) (dget kX8_learnChances 48 rfl) (by decide) ?_
        refine wr_sub [1, 2, 3, 0] rfl ?_
        exact ih _ _ h
      · have h := h.2 c_4
        refine wr_aload_n (pc := 69) (dget kX8_learnChances 35 rfl) 0 rfl ?_
        refine wr_getRl (pc := 70) fl_X8_66 kd_0 fk_8_11 rt_0_11 (dget kX8_learnChances 36 rfl) ?_
        refine wr_iload_n (pc := 73) (dget kX8_learnChances 37 rfl) 3 rfl ?_
        refine wr_bipush (pc := 74) (dget kX8_learnChances 38 rfl) bp_9 ?_
        refine wr_imul (pc := 76) (dget kX8_learnChances 39 rfl) ?_
        refine wr_iload_n (pc := 77) (dget kX8_learnChances 40 rfl) 2 rfl ?_
        refine wr_iadd (pc := 78) (dget kX8_learnChances 41 rfl) ?_
        refine wr_dup2_11 (pc := 79) (dget kX8_learnChances 42 rfl) rfl rfl ?_
        obtain ⟨q_6, h⟩ := h
        refine wr_ialdl (pc := 80) (σ := σ_2) il_52 q_6 (dget kX8_learnChances 43 rfl) ?_
        refine wr_iconst (pc := 81) (dget kX8_learnChances 44 rfl) ic_1 ?_
        refine wr_iadd (pc := 82) (dget kX8_learnChances 45 rfl) ?_
        obtain ⟨q_7, h⟩ := h
        refine wr_iastl (pc := 83) il_52 q_7 (dget kX8_learnChances 46 rfl) ?_
        refine wr_tops (fun σ_8 e_σ_8 => ?_)
        have h := h σ_8 e_σ_8
        obtain ⟨x3_9, e_x3_9⟩ : ∃ y : Int32, y = x3 + (1 : Int32) := ⟨_, rfl⟩
        have h := h x3_9 e_x3_9
        refine wr_iinc (pc := 84) (v := x3_9) (lv' := [(3, .int x3_9), (0, .ref (G.1 0)), (1, .int x1), (2, .int x2)]) (dget kX8_learnChances 47 rfl) 3 rfl (by rw [e_x3_9, ic_1]) (by decide) rfl ?_
        refine wr_goto (pc := 87) (tgt := 41) (dget kX8_learnChances 48 rfl) (by decide) ?_
        refine wr_sub [1, 2, 3, 0] rfl ?_
        exact ih _ _ h
def vX8_learnChances_18 (post : Hp → Prop) (ex : Hp → Prop) : Nat → Int32 → Hp → Prop
  | 0 => fun _ _ => False
  | n + 1 => fun x1 σ => (vX1_all  σ (fun r_2 σ_1 => ((r_2 < x1 → (ex σ_1)) ∧ (¬ r_2 < x1 → (vX8_tryEvents x1 σ_1 (fun σ_4 => (vJ6_bitCount_0f7a4 x1 σ_4 (fun r_7 σ_6 => (∃ fu : Nat, vX8_learnChances_41 post (fun σ_8 => (∀ x1_9 : Int32, x1_9 = x1 + (1 : Int32) → vX8_learnChances_18 post ex  n x1_9 σ_8)) x1 r_7 fu (0 : Int32) σ_6)))))))))
set_option maxHeartbeats 4000000 in
set_option maxRecDepth 100000 in
theorem tX8_learnChances_18 {G : GT} {post : Hp → Prop} {ex : Hp → Prop} (hex : ∀  (τ : Hp), ex  τ → WP G mX8_learnChances 96 [(0, .ref (G.1 0))] [] τ (LV post)) : ∀ (n : Nat) (x1 : Int32) (σ : Hp), vX8_learnChances_18 post ex  n x1 σ → WP G mX8_learnChances 18 [(0, .ref (G.1 0)), (1, .int x1)] [] σ (LV post) := by
  intro n
  induction n with
  | zero => intro x1 σ h; exact False.elim h
  | succ n ih =>
    intro x1 σ h
    simp only [vX8_learnChances_18] at h
    refine wr_iload_n (pc := 18) (dget kX8_learnChances 10 rfl) 1 rfl ?_
    refine wr_aload_n (pc := 19) (dget kX8_learnChances 11 rfl) 0 rfl ?_
    refine wr_getRl (pc := 20) fl_X8_25 kd_0 fk_8_2 rt_0_2 (dget kX8_learnChances 12 rfl) ?_
    refine wr_callVi (pc := 23) (Mc := mX1_all) (o := 10) (rest := [.int x1]) cf_X8_321 cv_X1_all kd_10 rfl ⟨Nat.le_of_ble_eq_true rfl, Nat.le_of_ble_eq_true rfl⟩ rfl rfl (Nat.le_of_ble_eq_true rfl) (dget kX8_learnChances 13 rfl) (tX1_all h) (fun r_2 σ_1 h => ?_)
    refine wr_icmp_gt (pc := 26) (tgt := 96) (dget kX8_learnChances 14 rfl) (by decide) (fun c_3 => ?_) (fun c_3 => ?_)
    · have h := h.1 c_3
      refine wr_sub [0] rfl ?_
      exact hex  _ h
    · have h := h.2 c_3
      refine wr_aload_n (pc := 29) (dget kX8_learnChances 15 rfl) 0 rfl ?_
      refine wr_iload_n (pc := 30) (dget kX8_learnChances 16 rfl) 1 rfl ?_
      refine wr_callVv (pc := 31) (Mc := mX8_tryEvents) (o := 0) (rest := []) cf_X8_369 cv_X8_tryEvents kd_0 rfl ⟨Nat.le_of_ble_eq_true rfl, Nat.le_of_ble_eq_true rfl⟩ rfl rfl (Nat.le_of_ble_eq_true rfl) (dget kX8_learnChances 17 rfl) (tX8_tryEvents h) (fun σ_4 h => ?_)
      refine wr_iload_n (pc := 34) (dget kX8_learnChances 18 rfl) 1 rfl ?_
      refine wr_callSi (pc := 35) (Mc := mJ6_bitCount_0f7a4) (rest := []) cf_X8_168 cs_J6_bitCount_0f7a4 ⟨Nat.le_of_ble_eq_true rfl, Nat.le_of_ble_eq_true rfl⟩ rfl rfl (Nat.le_of_ble_eq_true rfl) (dget kX8_learnChances 19 rfl) (tJ6_bitCount_0f7a4 h) (fun r_7 σ_6 h => ?_)
      refine wr_istore_n (pc := 38) (lv' := [(2, .int r_7), (0, .ref (G.1 0)), (1, .int x1)]) (dget kX8_learnChances 20 rfl) (by decide) rfl ?_
      refine wr_iconst (pc := 39) (dget kX8_learnChances 21 rfl) ic_0 ?_
      refine wr_istore_n (pc := 40) (lv' := [(3, .int (0 : Int32)), (2, .int r_7), (0, .ref (G.1 0)), (1, .int x1)]) (dget kX8_learnChances 22 rfl) (by decide) rfl ?_
      obtain ⟨fu, h⟩ := h
      refine wr_sub [2, 3, 1, 0] rfl ?_
      refine tX8_learnChances_41 (fun σ_8 h => ?_) fu _ _ h
      obtain ⟨x1_9, e_x1_9⟩ : ∃ y : Int32, y = x1 + (1 : Int32) := ⟨_, rfl⟩
      have h := h x1_9 e_x1_9
      refine wr_iinc (pc := 90) (v := x1_9) (lv' := [(1, .int x1_9), (0, .ref (G.1 0))]) (dget kX8_learnChances 49 rfl) 1 rfl (by rw [e_x1_9, ic_1]) (by decide) rfl ?_
      refine wr_goto (pc := 93) (tgt := 18) (dget kX8_learnChances 50 rfl) (by decide) ?_
      refine wr_sub [1, 0] rfl ?_
      exact ih _ _ h
def vX8_learnChances (σ : Hp) (post : Hp → Prop) : Prop := (((σ.1 0 10) = 0 → (vJ7_fill_53178 52 (0 : Int32) σ (fun σ_2 => (∃ fu : Nat, vX8_learnChances_18 post (fun σ_4 => (∀ σ_5 : Hp, σ_5 = wI σ_4 0 10 (1 : Int32) → post σ_5))  fu (0 : Int32) σ_2)))) ∧ (¬ (σ.1 0 10) = 0 → post σ))
set_option maxHeartbeats 4000000 in
set_option maxRecDepth 100000 in
theorem tX8_learnChances {G : GT} {σ : Hp} {post : Hp → Prop} (h : vX8_learnChances  σ post) : CT G mX8_learnChances [.ref (G.1 0)] σ (LV post) := by
  refine CT.of (by decide +kernel) (Nat.le_of_ble_eq_true rfl) ?_
  show WP G mX8_learnChances 0 [(0, .ref (G.1 0))] [] σ (LV post)
  unfold vX8_learnChances at h
  refine wr_aload_n (pc := 0) (dget kX8_learnChances 0 rfl) 0 rfl ?_
  refine wr_getI (pc := 1) (σ := σ) fl_X8_338 kd_0 fk_8_10 (dget kX8_learnChances 1 rfl) ?_
  refine wr_if_eq (pc := 4) (tgt := 8) (dget kX8_learnChances 2 rfl) (by decide) (fun c_1 => ?_) (fun c_1 => ?_)
  · have h := h.1 c_1
    refine wr_aload_n (pc := 8) (dget kX8_learnChances 4 rfl) 0 rfl ?_
    refine wr_getRl (pc := 9) fl_X8_66 kd_0 fk_8_11 rt_0_11 (dget kX8_learnChances 5 rfl) ?_
    refine wr_iconst (pc := 12) (dget kX8_learnChances 6 rfl) ic_0 ?_
    refine wr_callSv (pc := 13) (Mc := mJ7_fill_53178) (rest := []) cf_X8_391 cs_J7_fill_53178 ⟨Nat.le_of_ble_eq_true rfl, Nat.le_of_ble_eq_true rfl⟩ rfl rfl (Nat.le_of_ble_eq_true rfl) (dget kX8_learnChances 7 rfl) (tJ7_fill_53178 h) (fun σ_2 h => ?_)
    refine wr_iconst (pc := 16) (dget kX8_learnChances 8 rfl) ic_0 ?_
    refine wr_istore_n (pc := 17) (lv' := [(1, .int (0 : Int32)), (0, .ref (G.1 0))]) (dget kX8_learnChances 9 rfl) (by decide) rfl ?_
    obtain ⟨fu, h⟩ := h
    refine wr_sub [1, 0] rfl ?_
    refine tX8_learnChances_18 (fun σ_4 h => ?_) fu _ _ h
    refine wr_aload_n (pc := 96) (dget kX8_learnChances 51 rfl) 0 rfl ?_
    refine wr_iconst (pc := 97) (dget kX8_learnChances 52 rfl) ic_1 ?_
    refine wr_putI (pc := 98) fl_X8_338 kd_0 fk_8_10 (by decide) (by decide) (dget kX8_learnChances 53 rfl) ?_
    refine wr_tops (fun σ_5 e_σ_5 => ?_)
    have h := h σ_5 e_σ_5
    exact wr_vret (pc := 101) rfl (dget kX8_learnChances 54 rfl) ⟨rfl, h⟩
  · have h := h.2 c_1
    exact wr_vret (pc := 7) rfl (dget kX8_learnChances 3 rfl) ⟨rfl, h⟩
def vX8_chance (p1 : Int32) (p2 : Int32) (p3 : Int32) (σ : Hp) (post : Int64 → Hp → Prop) : Prop := (vX8_settle  σ (fun σ_1 => (vX8_within p1 (17 : Int32) σ_1 (fun r_4 σ_3 => ((r_4 = 0 → post (-9223372036854775806 : Int64) σ_3) ∧ (¬ r_4 = 0 → (vX8_isShot p2 σ_3 (fun r_7 σ_6 => ((r_7 = 0 → post (-9223372036854775806 : Int64) σ_6) ∧ (¬ r_7 = 0 → (vX8_within p3 (2 : Int32) σ_6 (fun r_10 σ_9 => ((r_10 = 0 → post (-9223372036854775806 : Int64) σ_9) ∧ (¬ r_10 = 0 → (vX8_learnChances  σ_9 (fun σ_12 => (vX8_chanceLearned p1 p2 p3 σ_12 (fun r_15 σ_14 => post r_15 σ_14))))))))))))))))))
set_option maxHeartbeats 4000000 in
set_option maxRecDepth 100000 in
theorem tX8_chance {G : GT} {p1 : Int32} {p2 : Int32} {p3 : Int32} {σ : Hp} {post : Int64 → Hp → Prop} (h : vX8_chance p1 p2 p3 σ post) : CT G mX8_chance [.ref (G.1 0), .int p1, .int p2, .int p3] σ (LL post) := by
  refine CT.of (by decide +kernel) (Nat.le_of_ble_eq_true rfl) ?_
  show WP G mX8_chance 0 [(0, .ref (G.1 0)), (1, .int p1), (2, .int p2), (3, .int p3)] [] σ (LL post)
  unfold vX8_chance at h
  refine wr_aload_n (pc := 0) (dget kX8_chance 0 rfl) 0 rfl ?_
  refine wr_callVv (pc := 1) (Mc := mX8_settle) (o := 0) (rest := []) cf_X8_97 cv_X8_settle kd_0 rfl ⟨Nat.le_of_ble_eq_true rfl, Nat.le_of_ble_eq_true rfl⟩ rfl rfl (Nat.le_of_ble_eq_true rfl) (dget kX8_chance 1 rfl) (tX8_settle h) (fun σ_1 h => ?_)
  refine wr_iload_n (pc := 4) (dget kX8_chance 2 rfl) 1 rfl ?_
  refine wr_bipush (pc := 5) (dget kX8_chance 3 rfl) bp_17 ?_
  refine wr_callSi (pc := 7) (Mc := mX8_within) (rest := []) cf_X8_77 cs_X8_within ⟨Nat.le_of_ble_eq_true rfl, Nat.le_of_ble_eq_true rfl⟩ rfl rfl (Nat.le_of_ble_eq_true rfl) (dget kX8_chance 4 rfl) (tX8_within h) (fun r_4 σ_3 h => ?_)
  refine wr_if_eq (pc := 10) (tgt := 29) (dget kX8_chance 5 rfl) (by decide) (fun c_5 => ?_) (fun c_5 => ?_)
  · have h := h.1 c_5
    refine wr_ldc2 (pc := 29) kl_X8_225 (dget kX8_chance 14 rfl) ?_
    exact wr_lret (pc := 32) rfl (dget kX8_chance 15 rfl) ⟨_, rfl, h⟩
  · have h := h.2 c_5
    refine wr_aload_n (pc := 13) (dget kX8_chance 6 rfl) 0 rfl ?_
    refine wr_iload_n (pc := 14) (dget kX8_chance 7 rfl) 2 rfl ?_
    refine wr_callVi (pc := 15) (Mc := mX8_isShot) (o := 0) (rest := []) cf_X8_115 cv_X8_isShot kd_0 rfl ⟨Nat.le_of_ble_eq_true rfl, Nat.le_of_ble_eq_true rfl⟩ rfl rfl (Nat.le_of_ble_eq_true rfl) (dget kX8_chance 8 rfl) (tX8_isShot h) (fun r_7 σ_6 h => ?_)
    refine wr_if_eq (pc := 18) (tgt := 29) (dget kX8_chance 9 rfl) (by decide) (fun c_8 => ?_) (fun c_8 => ?_)
    · have h := h.1 c_8
      refine wr_ldc2 (pc := 29) kl_X8_225 (dget kX8_chance 14 rfl) ?_
      exact wr_lret (pc := 32) rfl (dget kX8_chance 15 rfl) ⟨_, rfl, h⟩
    · have h := h.2 c_8
      refine wr_iload_n (pc := 21) (dget kX8_chance 10 rfl) 3 rfl ?_
      refine wr_iconst (pc := 22) (dget kX8_chance 11 rfl) ic_2 ?_
      refine wr_callSi (pc := 23) (Mc := mX8_within) (rest := []) cf_X8_77 cs_X8_within ⟨Nat.le_of_ble_eq_true rfl, Nat.le_of_ble_eq_true rfl⟩ rfl rfl (Nat.le_of_ble_eq_true rfl) (dget kX8_chance 12 rfl) (tX8_within h) (fun r_10 σ_9 h => ?_)
      refine wr_if_ne (pc := 26) (tgt := 33) (dget kX8_chance 13 rfl) (by decide) (fun c_11 => ?_) (fun c_11 => ?_)
      · have h := h.2 c_11
        refine wr_aload_n (pc := 33) (dget kX8_chance 16 rfl) 0 rfl ?_
        refine wr_callVv (pc := 34) (Mc := mX8_learnChances) (o := 0) (rest := []) cf_X8_227 cv_X8_learnChances kd_0 rfl ⟨Nat.le_of_ble_eq_true rfl, Nat.le_of_ble_eq_true rfl⟩ rfl rfl (Nat.le_of_ble_eq_true rfl) (dget kX8_chance 17 rfl) (tX8_learnChances h) (fun σ_12 h => ?_)
        refine wr_aload_n (pc := 37) (dget kX8_chance 18 rfl) 0 rfl ?_
        refine wr_iload_n (pc := 38) (dget kX8_chance 19 rfl) 1 rfl ?_
        refine wr_iload_n (pc := 39) (dget kX8_chance 20 rfl) 2 rfl ?_
        refine wr_iload_n (pc := 40) (dget kX8_chance 21 rfl) 3 rfl ?_
        refine wr_callVl (pc := 41) (Mc := mX8_chanceLearned) (o := 0) (rest := []) cf_X8_230 cv_X8_chanceLearned kd_0 rfl ⟨Nat.le_of_ble_eq_true rfl, Nat.le_of_ble_eq_true rfl⟩ rfl rfl (Nat.le_of_ble_eq_true rfl) (dget kX8_chance 22 rfl) (tX8_chanceLearned h) (fun r_15 σ_14 h => ?_)
        exact wr_lret (pc := 44) rfl (dget kX8_chance 23 rfl) ⟨_, rfl, h⟩
      · have h := h.1 c_11
        refine wr_ldc2 (pc := 29) kl_X8_225 (dget kX8_chance 14 rfl) ?_
        exact wr_lret (pc := 32) rfl (dget kX8_chance 15 rfl) ⟨_, rfl, h⟩
def vX8_tryFair (p1 : Int32) (p2 : Int32) (σ : Hp) (post : Hp → Prop) : Prop := (vX2_takeFrom 35 23 σ (fun σ_1 => (vX5_draw 36 p1 p2 σ_1 (fun σ_3 => (vX2_play 35 σ_3 (fun σ_5 => post σ_5))))))
set_option maxHeartbeats 4000000 in
set_option maxRecDepth 100000 in
theorem tX8_tryFair {G : GT} {p1 : Int32} {p2 : Int32} {σ : Hp} {post : Hp → Prop} (h : vX8_tryFair p1 p2 σ post) : CT G mX8_tryFair [.ref (G.1 0), .int p1, .int p2] σ (LV post) := by
  refine CT.of (by decide +kernel) (Nat.le_of_ble_eq_true rfl) ?_
  show WP G mX8_tryFair 0 [(0, .ref (G.1 0)), (1, .int p1), (2, .int p2)] [] σ (LV post)
  unfold vX8_tryFair at h
  refine wr_aload_n (pc := 0) (dget kX8_tryFair 0 rfl) 0 rfl ?_
  refine wr_getRl (pc := 1) fl_X8_50 kd_0 fk_8_6 rt_0_6 (dget kX8_tryFair 1 rfl) ?_
  refine wr_aload_n (pc := 4) (dget kX8_tryFair 2 rfl) 0 rfl ?_
  refine wr_getRl (pc := 5) fl_X8_46 kd_0 fk_8_5 rt_0_5 (dget kX8_tryFair 3 rfl) ?_
  refine wr_callVv (pc := 8) (Mc := mX2_takeFrom) (o := 35) (rest := []) cf_X8_356 cv_X2_takeFrom kd_35 rfl ⟨Nat.le_of_ble_eq_true rfl, Nat.le_of_ble_eq_true rfl⟩ rfl rfl (Nat.le_of_ble_eq_true rfl) (dget kX8_tryFair 4 rfl) (tX2_takeFrom h) (fun σ_1 h => ?_)
  refine wr_aload_n (pc := 11) (dget kX8_tryFair 5 rfl) 0 rfl ?_
  refine wr_getRl (pc := 12) fl_X8_50 kd_0 fk_8_6 rt_0_6 (dget kX8_tryFair 6 rfl) ?_
  refine wr_getRl (pc := 15) fl_X8_118 kd_35 fk_2_1 rt_35_1 (dget kX8_tryFair 7 rfl) ?_
  refine wr_iload_n (pc := 18) (dget kX8_tryFair 8 rfl) 1 rfl ?_
  refine wr_iload_n (pc := 19) (dget kX8_tryFair 9 rfl) 2 rfl ?_
  refine wr_callVv (pc := 20) (Mc := mX5_draw) (o := 36) (rest := []) cf_X8_409 cv_X5_draw kd_36 rfl ⟨Nat.le_of_ble_eq_true rfl, Nat.le_of_ble_eq_true rfl⟩ rfl rfl (Nat.le_of_ble_eq_true rfl) (dget kX8_tryFair 10 rfl) (tX5_draw h) (fun σ_3 h => ?_)
  refine wr_aload_n (pc := 23) (dget kX8_tryFair 11 rfl) 0 rfl ?_
  refine wr_getRl (pc := 24) fl_X8_50 kd_0 fk_8_6 rt_0_6 (dget kX8_tryFair 12 rfl) ?_
  refine wr_callVv (pc := 27) (Mc := mX2_play) (o := 35) (rest := []) cf_X8_335 cv_X2_play kd_35 rfl ⟨Nat.le_of_ble_eq_true rfl, Nat.le_of_ble_eq_true rfl⟩ rfl rfl (Nat.le_of_ble_eq_true rfl) (dget kX8_tryFair 13 rfl) (tX2_play h) (fun σ_5 h => ?_)
  exact wr_vret (pc := 30) rfl (dget kX8_tryFair 14 rfl) ⟨rfl, h⟩
def vX8_fairs (p1 : Int32) (p2 : Int32) (p3 : Int32) (σ : Hp) (post : Int32 → Hp → Prop) : Prop := (vX8_within p2 (13 : Int32) σ (fun r_2 σ_1 => ((r_2 = 0 → post (-2 : Int32) σ_1) ∧ (¬ r_2 = 0 → (vX8_within p3 (2 : Int32) σ_1 (fun r_5 σ_4 => ((r_5 = 0 → post (-2 : Int32) σ_4) ∧ (¬ r_5 = 0 → (vX8_settle  σ_4 (fun σ_7 => (vX8_tryFair p1 p2 σ_7 (fun σ_9 => (vX2_tellSum 35 p3 σ_9 (fun r_12 σ_11 => post r_12 σ_11))))))))))))))
set_option maxHeartbeats 4000000 in
set_option maxRecDepth 100000 in
theorem tX8_fairs {G : GT} {p1 : Int32} {p2 : Int32} {p3 : Int32} {σ : Hp} {post : Int32 → Hp → Prop} (h : vX8_fairs p1 p2 p3 σ post) : CT G mX8_fairs [.ref (G.1 0), .int p1, .int p2, .int p3] σ (LI post) := by
  refine CT.of (by decide +kernel) (Nat.le_of_ble_eq_true rfl) ?_
  show WP G mX8_fairs 0 [(0, .ref (G.1 0)), (1, .int p1), (2, .int p2), (3, .int p3)] [] σ (LI post)
  unfold vX8_fairs at h
  refine wr_iload_n (pc := 0) (dget kX8_fairs 0 rfl) 2 rfl ?_
  refine wr_bipush (pc := 1) (dget kX8_fairs 1 rfl) bp_13 ?_
  refine wr_callSi (pc := 3) (Mc := mX8_within) (rest := []) cf_X8_77 cs_X8_within ⟨Nat.le_of_ble_eq_true rfl, Nat.le_of_ble_eq_true rfl⟩ rfl rfl (Nat.le_of_ble_eq_true rfl) (dget kX8_fairs 2 rfl) (tX8_within h) (fun r_2 σ_1 h => ?_)
  refine wr_if_eq (pc := 6) (tgt := 17) (dget kX8_fairs 3 rfl) (by decide) (fun c_3 => ?_) (fun c_3 => ?_)
  · have h := h.1 c_3
    refine wr_bipush (pc := 17) (dget kX8_fairs 8 rfl) bp_m2 ?_
    exact wr_iret (pc := 19) rfl (dget kX8_fairs 9 rfl) ⟨_, rfl, h⟩
  · have h := h.2 c_3
    refine wr_iload_n (pc := 9) (dget kX8_fairs 4 rfl) 3 rfl ?_
    refine wr_iconst (pc := 10) (dget kX8_fairs 5 rfl) ic_2 ?_
    refine wr_callSi (pc := 11) (Mc := mX8_within) (rest := []) cf_X8_77 cs_X8_within ⟨Nat.le_of_ble_eq_true rfl, Nat.le_of_ble_eq_true rfl⟩ rfl rfl (Nat.le_of_ble_eq_true rfl) (dget kX8_fairs 6 rfl) (tX8_within h) (fun r_5 σ_4 h => ?_)
    refine wr_if_ne (pc := 14) (tgt := 20) (dget kX8_fairs 7 rfl) (by decide) (fun c_6 => ?_) (fun c_6 => ?_)
    · have h := h.2 c_6
      refine wr_aload_n (pc := 20) (dget kX8_fairs 10 rfl) 0 rfl ?_
      refine wr_callVv (pc := 21) (Mc := mX8_settle) (o := 0) (rest := []) cf_X8_97 cv_X8_settle kd_0 rfl ⟨Nat.le_of_ble_eq_true rfl, Nat.le_of_ble_eq_true rfl⟩ rfl rfl (Nat.le_of_ble_eq_true rfl) (dget kX8_fairs 11 rfl) (tX8_settle h) (fun σ_7 h => ?_)
      refine wr_aload_n (pc := 24) (dget kX8_fairs 12 rfl) 0 rfl ?_
      refine wr_iload_n (pc := 25) (dget kX8_fairs 13 rfl) 1 rfl ?_
      refine wr_iload_n (pc := 26) (dget kX8_fairs 14 rfl) 2 rfl ?_
      refine wr_callVv (pc := 27) (Mc := mX8_tryFair) (o := 0) (rest := []) cf_X8_234 cv_X8_tryFair kd_0 rfl ⟨Nat.le_of_ble_eq_true rfl, Nat.le_of_ble_eq_true rfl⟩ rfl rfl (Nat.le_of_ble_eq_true rfl) (dget kX8_fairs 15 rfl) (tX8_tryFair h) (fun σ_9 h => ?_)
      refine wr_aload_n (pc := 30) (dget kX8_fairs 16 rfl) 0 rfl ?_
      refine wr_getRl (pc := 31) fl_X8_50 kd_0 fk_8_6 rt_0_6 (dget kX8_fairs 17 rfl) ?_
      refine wr_iload_n (pc := 34) (dget kX8_fairs 18 rfl) 3 rfl ?_
      refine wr_callVi (pc := 35) (Mc := mX2_tellSum) (o := 35) (rest := []) cf_X8_176 cv_X2_tellSum kd_35 rfl ⟨Nat.le_of_ble_eq_true rfl, Nat.le_of_ble_eq_true rfl⟩ rfl rfl (Nat.le_of_ble_eq_true rfl) (dget kX8_fairs 19 rfl) (tX2_tellSum h) (fun r_12 σ_11 h => ?_)
      exact wr_iret (pc := 38) rfl (dget kX8_fairs 20 rfl) ⟨_, rfl, h⟩
    · have h := h.1 c_6
      refine wr_bipush (pc := 17) (dget kX8_fairs 8 rfl) bp_m2 ?_
      exact wr_iret (pc := 19) rfl (dget kX8_fairs 9 rfl) ⟨_, rfl, h⟩
def vX8_sheet (p1 : Int32) (p2 : Int32) (p3 : Int32) (σ : Hp) (post : Int32 → Hp → Prop) : Prop := (vX8_within p1 (4 : Int32) σ (fun r_2 σ_1 => ((r_2 = 0 → post (-2 : Int32) σ_1) ∧ (¬ r_2 = 0 → (vX8_within p2 (3 : Int32) σ_1 (fun r_5 σ_4 => ((r_5 = 0 → post (-2 : Int32) σ_4) ∧ (¬ r_5 = 0 → ((p3 ≤ (60 : Int32) → ((0 ≤ p3 → (vp_in p1 4 ∧ (kd (rt 51 p1.toNatClampNeg) = 4 ∧ (vX4_begin (rt 51 p1.toNatClampNeg) p2 p3 σ_4 (fun σ_11 => post p3 σ_11))))) ∧ (¬ 0 ≤ p3 → (vX8_finding (5 : Int32) σ_4 (fun r_14 σ_13 => post r_14 σ_13))))) ∧ (¬ p3 ≤ (60 : Int32) → post (-2 : Int32) σ_4))))))))))
set_option maxHeartbeats 4000000 in
set_option maxRecDepth 100000 in
theorem tX8_sheet {G : GT} {p1 : Int32} {p2 : Int32} {p3 : Int32} {σ : Hp} {post : Int32 → Hp → Prop} (h : vX8_sheet p1 p2 p3 σ post) : CT G mX8_sheet [.ref (G.1 0), .int p1, .int p2, .int p3] σ (LI post) := by
  refine CT.of (by decide +kernel) (Nat.le_of_ble_eq_true rfl) ?_
  show WP G mX8_sheet 0 [(0, .ref (G.1 0)), (1, .int p1), (2, .int p2), (3, .int p3)] [] σ (LI post)
  unfold vX8_sheet at h
  refine wr_iload_n (pc := 0) (dget kX8_sheet 0 rfl) 1 rfl ?_
  refine wr_iconst (pc := 1) (dget kX8_sheet 1 rfl) ic_4 ?_
  refine wr_callSi (pc := 2) (Mc := mX8_within) (rest := []) cf_X8_77 cs_X8_within ⟨Nat.le_of_ble_eq_true rfl, Nat.le_of_ble_eq_true rfl⟩ rfl rfl (Nat.le_of_ble_eq_true rfl) (dget kX8_sheet 2 rfl) (tX8_within h) (fun r_2 σ_1 h => ?_)
  refine wr_if_eq (pc := 5) (tgt := 22) (dget kX8_sheet 3 rfl) (by decide) (fun c_3 => ?_) (fun c_3 => ?_)
  · have h := h.1 c_3
    refine wr_bipush (pc := 22) (dget kX8_sheet 11 rfl) bp_m2 ?_
    exact wr_iret (pc := 24) rfl (dget kX8_sheet 12 rfl) ⟨_, rfl, h⟩
  · have h := h.2 c_3
    refine wr_iload_n (pc := 8) (dget kX8_sheet 4 rfl) 2 rfl ?_
    refine wr_iconst (pc := 9) (dget kX8_sheet 5 rfl) ic_3 ?_
    refine wr_callSi (pc := 10) (Mc := mX8_within) (rest := []) cf_X8_77 cs_X8_within ⟨Nat.le_of_ble_eq_true rfl, Nat.le_of_ble_eq_true rfl⟩ rfl rfl (Nat.le_of_ble_eq_true rfl) (dget kX8_sheet 6 rfl) (tX8_within h) (fun r_5 σ_4 h => ?_)
    refine wr_if_eq (pc := 13) (tgt := 22) (dget kX8_sheet 7 rfl) (by decide) (fun c_6 => ?_) (fun c_6 => ?_)
    · have h := h.1 c_6
      refine wr_bipush (pc := 22) (dget kX8_sheet 11 rfl) bp_m2 ?_
      exact wr_iret (pc := 24) rfl (dget kX8_sheet 12 rfl) ⟨_, rfl, h⟩
    · have h := h.2 c_6
      refine wr_iload_n (pc := 16) (dget kX8_sheet 8 rfl) 3 rfl ?_
      refine wr_bipush (pc := 17) (dget kX8_sheet 9 rfl) bp_60 ?_
      refine wr_icmp_le (pc := 19) (tgt := 25) (dget kX8_sheet 10 rfl) (by decide) (fun c_7 => ?_) (fun c_7 => ?_)
      · have h := h.1 c_7
        refine wr_iload_n (pc := 25) (dget kX8_sheet 13 rfl) 3 rfl ?_
        refine wr_if_ge (pc := 26) (tgt := 35) (dget kX8_sheet 14 rfl) (by decide) (fun c_8 => ?_) (fun c_8 => ?_)
        · have h := h.1 c_8
          refine wr_aload_n (pc := 35) (dget kX8_sheet 19 rfl) 0 rfl ?_
          refine wr_getRl (pc := 36) fl_X8_62 kd_0 fk_8_8 rt_0_8 (dget kX8_sheet 20 rfl) ?_
          refine wr_iload_n (pc := 39) (dget kX8_sheet 21 rfl) 1 rfl ?_
          obtain ⟨q_9, h⟩ := h
          refine wr_aaldl (pc := 40) (σ := σ_4) rl_51 q_9 (dget kX8_sheet 22 rfl) ?_
          refine wr_iload_n (pc := 41) (dget kX8_sheet 23 rfl) 2 rfl ?_
          refine wr_iload_n (pc := 42) (dget kX8_sheet 24 rfl) 3 rfl ?_
          obtain ⟨q_10, h⟩ := h
          refine wr_callVv (pc := 43) (Mc := mX4_begin) (o := (rt 51 p1.toNatClampNeg)) (rest := []) cf_X8_241 cv_X4_begin q_10 rfl ⟨Nat.le_of_ble_eq_true rfl, Nat.le_of_ble_eq_true rfl⟩ rfl rfl (Nat.le_of_ble_eq_true rfl) (dget kX8_sheet 25 rfl) (tX4_begin h) (fun σ_11 h => ?_)
          refine wr_iload_n (pc := 46) (dget kX8_sheet 26 rfl) 3 rfl ?_
          exact wr_iret (pc := 47) rfl (dget kX8_sheet 27 rfl) ⟨_, rfl, h⟩
        · have h := h.2 c_8
          refine wr_aload_n (pc := 29) (dget kX8_sheet 15 rfl) 0 rfl ?_
          refine wr_iconst (pc := 30) (dget kX8_sheet 16 rfl) ic_5 ?_
          refine wr_callVi (pc := 31) (Mc := mX8_finding) (o := 0) (rest := []) cf_X8_238 cv_X8_finding kd_0 rfl ⟨Nat.le_of_ble_eq_true rfl, Nat.le_of_ble_eq_true rfl⟩ rfl rfl (Nat.le_of_ble_eq_true rfl) (dget kX8_sheet 17 rfl) (tX8_finding h) (fun r_14 σ_13 h => ?_)
          exact wr_iret (pc := 34) rfl (dget kX8_sheet 18 rfl) ⟨_, rfl, h⟩
      · have h := h.2 c_7
        refine wr_bipush (pc := 22) (dget kX8_sheet 11 rfl) bp_m2 ?_
        exact wr_iret (pc := 24) rfl (dget kX8_sheet 12 rfl) ⟨_, rfl, h⟩
def vX8_lose (p1 : Int32) (σ : Hp) (post : Int32 → Hp → Prop) : Prop := (vX8_refuseSheet p1 σ (fun r_2 σ_1 => ((r_2 = 0 → (vp_in p1 4 ∧ (kd (rt 51 p1.toNatClampNeg) = 4 ∧ (∀ σ_6 : Hp, σ_6 = wI σ_1 (rt 51 p1.toNatClampNeg) 3 (1 : Int32) → (vp_in p1 4 ∧ post (σ_6.1 (rt 51 p1.toNatClampNeg) 2) σ_6))))) ∧ (¬ r_2 = 0 → post r_2 σ_1))))
set_option maxHeartbeats 4000000 in
set_option maxRecDepth 100000 in
theorem tX8_lose {G : GT} {p1 : Int32} {σ : Hp} {post : Int32 → Hp → Prop} (h : vX8_lose p1 σ post) : CT G mX8_lose [.ref (G.1 0), .int p1] σ (LI post) := by
  refine CT.of (by decide +kernel) (Nat.le_of_ble_eq_true rfl) ?_
  show WP G mX8_lose 0 [(0, .ref (G.1 0)), (1, .int p1)] [] σ (LI post)
  unfold vX8_lose at h
  refine wr_aload_n (pc := 0) (dget kX8_lose 0 rfl) 0 rfl ?_
  refine wr_iload_n (pc := 1) (dget kX8_lose 1 rfl) 1 rfl ?_
  refine wr_callVi (pc := 2) (Mc := mX8_refuseSheet) (o := 0) (rest := []) cf_X8_147 cv_X8_refuseSheet kd_0 rfl ⟨Nat.le_of_ble_eq_true rfl, Nat.le_of_ble_eq_true rfl⟩ rfl rfl (Nat.le_of_ble_eq_true rfl) (dget kX8_lose 2 rfl) (tX8_refuseSheet h) (fun r_2 σ_1 h => ?_)
  refine wr_istore_n (pc := 5) (lv' := [(2, .int r_2), (0, .ref (G.1 0)), (1, .int p1)]) (dget kX8_lose 3 rfl) (by decide) rfl ?_
  refine wr_iload_n (pc := 6) (dget kX8_lose 4 rfl) 0 rfl ?_
  refine wr_if_eq (pc := 7) (tgt := 12) (dget kX8_lose 5 rfl) (by decide) (fun c_3 => ?_) (fun c_3 => ?_)
  · have h := h.1 c_3
    refine wr_aload_n (pc := 12) (dget kX8_lose 8 rfl) 1 rfl ?_
    refine wr_getRl (pc := 13) fl_X8_62 kd_0 fk_8_8 rt_0_8 (dget kX8_lose 9 rfl) ?_
    refine wr_iload_n (pc := 16) (dget kX8_lose 10 rfl) 2 rfl ?_
    obtain ⟨q_4, h⟩ := h
    refine wr_aaldl (pc := 17) (σ := σ_1) rl_51 q_4 (dget kX8_lose 11 rfl) ?_
    refine wr_iconst (pc := 18) (dget kX8_lose 12 rfl) ic_1 ?_
    obtain ⟨q_5, h⟩ := h
    refine wr_putI (pc := 19) fl_X8_244 q_5 fk_4_3 (by decide) (by decide) (dget kX8_lose 13 rfl) ?_
    refine wr_tops (fun σ_6 e_σ_6 => ?_)
    have h := h σ_6 e_σ_6
    refine wr_aload_n (pc := 22) (dget kX8_lose 14 rfl) 1 rfl ?_
    refine wr_getRl (pc := 23) fl_X8_62 kd_0 fk_8_8 rt_0_8 (dget kX8_lose 15 rfl) ?_
    refine wr_iload_n (pc := 26) (dget kX8_lose 16 rfl) 2 rfl ?_
    obtain ⟨q_7, h⟩ := h
    refine wr_aaldl (pc := 27) (σ := σ_6) rl_51 q_7 (dget kX8_lose 17 rfl) ?_
    refine wr_getI (pc := 28) (σ := σ_6) fl_X8_151 q_5 fk_4_2 (dget kX8_lose 18 rfl) ?_
    exact wr_iret (pc := 31) rfl (dget kX8_lose 19 rfl) ⟨_, rfl, h⟩
  · have h := h.2 c_3
    refine wr_iload_n (pc := 10) (dget kX8_lose 6 rfl) 0 rfl ?_
    exact wr_iret (pc := 11) rfl (dget kX8_lose 7 rfl) ⟨_, rfl, h⟩
def vX8_refuseItem (p1 : Int32) (p2 : Int32) (p3 : Int32) (σ : Hp) (post : Int32 → Hp → Prop) : Prop := (vX8_within p2 (3 : Int32) σ (fun r_2 σ_1 => ((r_2 = 0 → post (-2 : Int32) σ_1) ∧ (¬ r_2 = 0 → (vX8_refuseSheet p1 σ_1 (fun r_5 σ_4 => ((r_5 = 0 → (vp_in p1 4 ∧ (kd (rt 51 p1.toNatClampNeg) = 4 ∧ (((σ_4.1 (rt 51 p1.toNatClampNeg) 1) = p2 → (vp_in p1 4 ∧ (vX8_within p3 (σ_4.1 (rt 51 p1.toNatClampNeg) 2) σ_4 (fun r_12 σ_11 => ((r_12 = 0 → (vX8_finding (2 : Int32) σ_11 (fun r_15 σ_14 => post r_15 σ_14))) ∧ (¬ r_12 = 0 → post (0 : Int32) σ_11)))))) ∧ (¬ (σ_4.1 (rt 51 p1.toNatClampNeg) 1) = p2 → (vX8_finding (3 : Int32) σ_4 (fun r_17 σ_16 => post r_17 σ_16))))))) ∧ (¬ r_5 = 0 → post r_5 σ_4))))))))
set_option maxHeartbeats 4000000 in
set_option maxRecDepth 100000 in
theorem tX8_refuseItem {G : GT} {p1 : Int32} {p2 : Int32} {p3 : Int32} {σ : Hp} {post : Int32 → Hp → Prop} (h : vX8_refuseItem p1 p2 p3 σ post) : CT G mX8_refuseItem [.ref (G.1 0), .int p1, .int p2, .int p3] σ (LI post) := by
  refine CT.of (by decide +kernel) (Nat.le_of_ble_eq_true rfl) ?_
  show WP G mX8_refuseItem 0 [(0, .ref (G.1 0)), (1, .int p1), (2, .int p2), (3, .int p3)] [] σ (LI post)
  unfold vX8_refuseItem at h
  refine wr_iload_n (pc := 0) (dget kX8_refuseItem 0 rfl) 2 rfl ?_
  refine wr_iconst (pc := 1) (dget kX8_refuseItem 1 rfl) ic_3 ?_
  refine wr_callSi (pc := 2) (Mc := mX8_within) (rest := []) cf_X8_77 cs_X8_within ⟨Nat.le_of_ble_eq_true rfl, Nat.le_of_ble_eq_true rfl⟩ rfl rfl (Nat.le_of_ble_eq_true rfl) (dget kX8_refuseItem 2 rfl) (tX8_within h) (fun r_2 σ_1 h => ?_)
  refine wr_if_ne (pc := 5) (tgt := 11) (dget kX8_refuseItem 3 rfl) (by decide) (fun c_3 => ?_) (fun c_3 => ?_)
  · have h := h.2 c_3
    refine wr_aload_n (pc := 11) (dget kX8_refuseItem 6 rfl) 0 rfl ?_
    refine wr_iload_n (pc := 12) (dget kX8_refuseItem 7 rfl) 1 rfl ?_
    refine wr_callVi (pc := 13) (Mc := mX8_refuseSheet) (o := 0) (rest := []) cf_X8_147 cv_X8_refuseSheet kd_0 rfl ⟨Nat.le_of_ble_eq_true rfl, Nat.le_of_ble_eq_true rfl⟩ rfl rfl (Nat.le_of_ble_eq_true rfl) (dget kX8_refuseItem 8 rfl) (tX8_refuseSheet h) (fun r_5 σ_4 h => ?_)
    refine wr_istore (pc := 16) (lv' := [(4, .int r_5), (0, .ref (G.1 0)), (1, .int p1), (2, .int p2), (3, .int p3)]) (dget kX8_refuseItem 9 rfl) (by decide) rfl ?_
    refine wr_iload (pc := 18) (dget kX8_refuseItem 10 rfl) 0 rfl ?_
    refine wr_if_eq (pc := 20) (tgt := 26) (dget kX8_refuseItem 11 rfl) (by decide) (fun c_6 => ?_) (fun c_6 => ?_)
    · have h := h.1 c_6
      refine wr_aload_n (pc := 26) (dget kX8_refuseItem 14 rfl) 1 rfl ?_
      refine wr_getRl (pc := 27) fl_X8_62 kd_0 fk_8_8 rt_0_8 (dget kX8_refuseItem 15 rfl) ?_
      refine wr_iload_n (pc := 30) (dget kX8_refuseItem 16 rfl) 2 rfl ?_
      obtain ⟨q_7, h⟩ := h
      refine wr_aaldl (pc := 31) (σ := σ_4) rl_51 q_7 (dget kX8_refuseItem 17 rfl) ?_
      obtain ⟨q_8, h⟩ := h
      refine wr_getI (pc := 32) (σ := σ_4) fl_X8_253 q_8 fk_4_1 (dget kX8_refuseItem 18 rfl) ?_
      refine wr_iload_n (pc := 35) (dget kX8_refuseItem 19 rfl) 3 rfl ?_
      refine wr_icmp_eq (pc := 36) (tgt := 45) (dget kX8_refuseItem 20 rfl) (by decide) (fun c_9 => ?_) (fun c_9 => ?_)
      · have h := h.1 c_9
        refine wr_iload_n (pc := 45) (dget kX8_refuseItem 25 rfl) 4 rfl ?_
        refine wr_aload_n (pc := 46) (dget kX8_refuseItem 26 rfl) 1 rfl ?_
        refine wr_getRl (pc := 47) fl_X8_62 kd_0 fk_8_8 rt_0_8 (dget kX8_refuseItem 27 rfl) ?_
        refine wr_iload_n (pc := 50) (dget kX8_refuseItem 28 rfl) 2 rfl ?_
        obtain ⟨q_10, h⟩ := h
        refine wr_aaldl (pc := 51) (σ := σ_4) rl_51 q_10 (dget kX8_refuseItem 29 rfl) ?_
        refine wr_getI (pc := 52) (σ := σ_4) fl_X8_151 q_8 fk_4_2 (dget kX8_refuseItem 30 rfl) ?_
        refine wr_callSi (pc := 55) (Mc := mX8_within) (rest := []) cf_X8_77 cs_X8_within ⟨Nat.le_of_ble_eq_true rfl, Nat.le_of_ble_eq_true rfl⟩ rfl rfl (Nat.le_of_ble_eq_true rfl) (dget kX8_refuseItem 31 rfl) (tX8_within h) (fun r_12 σ_11 h => ?_)
        refine wr_if_eq (pc := 58) (tgt := 65) (dget kX8_refuseItem 32 rfl) (by decide) (fun c_13 => ?_) (fun c_13 => ?_)
        · have h := h.1 c_13
          refine wr_aload_n (pc := 65) (dget kX8_refuseItem 35 rfl) 1 rfl ?_
          refine wr_iconst (pc := 66) (dget kX8_refuseItem 36 rfl) ic_2 ?_
          refine wr_callVi (pc := 67) (Mc := mX8_finding) (o := 0) (rest := []) cf_X8_238 cv_X8_finding kd_0 rfl ⟨Nat.le_of_ble_eq_true rfl, Nat.le_of_ble_eq_true rfl⟩ rfl rfl (Nat.le_of_ble_eq_true rfl) (dget kX8_refuseItem 37 rfl) (tX8_finding h) (fun r_15 σ_14 h => ?_)
          exact wr_iret (pc := 70) rfl (dget kX8_refuseItem 38 rfl) ⟨_, rfl, h⟩
        · have h := h.2 c_13
          refine wr_iconst (pc := 61) (dget kX8_refuseItem 33 rfl) ic_0 ?_
          refine wr_goto (pc := 62) (tgt := 70) (dget kX8_refuseItem 34 rfl) (by decide) ?_
          exact wr_iret (pc := 70) rfl (dget kX8_refuseItem 38 rfl) ⟨_, rfl, h⟩
      · have h := h.2 c_9
        refine wr_aload_n (pc := 39) (dget kX8_refuseItem 21 rfl) 1 rfl ?_
        refine wr_iconst (pc := 40) (dget kX8_refuseItem 22 rfl) ic_3 ?_
        refine wr_callVi (pc := 41) (Mc := mX8_finding) (o := 0) (rest := []) cf_X8_238 cv_X8_finding kd_0 rfl ⟨Nat.le_of_ble_eq_true rfl, Nat.le_of_ble_eq_true rfl⟩ rfl rfl (Nat.le_of_ble_eq_true rfl) (dget kX8_refuseItem 23 rfl) (tX8_finding h) (fun r_17 σ_16 h => ?_)
        exact wr_iret (pc := 44) rfl (dget kX8_refuseItem 24 rfl) ⟨_, rfl, h⟩
    · have h := h.2 c_6
      refine wr_iload (pc := 23) (dget kX8_refuseItem 12 rfl) 0 rfl ?_
      exact wr_iret (pc := 25) rfl (dget kX8_refuseItem 13 rfl) ⟨_, rfl, h⟩
  · have h := h.1 c_3
    refine wr_bipush (pc := 8) (dget kX8_refuseItem 4 rfl) bp_m2 ?_
    exact wr_iret (pc := 10) rfl (dget kX8_refuseItem 5 rfl) ⟨_, rfl, h⟩
def vX8_lay (p1 : Int32) (p2 : Int32) (p3 : Int32) (p4 : Int32) (σ : Hp) (post : Int32 → Hp → Prop) : Prop := (vX8_refuseItem p1 p2 p3 σ (fun r_2 σ_1 => ((r_2 = 0 → (vp_in p1 4 ∧ (kd (rt 51 p1.toNatClampNeg) = 4 ∧ (vX4_put (rt 51 p1.toNatClampNeg) p3 p4 σ_1 (fun σ_6 => post (1 : Int32) σ_6))))) ∧ (¬ r_2 = 0 → post r_2 σ_1))))
set_option maxHeartbeats 4000000 in
set_option maxRecDepth 100000 in
theorem tX8_lay {G : GT} {p1 : Int32} {p2 : Int32} {p3 : Int32} {p4 : Int32} {σ : Hp} {post : Int32 → Hp → Prop} (h : vX8_lay p1 p2 p3 p4 σ post) : CT G mX8_lay [.ref (G.1 0), .int p1, .int p2, .int p3, .int p4] σ (LI post) := by
  refine CT.of (by decide +kernel) (Nat.le_of_ble_eq_true rfl) ?_
  show WP G mX8_lay 0 [(0, .ref (G.1 0)), (1, .int p1), (2, .int p2), (3, .int p3), (4, .int p4)] [] σ (LI post)
  unfold vX8_lay at h
  refine wr_aload_n (pc := 0) (dget kX8_lay 0 rfl) 0 rfl ?_
  refine wr_iload_n (pc := 1) (dget kX8_lay 1 rfl) 1 rfl ?_
  refine wr_iload_n (pc := 2) (dget kX8_lay 2 rfl) 2 rfl ?_
  refine wr_iload_n (pc := 3) (dget kX8_lay 3 rfl) 3 rfl ?_
  refine wr_callVi (pc := 4) (Mc := mX8_refuseItem) (o := 0) (rest := []) cf_X8_247 cv_X8_refuseItem kd_0 rfl ⟨Nat.le_of_ble_eq_true rfl, Nat.le_of_ble_eq_true rfl⟩ rfl rfl (Nat.le_of_ble_eq_true rfl) (dget kX8_lay 4 rfl) (tX8_refuseItem h) (fun r_2 σ_1 h => ?_)
  refine wr_istore (pc := 7) (lv' := [(5, .int r_2), (0, .ref (G.1 0)), (1, .int p1), (2, .int p2), (3, .int p3), (4, .int p4)]) (dget kX8_lay 5 rfl) (by decide) rfl ?_
  refine wr_iload (pc := 9) (dget kX8_lay 6 rfl) 0 rfl ?_
  refine wr_if_eq (pc := 11) (tgt := 17) (dget kX8_lay 7 rfl) (by decide) (fun c_3 => ?_) (fun c_3 => ?_)
  · have h := h.1 c_3
    refine wr_aload_n (pc := 17) (dget kX8_lay 10 rfl) 1 rfl ?_
    refine wr_getRl (pc := 18) fl_X8_62 kd_0 fk_8_8 rt_0_8 (dget kX8_lay 11 rfl) ?_
    refine wr_iload_n (pc := 21) (dget kX8_lay 12 rfl) 2 rfl ?_
    obtain ⟨q_4, h⟩ := h
    refine wr_aaldl (pc := 22) (σ := σ_1) rl_51 q_4 (dget kX8_lay 13 rfl) ?_
    refine wr_iload_n (pc := 23) (dget kX8_lay 14 rfl) 4 rfl ?_
    refine wr_iload (pc := 24) (dget kX8_lay 15 rfl) 5 rfl ?_
    obtain ⟨q_5, h⟩ := h
    refine wr_callVv (pc := 26) (Mc := mX4_put) (o := (rt 51 p1.toNatClampNeg)) (rest := []) cf_X8_250 cv_X4_put q_5 rfl ⟨Nat.le_of_ble_eq_true rfl, Nat.le_of_ble_eq_true rfl⟩ rfl rfl (Nat.le_of_ble_eq_true rfl) (dget kX8_lay 16 rfl) (tX4_put h) (fun σ_6 h => ?_)
    refine wr_iconst (pc := 29) (dget kX8_lay 17 rfl) ic_1 ?_
    exact wr_iret (pc := 30) rfl (dget kX8_lay 18 rfl) ⟨_, rfl, h⟩
  · have h := h.2 c_3
    refine wr_iload (pc := 14) (dget kX8_lay 8 rfl) 0 rfl ?_
    exact wr_iret (pc := 16) rfl (dget kX8_lay 9 rfl) ⟨_, rfl, h⟩
def vX8_get (p1 : Int32) (p2 : Int32) (p3 : Int32) (σ : Hp) (post : Int32 → Hp → Prop) : Prop := (vX8_refuseItem p1 p2 p3 σ (fun r_2 σ_1 => ((r_2 = 0 → (vp_in p1 4 ∧ (kd (rt 51 p1.toNatClampNeg) = 4 ∧ (vp_in p3 (iln (rt (rt 51 p1.toNatClampNeg) 0)) ∧ post (σ_1.1 (rt (rt 51 p1.toNatClampNeg) 0) p3.toNatClampNeg) σ_1)))) ∧ (¬ r_2 = 0 → post (-2147483648 : Int32) σ_1))))
set_option maxHeartbeats 4000000 in
set_option maxRecDepth 100000 in
theorem tX8_get {G : GT} {p1 : Int32} {p2 : Int32} {p3 : Int32} {σ : Hp} {post : Int32 → Hp → Prop} (h : vX8_get p1 p2 p3 σ post) : CT G mX8_get [.ref (G.1 0), .int p1, .int p2, .int p3] σ (LI post) := by
  refine CT.of (by decide +kernel) (Nat.le_of_ble_eq_true rfl) ?_
  show WP G mX8_get 0 [(0, .ref (G.1 0)), (1, .int p1), (2, .int p2), (3, .int p3)] [] σ (LI post)
  unfold vX8_get at h
  refine wr_aload_n (pc := 0) (dget kX8_get 0 rfl) 0 rfl ?_
  refine wr_iload_n (pc := 1) (dget kX8_get 1 rfl) 1 rfl ?_
  refine wr_iload_n (pc := 2) (dget kX8_get 2 rfl) 2 rfl ?_
  refine wr_iload_n (pc := 3) (dget kX8_get 3 rfl) 3 rfl ?_
  refine wr_callVi (pc := 4) (Mc := mX8_refuseItem) (o := 0) (rest := []) cf_X8_247 cv_X8_refuseItem kd_0 rfl ⟨Nat.le_of_ble_eq_true rfl, Nat.le_of_ble_eq_true rfl⟩ rfl rfl (Nat.le_of_ble_eq_true rfl) (dget kX8_get 4 rfl) (tX8_refuseItem h) (fun r_2 σ_1 h => ?_)
  refine wr_if_eq (pc := 7) (tgt := 15) (dget kX8_get 5 rfl) (by decide) (fun c_3 => ?_) (fun c_3 => ?_)
  · have h := h.1 c_3
    refine wr_aload_n (pc := 15) (dget kX8_get 8 rfl) 0 rfl ?_
    refine wr_getRl (pc := 16) fl_X8_62 kd_0 fk_8_8 rt_0_8 (dget kX8_get 9 rfl) ?_
    refine wr_iload_n (pc := 19) (dget kX8_get 10 rfl) 1 rfl ?_
    obtain ⟨q_4, h⟩ := h
    refine wr_aaldl (pc := 20) (σ := σ_1) rl_51 q_4 (dget kX8_get 11 rfl) ?_
    obtain ⟨q_5, h⟩ := h
    refine wr_getR (pc := 21) fl_X8_152 q_5 fk_4_0 (dget kX8_get 12 rfl) ?_
    refine wr_iload_n (pc := 24) (dget kX8_get 13 rfl) 3 rfl ?_
    obtain ⟨q_6, h⟩ := h
    refine wr_ialdl (pc := 25) (σ := σ_1) rfl q_6 (dget kX8_get 14 rfl) ?_
    exact wr_iret (pc := 26) rfl (dget kX8_get 15 rfl) ⟨_, rfl, h⟩
  · have h := h.2 c_3
    refine wr_ldc (pc := 10) ki_X8_103 (dget kX8_get 6 rfl) ?_
    refine wr_goto (pc := 12) (tgt := 26) (dget kX8_get 7 rfl) (by decide) ?_
    exact wr_iret (pc := 26) rfl (dget kX8_get 15 rfl) ⟨_, rfl, h⟩
def vX8_copy (p1 : Int32) (p2 : Int32) (p3 : Int32) (p4 : Int32) (p5 : Int32) (σ : Hp) (post : Int32 → Hp → Prop) : Prop := (vX8_within p1 (4 : Int32) σ (fun r_2 σ_1 => ((r_2 = 0 → post (-2 : Int32) σ_1) ∧ (¬ r_2 = 0 → (vX8_within p3 (4 : Int32) σ_1 (fun r_5 σ_4 => ((r_5 = 0 → post (-2 : Int32) σ_4) ∧ (¬ r_5 = 0 → (vp_in p1 4 ∧ (vp_in p3 4 ∧ (kd (rt 51 p1.toNatClampNeg) = 4 ∧ (((σ_4.1 (rt 51 p1.toNatClampNeg) 3) = 0 → (kd (rt 51 p3.toNatClampNeg) = 4 ∧ (((σ_4.1 (rt 51 p3.toNatClampNeg) 3) = 0 → (((σ_4.1 (rt 51 p1.toNatClampNeg) 1) = (σ_4.1 (rt 51 p3.toNatClampNeg) 1) → (vX4_has (rt 51 p1.toNatClampNeg) p2 p5 σ_4 (fun r_17 σ_16 => ((r_17 = 0 → (vX8_finding (2 : Int32) σ_16 (fun r_20 σ_19 => post r_20 σ_19))) ∧ (¬ r_17 = 0 → (vX4_has (rt 51 p3.toNatClampNeg) p4 p5 σ_16 (fun r_22 σ_21 => ((r_22 = 0 → (vX8_finding (2 : Int32) σ_21 (fun r_33 σ_32 => post r_33 σ_32))) ∧ (¬ r_22 = 0 → (kd (rt (rt 51 p1.toNatClampNeg) 0) = 10 ∧ (kd (rt (rt 51 p3.toNatClampNeg) 0) = 10 ∧ (¬ p2 < 0 ∧ ¬ p4 < 0 ∧ ¬ p5 < 0 ∧ p2.toNatClampNeg + p5.toNatClampNeg ≤ (iln (rt (rt 51 p1.toNatClampNeg) 0)) ∧ p4.toNatClampNeg + p5.toNatClampNeg ≤ (iln (rt (rt 51 p3.toNatClampNeg) 0)) ∧ ∀ σ_26 : Hp, σ_26 = wR σ_21 (rt (rt 51 p3.toNatClampNeg) 0) (va_cpy (σ_21.1 (rt (rt 51 p1.toNatClampNeg) 0)) (σ_21.1 (rt (rt 51 p3.toNatClampNeg) 0)) p2.toNatClampNeg p4.toNatClampNeg p5.toNatClampNeg) → post (1 : Int32) σ_26)))))))))))) ∧ (¬ (σ_4.1 (rt 51 p1.toNatClampNeg) 1) = (σ_4.1 (rt 51 p3.toNatClampNeg) 1) → (vX8_finding (4 : Int32) σ_4 (fun r_35 σ_34 => post r_35 σ_34))))) ∧ (¬ (σ_4.1 (rt 51 p3.toNatClampNeg) 3) = 0 → (vX8_finding (1 : Int32) σ_4 (fun r_37 σ_36 => post r_37 σ_36)))))) ∧ (¬ (σ_4.1 (rt 51 p1.toNatClampNeg) 3) = 0 → (vX8_finding (1 : Int32) σ_4 (fun r_12 σ_11 => post r_12 σ_11)))))))))))))))
set_option maxHeartbeats 4000000 in
set_option maxRecDepth 100000 in
theorem tX8_copy {G : GT} {p1 : Int32} {p2 : Int32} {p3 : Int32} {p4 : Int32} {p5 : Int32} {σ : Hp} {post : Int32 → Hp → Prop} (h : vX8_copy p1 p2 p3 p4 p5 σ post) : CT G mX8_copy [.ref (G.1 0), .int p1, .int p2, .int p3, .int p4, .int p5] σ (LI post) := by
  refine CT.of (by decide +kernel) (Nat.le_of_ble_eq_true rfl) ?_
  show WP G mX8_copy 0 [(0, .ref (G.1 0)), (1, .int p1), (2, .int p2), (3, .int p3), (4, .int p4), (5, .int p5)] [] σ (LI post)
  unfold vX8_copy at h
  refine wr_iload_n (pc := 0) (dget kX8_copy 0 rfl) 1 rfl ?_
  refine wr_iconst (pc := 1) (dget kX8_copy 1 rfl) ic_4 ?_
  refine wr_callSi (pc := 2) (Mc := mX8_within) (rest := []) cf_X8_77 cs_X8_within ⟨Nat.le_of_ble_eq_true rfl, Nat.le_of_ble_eq_true rfl⟩ rfl rfl (Nat.le_of_ble_eq_true rfl) (dget kX8_copy 2 rfl) (tX8_within h) (fun r_2 σ_1 h => ?_)
  refine wr_if_eq (pc := 5) (tgt := 16) (dget kX8_copy 3 rfl) (by decide) (fun c_3 => ?_) (fun c_3 => ?_)
  · have h := h.1 c_3
    refine wr_bipush (pc := 16) (dget kX8_copy 8 rfl) bp_m2 ?_
    exact wr_iret (pc := 18) rfl (dget kX8_copy 9 rfl) ⟨_, rfl, h⟩
  · have h := h.2 c_3
    refine wr_iload_n (pc := 8) (dget kX8_copy 4 rfl) 3 rfl ?_
    refine wr_iconst (pc := 9) (dget kX8_copy 5 rfl) ic_4 ?_
    refine wr_callSi (pc := 10) (Mc := mX8_within) (rest := []) cf_X8_77 cs_X8_within ⟨Nat.le_of_ble_eq_true rfl, Nat.le_of_ble_eq_true rfl⟩ rfl rfl (Nat.le_of_ble_eq_true rfl) (dget kX8_copy 6 rfl) (tX8_within h) (fun r_5 σ_4 h => ?_)
    refine wr_if_ne (pc := 13) (tgt := 19) (dget kX8_copy 7 rfl) (by decide) (fun c_6 => ?_) (fun c_6 => ?_)
    · have h := h.2 c_6
      refine wr_aload_n (pc := 19) (dget kX8_copy 10 rfl) 0 rfl ?_
      refine wr_getRl (pc := 20) fl_X8_62 kd_0 fk_8_8 rt_0_8 (dget kX8_copy 11 rfl) ?_
      refine wr_iload_n (pc := 23) (dget kX8_copy 12 rfl) 1 rfl ?_
      obtain ⟨q_7, h⟩ := h
      refine wr_aaldl (pc := 24) (σ := σ_4) rl_51 q_7 (dget kX8_copy 13 rfl) ?_
      refine wr_astore (pc := 25) (lv' := [(6, .ref (G.1 (rt 51 p1.toNatClampNeg))), (0, .ref (G.1 0)), (1, .int p1), (2, .int p2), (3, .int p3), (4, .int p4), (5, .int p5)]) (dget kX8_copy 14 rfl) (by decide) rfl ?_
      refine wr_aload_n (pc := 27) (dget kX8_copy 15 rfl) 1 rfl ?_
      refine wr_getRl (pc := 28) fl_X8_62 kd_0 fk_8_8 rt_0_8 (dget kX8_copy 16 rfl) ?_
      refine wr_iload_n (pc := 31) (dget kX8_copy 17 rfl) 4 rfl ?_
      obtain ⟨q_8, h⟩ := h
      refine wr_aaldl (pc := 32) (σ := σ_4) rl_51 q_8 (dget kX8_copy 18 rfl) ?_
      refine wr_astore (pc := 33) (lv' := [(7, .ref (G.1 (rt 51 p3.toNatClampNeg))), (6, .ref (G.1 (rt 51 p1.toNatClampNeg))), (0, .ref (G.1 0)), (1, .int p1), (2, .int p2), (3, .int p3), (4, .int p4), (5, .int p5)]) (dget kX8_copy 19 rfl) (by decide) rfl ?_
      refine wr_aload (pc := 35) (dget kX8_copy 20 rfl) 1 rfl ?_
      obtain ⟨q_9, h⟩ := h
      refine wr_getI (pc := 37) (σ := σ_4) fl_X8_244 q_9 fk_4_3 (dget kX8_copy 21 rfl) ?_
      refine wr_if_ne (pc := 40) (tgt := 51) (dget kX8_copy 22 rfl) (by decide) (fun c_10 => ?_) (fun c_10 => ?_)
      · have h := h.2 c_10
        refine wr_aload_n (pc := 51) (dget kX8_copy 26 rfl) 2 rfl ?_
        refine wr_iconst (pc := 52) (dget kX8_copy 27 rfl) ic_1 ?_
        refine wr_callVi (pc := 53) (Mc := mX8_finding) (o := 0) (rest := []) cf_X8_238 cv_X8_finding kd_0 rfl ⟨Nat.le_of_ble_eq_true rfl, Nat.le_of_ble_eq_true rfl⟩ rfl rfl (Nat.le_of_ble_eq_true rfl) (dget kX8_copy 28 rfl) (tX8_finding h) (fun r_12 σ_11 h => ?_)
        exact wr_iret (pc := 56) rfl (dget kX8_copy 29 rfl) ⟨_, rfl, h⟩
      · have h := h.1 c_10
        refine wr_aload (pc := 43) (dget kX8_copy 23 rfl) 0 rfl ?_
        obtain ⟨q_13, h⟩ := h
        refine wr_getI (pc := 45) (σ := σ_4) fl_X8_244 q_13 fk_4_3 (dget kX8_copy 24 rfl) ?_
        refine wr_if_eq (pc := 48) (tgt := 57) (dget kX8_copy 25 rfl) (by decide) (fun c_14 => ?_) (fun c_14 => ?_)
        · have h := h.1 c_14
          refine wr_aload (pc := 57) (dget kX8_copy 30 rfl) 1 rfl ?_
          refine wr_getI (pc := 59) (σ := σ_4) fl_X8_253 q_9 fk_4_1 (dget kX8_copy 31 rfl) ?_
          refine wr_aload (pc := 62) (dget kX8_copy 32 rfl) 0 rfl ?_
          refine wr_getI (pc := 64) (σ := σ_4) fl_X8_253 q_13 fk_4_1 (dget kX8_copy 33 rfl) ?_
          refine wr_icmp_eq (pc := 67) (tgt := 76) (dget kX8_copy 34 rfl) (by decide) (fun c_15 => ?_) (fun c_15 => ?_)
          · have h := h.1 c_15
            refine wr_aload (pc := 76) (dget kX8_copy 39 rfl) 1 rfl ?_
            refine wr_iload_n (pc := 78) (dget kX8_copy 40 rfl) 4 rfl ?_
            refine wr_iload (pc := 79) (dget kX8_copy 41 rfl) 7 rfl ?_
            refine wr_callVi (pc := 81) (Mc := mX4_has) (o := (rt 51 p1.toNatClampNeg)) (rest := []) cf_X8_256 cv_X4_has q_9 rfl ⟨Nat.le_of_ble_eq_true rfl, Nat.le_of_ble_eq_true rfl⟩ rfl rfl (Nat.le_of_ble_eq_true rfl) (dget kX8_copy 42 rfl) (tX4_has h) (fun r_17 σ_16 h => ?_)
            refine wr_if_eq (pc := 84) (tgt := 99) (dget kX8_copy 43 rfl) (by decide) (fun c_18 => ?_) (fun c_18 => ?_)
            · have h := h.1 c_18
              refine wr_aload_n (pc := 99) (dget kX8_copy 49 rfl) 2 rfl ?_
              refine wr_iconst (pc := 100) (dget kX8_copy 50 rfl) ic_2 ?_
              refine wr_callVi (pc := 101) (Mc := mX8_finding) (o := 0) (rest := []) cf_X8_238 cv_X8_finding kd_0 rfl ⟨Nat.le_of_ble_eq_true rfl, Nat.le_of_ble_eq_true rfl⟩ rfl rfl (Nat.le_of_ble_eq_true rfl) (dget kX8_copy 51 rfl) (tX8_finding h) (fun r_20 σ_19 h => ?_)
              exact wr_iret (pc := 104) rfl (dget kX8_copy 52 rfl) ⟨_, rfl, h⟩
            · have h := h.2 c_18
              refine wr_aload (pc := 87) (dget kX8_copy 44 rfl) 0 rfl ?_
              refine wr_iload (pc := 89) (dget kX8_copy 45 rfl) 6 rfl ?_
              refine wr_iload (pc := 91) (dget kX8_copy 46 rfl) 7 rfl ?_
              refine wr_callVi (pc := 93) (Mc := mX4_has) (o := (rt 51 p3.toNatClampNeg)) (rest := []) cf_X8_256 cv_X4_has q_13 rfl ⟨Nat.le_of_ble_eq_true rfl, Nat.le_of_ble_eq_true rfl⟩ rfl rfl (Nat.le_of_ble_eq_true rfl) (dget kX8_copy 47 rfl) (tX4_has h) (fun r_22 σ_21 h => ?_)
              refine wr_if_ne (pc := 96) (tgt := 105) (dget kX8_copy 48 rfl) (by decide) (fun c_23 => ?_) (fun c_23 => ?_)
              · have h := h.2 c_23
                refine wr_aload (pc := 105) (dget kX8_copy 53 rfl) 1 rfl ?_
                refine wr_getR (pc := 107) fl_X8_152 q_9 fk_4_0 (dget kX8_copy 54 rfl) ?_
                refine wr_iload_n (pc := 110) (dget kX8_copy 55 rfl) 4 rfl ?_
                refine wr_aload (pc := 111) (dget kX8_copy 56 rfl) 0 rfl ?_
                refine wr_getR (pc := 113) fl_X8_152 q_13 fk_4_0 (dget kX8_copy 57 rfl) ?_
                refine wr_iload (pc := 116) (dget kX8_copy 58 rfl) 6 rfl ?_
                refine wr_iload (pc := 118) (dget kX8_copy 59 rfl) 7 rfl ?_
                obtain ⟨q_24, h⟩ := h
                obtain ⟨q_25, h⟩ := h
                obtain ⟨q_27, q_28, q_29, q_30, q_31, h⟩ := h
                refine wr_copy (pc := 120) (σ := σ_21) ml_X8_259 q_24 q_25 q_27 q_28 q_29 q_30 q_31 (by decide) (by decide) (dget kX8_copy 60 rfl) ?_
                refine wr_tops (fun σ_26 e_σ_26 => ?_)
                have h := h σ_26 e_σ_26
                refine wr_iconst (pc := 123) (dget kX8_copy 61 rfl) ic_1 ?_
                exact wr_iret (pc := 124) rfl (dget kX8_copy 62 rfl) ⟨_, rfl, h⟩
              · have h := h.1 c_23
                refine wr_aload_n (pc := 99) (dget kX8_copy 49 rfl) 2 rfl ?_
                refine wr_iconst (pc := 100) (dget kX8_copy 50 rfl) ic_2 ?_
                refine wr_callVi (pc := 101) (Mc := mX8_finding) (o := 0) (rest := []) cf_X8_238 cv_X8_finding kd_0 rfl ⟨Nat.le_of_ble_eq_true rfl, Nat.le_of_ble_eq_true rfl⟩ rfl rfl (Nat.le_of_ble_eq_true rfl) (dget kX8_copy 51 rfl) (tX8_finding h) (fun r_33 σ_32 h => ?_)
                exact wr_iret (pc := 104) rfl (dget kX8_copy 52 rfl) ⟨_, rfl, h⟩
          · have h := h.2 c_15
            refine wr_aload_n (pc := 70) (dget kX8_copy 35 rfl) 2 rfl ?_
            refine wr_iconst (pc := 71) (dget kX8_copy 36 rfl) ic_4 ?_
            refine wr_callVi (pc := 72) (Mc := mX8_finding) (o := 0) (rest := []) cf_X8_238 cv_X8_finding kd_0 rfl ⟨Nat.le_of_ble_eq_true rfl, Nat.le_of_ble_eq_true rfl⟩ rfl rfl (Nat.le_of_ble_eq_true rfl) (dget kX8_copy 37 rfl) (tX8_finding h) (fun r_35 σ_34 h => ?_)
            exact wr_iret (pc := 75) rfl (dget kX8_copy 38 rfl) ⟨_, rfl, h⟩
        · have h := h.2 c_14
          refine wr_aload_n (pc := 51) (dget kX8_copy 26 rfl) 2 rfl ?_
          refine wr_iconst (pc := 52) (dget kX8_copy 27 rfl) ic_1 ?_
          refine wr_callVi (pc := 53) (Mc := mX8_finding) (o := 0) (rest := []) cf_X8_238 cv_X8_finding kd_0 rfl ⟨Nat.le_of_ble_eq_true rfl, Nat.le_of_ble_eq_true rfl⟩ rfl rfl (Nat.le_of_ble_eq_true rfl) (dget kX8_copy 28 rfl) (tX8_finding h) (fun r_37 σ_36 h => ?_)
          exact wr_iret (pc := 56) rfl (dget kX8_copy 29 rfl) ⟨_, rfl, h⟩
    · have h := h.1 c_6
      refine wr_bipush (pc := 16) (dget kX8_copy 8 rfl) bp_m2 ?_
      exact wr_iret (pc := 18) rfl (dget kX8_copy 9 rfl) ⟨_, rfl, h⟩
def vX8_write_46 (post : Int32 → Hp → Prop) (ex : Hp → Prop) (x1 : Int32) (x2 : Int32) (x4 : Int32) : Nat → Int32 → Hp → Prop
  | 0 => fun _ _ => False
  | n + 1 => fun x5 σ => ((x4 ≤ x5 → (ex σ)) ∧ (¬ x4 ≤ x5 → (vp_in x2 4 ∧ (vX2_conditionBehind 23 x5 x1 σ (fun r_4 σ_3 => (kd (rt 51 x2.toNatClampNeg) = 4 ∧ (vX4_put (rt 51 x2.toNatClampNeg) x5 r_4 σ_3 (fun σ_6 => (∀ x5_8 : Int32, x5_8 = x5 + (1 : Int32) → vX8_write_46 post ex x1 x2 x4 n x5_8 σ_6)))))))))
set_option maxHeartbeats 4000000 in
set_option maxRecDepth 100000 in
theorem tX8_write_46 {G : GT} {post : Int32 → Hp → Prop} {ex : Hp → Prop} {x1 : Int32} {x2 : Int32} {x4 : Int32} (hex : ∀  (τ : Hp), ex  τ → WP G mX8_write 80 [(4, .int x4)] [] τ (LI post)) : ∀ (n : Nat) (x5 : Int32) (σ : Hp), vX8_write_46 post ex x1 x2 x4 n x5 σ → WP G mX8_write 46 [(0, .ref (G.1 0)), (1, .int x1), (2, .int x2), (4, .int x4), (5, .int x5)] [] σ (LI post) := by
  intro n
  induction n with
  | zero => intro x5 σ h; exact False.elim h
  | succ n ih =>
    intro x5 σ h
    simp only [vX8_write_46] at h
    refine wr_iload (pc := 46) (dget kX8_write 26 rfl) 4 rfl ?_
    refine wr_iload (pc := 48) (dget kX8_write 27 rfl) 3 rfl ?_
    refine wr_icmp_ge (pc := 50) (tgt := 80) (dget kX8_write 28 rfl) (by decide) (fun c_1 => ?_) (fun c_1 => ?_)
    · have h := h.1 c_1
      refine wr_sub [3] rfl ?_
      exact hex  _ h
    · have h := h.2 c_1
      refine wr_aload_n (pc := 53) (dget kX8_write 29 rfl) 0 rfl ?_
      refine wr_getRl (pc := 54) fl_X8_62 kd_0 fk_8_8 rt_0_8 (dget kX8_write 30 rfl) ?_
      refine wr_iload_n (pc := 57) (dget kX8_write 31 rfl) 2 rfl ?_
      obtain ⟨q_2, h⟩ := h
      refine wr_aaldl (pc := 58) (σ := σ) rl_51 q_2 (dget kX8_write 32 rfl) ?_
      refine wr_iload (pc := 59) (dget kX8_write 33 rfl) 4 rfl ?_
      refine wr_aload_n (pc := 61) (dget kX8_write 34 rfl) 0 rfl ?_
      refine wr_getRl (pc := 62) fl_X8_46 kd_0 fk_8_5 rt_0_5 (dget kX8_write 35 rfl) ?_
      refine wr_iload (pc := 65) (dget kX8_write 36 rfl) 4 rfl ?_
      refine wr_iload_n (pc := 67) (dget kX8_write 37 rfl) 1 rfl ?_
      refine wr_callVi (pc := 68) (Mc := mX2_conditionBehind) (o := 23) (rest := [.int x5, .ref (G.1 (rt 51 x2.toNatClampNeg))]) cf_X8_270 cv_X2_conditionBehind kd_23 rfl ⟨Nat.le_of_ble_eq_true rfl, Nat.le_of_ble_eq_true rfl⟩ rfl rfl (Nat.le_of_ble_eq_true rfl) (dget kX8_write 38 rfl) (tX2_conditionBehind h) (fun r_4 σ_3 h => ?_)
      obtain ⟨q_5, h⟩ := h
      refine wr_callVv (pc := 71) (Mc := mX4_put) (o := (rt 51 x2.toNatClampNeg)) (rest := []) cf_X8_250 cv_X4_put q_5 rfl ⟨Nat.le_of_ble_eq_true rfl, Nat.le_of_ble_eq_true rfl⟩ rfl rfl (Nat.le_of_ble_eq_true rfl) (dget kX8_write 39 rfl) (tX4_put h) (fun σ_6 h => ?_)
      obtain ⟨x5_8, e_x5_8⟩ : ∃ y : Int32, y = x5 + (1 : Int32) := ⟨_, rfl⟩
      have h := h x5_8 e_x5_8
      refine wr_iinc (pc := 74) (v := x5_8) (lv' := [(5, .int x5_8), (0, .ref (G.1 0)), (1, .int x1), (2, .int x2), (4, .int x4)]) (dget kX8_write 40 rfl) 4 rfl (by rw [e_x5_8, ic_1]) (by decide) rfl ?_
      refine wr_goto (pc := 77) (tgt := 46) (dget kX8_write 41 rfl) (by decide) ?_
      refine wr_sub [1, 2, 3, 4, 0] rfl ?_
      exact ih _ _ h
def vX8_write (p1 : Int32) (p2 : Int32) (σ : Hp) (post : Int32 → Hp → Prop) : Prop := (vX8_settle  σ (fun σ_1 => (vX8_isDuck p1 σ_1 (fun r_4 σ_3 => ((r_4 = 0 → post (-2 : Int32) σ_3) ∧ (¬ r_4 = 0 → (vX8_refuseSheet p2 σ_3 (fun r_7 σ_6 => ((r_7 = 0 → (vp_in p2 4 ∧ (kd (rt 51 p2.toNatClampNeg) = 4 ∧ (vJ9_min_7cf53 (24 : Int32) (σ_6.1 (rt 51 p2.toNatClampNeg) 2) σ_6 (fun r_12 σ_11 => (∃ fu : Nat, vX8_write_46 post (fun σ_13 => post r_12 σ_13) p1 p2 r_12 fu (0 : Int32) σ_11)))))) ∧ (¬ r_7 = 0 → post r_7 σ_6))))))))))
set_option maxHeartbeats 4000000 in
set_option maxRecDepth 100000 in
theorem tX8_write {G : GT} {p1 : Int32} {p2 : Int32} {σ : Hp} {post : Int32 → Hp → Prop} (h : vX8_write p1 p2 σ post) : CT G mX8_write [.ref (G.1 0), .int p1, .int p2] σ (LI post) := by
  refine CT.of (by decide +kernel) (Nat.le_of_ble_eq_true rfl) ?_
  show WP G mX8_write 0 [(0, .ref (G.1 0)), (1, .int p1), (2, .int p2)] [] σ (LI post)
  unfold vX8_write at h
  refine wr_aload_n (pc := 0) (dget kX8_write 0 rfl) 0 rfl ?_
  refine wr_callVv (pc := 1) (Mc := mX8_settle) (o := 0) (rest := []) cf_X8_97 cv_X8_settle kd_0 rfl ⟨Nat.le_of_ble_eq_true rfl, Nat.le_of_ble_eq_true rfl⟩ rfl rfl (Nat.le_of_ble_eq_true rfl) (dget kX8_write 1 rfl) (tX8_settle h) (fun σ_1 h => ?_)
  refine wr_aload_n (pc := 4) (dget kX8_write 2 rfl) 0 rfl ?_
  refine wr_iload_n (pc := 5) (dget kX8_write 3 rfl) 1 rfl ?_
  refine wr_callVi (pc := 6) (Mc := mX8_isDuck) (o := 0) (rest := []) cf_X8_107 cv_X8_isDuck kd_0 rfl ⟨Nat.le_of_ble_eq_true rfl, Nat.le_of_ble_eq_true rfl⟩ rfl rfl (Nat.le_of_ble_eq_true rfl) (dget kX8_write 4 rfl) (tX8_isDuck h) (fun r_4 σ_3 h => ?_)
  refine wr_if_ne (pc := 9) (tgt := 15) (dget kX8_write 5 rfl) (by decide) (fun c_5 => ?_) (fun c_5 => ?_)
  · have h := h.2 c_5
    refine wr_aload_n (pc := 15) (dget kX8_write 8 rfl) 0 rfl ?_
    refine wr_iload_n (pc := 16) (dget kX8_write 9 rfl) 2 rfl ?_
    refine wr_callVi (pc := 17) (Mc := mX8_refuseSheet) (o := 0) (rest := []) cf_X8_147 cv_X8_refuseSheet kd_0 rfl ⟨Nat.le_of_ble_eq_true rfl, Nat.le_of_ble_eq_true rfl⟩ rfl rfl (Nat.le_of_ble_eq_true rfl) (dget kX8_write 10 rfl) (tX8_refuseSheet h) (fun r_7 σ_6 h => ?_)
    refine wr_istore_n (pc := 20) (lv' := [(3, .int r_7), (0, .ref (G.1 0)), (1, .int p1), (2, .int p2)]) (dget kX8_write 11 rfl) (by decide) rfl ?_
    refine wr_iload_n (pc := 21) (dget kX8_write 12 rfl) 0 rfl ?_
    refine wr_if_eq (pc := 22) (tgt := 27) (dget kX8_write 13 rfl) (by decide) (fun c_8 => ?_) (fun c_8 => ?_)
    · have h := h.1 c_8
      refine wr_bipush (pc := 27) (dget kX8_write 16 rfl) bp_24 ?_
      refine wr_aload_n (pc := 29) (dget kX8_write 17 rfl) 1 rfl ?_
      refine wr_getRl (pc := 30) fl_X8_62 kd_0 fk_8_8 rt_0_8 (dget kX8_write 18 rfl) ?_
      refine wr_iload_n (pc := 33) (dget kX8_write 19 rfl) 3 rfl ?_
      obtain ⟨q_9, h⟩ := h
      refine wr_aaldl (pc := 34) (σ := σ_6) rl_51 q_9 (dget kX8_write 20 rfl) ?_
      obtain ⟨q_10, h⟩ := h
      refine wr_getI (pc := 35) (σ := σ_6) fl_X8_151 q_10 fk_4_2 (dget kX8_write 21 rfl) ?_
      refine wr_callSi (pc := 38) (Mc := mJ9_min_7cf53) (rest := []) cf_X8_265 cs_J9_min_7cf53 ⟨Nat.le_of_ble_eq_true rfl, Nat.le_of_ble_eq_true rfl⟩ rfl rfl (Nat.le_of_ble_eq_true rfl) (dget kX8_write 22 rfl) (tJ9_min_7cf53 h) (fun r_12 σ_11 h => ?_)
      refine wr_istore (pc := 41) (lv' := [(4, .int r_12), (3, .int r_7), (0, .ref (G.1 0)), (1, .int p1), (2, .int p2)]) (dget kX8_write 23 rfl) (by decide) rfl ?_
      refine wr_iconst (pc := 43) (dget kX8_write 24 rfl) ic_0 ?_
      refine wr_istore (pc := 44) (lv' := [(5, .int (0 : Int32)), (4, .int r_12), (3, .int r_7), (0, .ref (G.1 0)), (1, .int p1), (2, .int p2)]) (dget kX8_write 25 rfl) (by decide) rfl ?_
      obtain ⟨fu, h⟩ := h
      refine wr_sub [3, 4, 5, 1, 0] rfl ?_
      refine tX8_write_46 (fun σ_13 h => ?_) fu _ _ h
      refine wr_iload (pc := 80) (dget kX8_write 42 rfl) 0 rfl ?_
      exact wr_iret (pc := 82) rfl (dget kX8_write 43 rfl) ⟨_, rfl, h⟩
    · have h := h.2 c_8
      refine wr_iload_n (pc := 25) (dget kX8_write 14 rfl) 0 rfl ?_
      exact wr_iret (pc := 26) rfl (dget kX8_write 15 rfl) ⟨_, rfl, h⟩
  · have h := h.1 c_5
    refine wr_bipush (pc := 12) (dget kX8_write 6 rfl) bp_m2 ?_
    exact wr_iret (pc := 14) rfl (dget kX8_write 7 rfl) ⟨_, rfl, h⟩
