def vX1_numbers_5 (post : Int32 → Hp → Prop) (ex : Int32 → Hp → Prop) (x1 : Int32) (x2 : Int32) : Nat → Int32 → Int32 → Hp → Prop
  | 0 => fun _ _ _ => False
  | n + 1 => fun x3 x4 σ => (((σ.1 10 4) ≤ x4 → (ex x3 σ)) ∧ (¬ (σ.1 10 4) ≤ x4 → (vX8_isSet x1 x4 σ (fun r_3 σ_2 => ((r_3 = 0 → (∀ x4_5 : Int32, x4_5 = x4 + (1 : Int32) → vX1_numbers_5 post ex x1 x2 n x3 x4_5 σ_2)) ∧ (¬ r_3 = 0 → (vp_in x4 8 ∧ (((σ_2.1 11 x4.toNatClampNeg) = x2 → (vp_in x4 8 ∧ (∀ x3_10 : Int32, x3_10 = (x3 ||| ((1 : Int32) <<< ((σ_2.1 13 x4.toNatClampNeg) &&& 31))) → (∀ x4_11 : Int32, x4_11 = x4 + (1 : Int32) → vX1_numbers_5 post ex x1 x2 n x3_10 x4_11 σ_2)))) ∧ (¬ (σ_2.1 11 x4.toNatClampNeg) = x2 → (∀ x4_8 : Int32, x4_8 = x4 + (1 : Int32) → vX1_numbers_5 post ex x1 x2 n x3 x4_8 σ_2))))))))))
set_option maxHeartbeats 4000000 in
set_option maxRecDepth 100000 in
theorem tX1_numbers_5 {G : GT} {post : Int32 → Hp → Prop} {ex : Int32 → Hp → Prop} {x1 : Int32} {x2 : Int32} (hex : ∀ (z3 : Int32) (τ : Hp), ex z3 τ → WP G mX1_numbers 52 [(3, .int z3)] [] τ (LI post)) : ∀ (n : Nat) (x3 : Int32) (x4 : Int32) (σ : Hp), vX1_numbers_5 post ex x1 x2 n x3 x4 σ → WP G mX1_numbers 5 [(0, .ref (G.1 10)), (1, .int x1), (2, .int x2), (3, .int x3), (4, .int x4)] [] σ (LI post) := by
  intro n
  induction n with
  | zero => intro x3 x4 σ h; exact False.elim h
  | succ n ih =>
    intro x3 x4 σ h
    simp only [vX1_numbers_5] at h
    refine wr_iload (pc := 5) (dget kX1_numbers 4 rfl) 4 rfl ?_
    refine wr_aload_n (pc := 7) (dget kX1_numbers 5 rfl) 0 rfl ?_
    refine wr_getI (pc := 8) (σ := σ) fl_X1_24 kd_10 fk_1_4 (dget kX1_numbers 6 rfl) ?_
    refine wr_icmp_ge (pc := 11) (tgt := 52) (dget kX1_numbers 7 rfl) (by decide) (fun c_1 => ?_) (fun c_1 => ?_)
    · have h := h.1 c_1
      refine wr_sub [3] rfl ?_
      exact hex _ _ h
    · have h := h.2 c_1
      refine wr_iload_n (pc := 14) (dget kX1_numbers 8 rfl) 1 rfl ?_
      refine wr_iload (pc := 15) (dget kX1_numbers 9 rfl) 4 rfl ?_
      refine wr_callSi (pc := 17) (Mc := mX8_isSet) (rest := []) cf_X1_28 cs_X8_isSet ⟨Nat.le_of_ble_eq_true rfl, Nat.le_of_ble_eq_true rfl⟩ rfl rfl (Nat.le_of_ble_eq_true rfl) (dget kX1_numbers 10 rfl) (tX8_isSet h) (fun r_3 σ_2 h => ?_)
      refine wr_if_eq (pc := 20) (tgt := 46) (dget kX1_numbers 11 rfl) (by decide) (fun c_4 => ?_) (fun c_4 => ?_)
      · have h := h.1 c_4
        obtain ⟨x4_5, e_x4_5⟩ : ∃ y : Int32, y = x4 + (1 : Int32) := ⟨_, rfl⟩
        have h := h x4_5 e_x4_5
        refine wr_iinc (pc := 46) (v := x4_5) (lv' := [(4, .int x4_5), (0, .ref (G.1 10)), (1, .int x1), (2, .int x2), (3, .int x3)]) (dget kX1_numbers 27 rfl) 4 rfl (by rw [e_x4_5, ic_1]) (by decide) rfl ?_
        refine wr_goto (pc := 49) (tgt := 5) (dget kX1_numbers 28 rfl) (by decide) ?_
        refine wr_sub [1, 2, 3, 4, 0] rfl ?_
        exact ih _ _ _ h
      · have h := h.2 c_4
        refine wr_aload_n (pc := 23) (dget kX1_numbers 12 rfl) 0 rfl ?_
        refine wr_getRl (pc := 24) fl_X1_9 kd_10 fk_1_0 rt_10_0 (dget kX1_numbers 13 rfl) ?_
        refine wr_iload (pc := 27) (dget kX1_numbers 14 rfl) 4 rfl ?_
        obtain ⟨q_6, h⟩ := h
        refine wr_ialdl (pc := 29) (σ := σ_2) il_11 q_6 (dget kX1_numbers 15 rfl) ?_
        refine wr_iload_n (pc := 30) (dget kX1_numbers 16 rfl) 2 rfl ?_
        refine wr_icmp_ne (pc := 31) (tgt := 46) (dget kX1_numbers 17 rfl) (by decide) (fun c_7 => ?_) (fun c_7 => ?_)
        · have h := h.2 c_7
          obtain ⟨x4_8, e_x4_8⟩ : ∃ y : Int32, y = x4 + (1 : Int32) := ⟨_, rfl⟩
          have h := h x4_8 e_x4_8
          refine wr_iinc (pc := 46) (v := x4_8) (lv' := [(4, .int x4_8), (0, .ref (G.1 10)), (1, .int x1), (2, .int x2), (3, .int x3)]) (dget kX1_numbers 27 rfl) 4 rfl (by rw [e_x4_8, ic_1]) (by decide) rfl ?_
          refine wr_goto (pc := 49) (tgt := 5) (dget kX1_numbers 28 rfl) (by decide) ?_
          refine wr_sub [1, 2, 3, 4, 0] rfl ?_
          exact ih _ _ _ h
        · have h := h.1 c_7
          refine wr_iload_n (pc := 34) (dget kX1_numbers 18 rfl) 3 rfl ?_
          refine wr_iconst (pc := 35) (dget kX1_numbers 19 rfl) ic_1 ?_
          refine wr_aload_n (pc := 36) (dget kX1_numbers 20 rfl) 0 rfl ?_
          refine wr_getRl (pc := 37) fl_X1_18 kd_10 fk_1_2 rt_10_2 (dget kX1_numbers 21 rfl) ?_
          refine wr_iload (pc := 40) (dget kX1_numbers 22 rfl) 4 rfl ?_
          obtain ⟨q_9, h⟩ := h
          refine wr_ialdl (pc := 42) (σ := σ_2) il_13 q_9 (dget kX1_numbers 23 rfl) ?_
          refine wr_ishl (pc := 43) (dget kX1_numbers 24 rfl) ?_
          refine wr_ior (pc := 44) (dget kX1_numbers 25 rfl) ?_
          refine wr_topi (fun x3_10 e_x3_10 => ?_)
          have h := h x3_10 e_x3_10
          refine wr_istore_n (pc := 45) (lv' := [(3, .int x3_10), (0, .ref (G.1 10)), (1, .int x1), (2, .int x2), (4, .int x4)]) (dget kX1_numbers 26 rfl) (by decide) rfl ?_
          obtain ⟨x4_11, e_x4_11⟩ : ∃ y : Int32, y = x4 + (1 : Int32) := ⟨_, rfl⟩
          have h := h x4_11 e_x4_11
          refine wr_iinc (pc := 46) (v := x4_11) (lv' := [(4, .int x4_11), (3, .int x3_10), (0, .ref (G.1 10)), (1, .int x1), (2, .int x2)]) (dget kX1_numbers 27 rfl) 4 rfl (by rw [e_x4_11, ic_1]) (by decide) rfl ?_
          refine wr_goto (pc := 49) (tgt := 5) (dget kX1_numbers 28 rfl) (by decide) ?_
          refine wr_sub [2, 3, 4, 1, 0] rfl ?_
          exact ih _ _ _ h
def vX1_numbers (p1 : Int32) (p2 : Int32) (σ : Hp) (post : Int32 → Hp → Prop) : Prop := (∃ fu : Nat, vX1_numbers_5 post (fun z3_1 σ_2 => post z3_1 σ_2) p1 p2 fu (0 : Int32) (0 : Int32) σ)
set_option maxHeartbeats 4000000 in
set_option maxRecDepth 100000 in
theorem tX1_numbers {G : GT} {p1 : Int32} {p2 : Int32} {σ : Hp} {post : Int32 → Hp → Prop} (h : vX1_numbers p1 p2 σ post) : CT G mX1_numbers [.ref (G.1 10), .int p1, .int p2] σ (LI post) := by
  refine CT.of (by decide +kernel) (Nat.le_of_ble_eq_true rfl) ?_
  show WP G mX1_numbers 0 [(0, .ref (G.1 10)), (1, .int p1), (2, .int p2)] [] σ (LI post)
  unfold vX1_numbers at h
  refine wr_iconst (pc := 0) (dget kX1_numbers 0 rfl) ic_0 ?_
  refine wr_istore_n (pc := 1) (lv' := [(3, .int (0 : Int32)), (0, .ref (G.1 10)), (1, .int p1), (2, .int p2)]) (dget kX1_numbers 1 rfl) (by decide) rfl ?_
  refine wr_iconst (pc := 2) (dget kX1_numbers 2 rfl) ic_0 ?_
  refine wr_istore (pc := 3) (lv' := [(4, .int (0 : Int32)), (3, .int (0 : Int32)), (0, .ref (G.1 10)), (1, .int p1), (2, .int p2)]) (dget kX1_numbers 3 rfl) (by decide) rfl ?_
  obtain ⟨fu, h⟩ := h
  refine wr_sub [2, 3, 4, 1, 0] rfl ?_
  refine tX1_numbers_5 (fun z3_1 σ_2 h => ?_) fu _ _ _ h
  refine wr_iload_n (pc := 52) (dget kX1_numbers 29 rfl) 0 rfl ?_
  exact wr_iret (pc := 53) rfl (dget kX1_numbers 30 rfl) ⟨_, rfl, h⟩
def vX1_isFull (σ : Hp) (post : Int32 → Hp → Prop) : Prop := (((σ.1 10 4) < (8 : Int32) → post (0 : Int32) σ) ∧ (¬ (σ.1 10 4) < (8 : Int32) → post (1 : Int32) σ))
set_option maxHeartbeats 4000000 in
set_option maxRecDepth 100000 in
theorem tX1_isFull {G : GT} {σ : Hp} {post : Int32 → Hp → Prop} (h : vX1_isFull  σ post) : CT G mX1_isFull [.ref (G.1 10)] σ (LI post) := by
  refine CT.of (by decide +kernel) (Nat.le_of_ble_eq_true rfl) ?_
  show WP G mX1_isFull 0 [(0, .ref (G.1 10))] [] σ (LI post)
  unfold vX1_isFull at h
  refine wr_aload_n (pc := 0) (dget kX1_isFull 0 rfl) 0 rfl ?_
  refine wr_getI (pc := 1) (σ := σ) fl_X1_24 kd_10 fk_1_4 (dget kX1_isFull 1 rfl) ?_
  refine wr_bipush (pc := 4) (dget kX1_isFull 2 rfl) bp_8 ?_
  refine wr_icmp_lt (pc := 6) (tgt := 13) (dget kX1_isFull 3 rfl) (by decide) (fun c_1 => ?_) (fun c_1 => ?_)
  · have h := h.1 c_1
    refine wr_iconst (pc := 13) (dget kX1_isFull 6 rfl) ic_0 ?_
    exact wr_zret (pc := 14) rfl (by decide) (dget kX1_isFull 7 rfl) ⟨_, rfl, h⟩
  · have h := h.2 c_1
    refine wr_iconst (pc := 9) (dget kX1_isFull 4 rfl) ic_1 ?_
    refine wr_goto (pc := 10) (tgt := 14) (dget kX1_isFull 5 rfl) (by decide) ?_
    exact wr_zret (pc := 14) rfl (by decide) (dget kX1_isFull 7 rfl) ⟨_, rfl, h⟩
def vX1_append (p1 : Int32) (p2 : Int32) (p3 : Int32) (σ : Hp) (post : Hp → Prop) : Prop := (vp_in (σ.1 10 4) 8 ∧ ∀ σ_2 : Hp, σ_2 = wI σ 11 ((σ.1 10 4)).toNatClampNeg p1 → (vp_in (σ_2.1 10 4) 8 ∧ ∀ σ_4 : Hp, σ_4 = wI σ_2 12 ((σ_2.1 10 4)).toNatClampNeg p2 → (vp_in (σ_4.1 10 4) 8 ∧ ∀ σ_6 : Hp, σ_6 = wI σ_4 13 ((σ_4.1 10 4)).toNatClampNeg p3 → (vp_in p2 24 ∧ (vp_in p2 24 ∧ ∀ σ_9 : Hp, σ_9 = wI σ_6 14 p2.toNatClampNeg ((σ_6.1 14 p2.toNatClampNeg) ||| ((1 : Int32) <<< ((σ_6.1 10 4) &&& 31))) → (∀ σ_10 : Hp, σ_10 = wI σ_9 10 4 ((σ_9.1 10 4) + (1 : Int32)) → post σ_10))))))
set_option maxHeartbeats 4000000 in
set_option maxRecDepth 100000 in
theorem tX1_append {G : GT} {p1 : Int32} {p2 : Int32} {p3 : Int32} {σ : Hp} {post : Hp → Prop} (h : vX1_append p1 p2 p3 σ post) : CT G mX1_append [.ref (G.1 10), .int p1, .int p2, .int p3] σ (LV post) := by
  refine CT.of (by decide +kernel) (Nat.le_of_ble_eq_true rfl) ?_
  show WP G mX1_append 0 [(0, .ref (G.1 10)), (1, .int p1), (2, .int p2), (3, .int p3)] [] σ (LV post)
  unfold vX1_append at h
  refine wr_aload_n (pc := 0) (dget kX1_append 0 rfl) 0 rfl ?_
  refine wr_getRl (pc := 1) fl_X1_9 kd_10 fk_1_0 rt_10_0 (dget kX1_append 1 rfl) ?_
  refine wr_aload_n (pc := 4) (dget kX1_append 2 rfl) 0 rfl ?_
  refine wr_getI (pc := 5) (σ := σ) fl_X1_24 kd_10 fk_1_4 (dget kX1_append 3 rfl) ?_
  refine wr_iload_n (pc := 8) (dget kX1_append 4 rfl) 1 rfl ?_
  obtain ⟨q_1, h⟩ := h
  refine wr_iastl (pc := 9) il_11 q_1 (dget kX1_append 5 rfl) ?_
  refine wr_tops (fun σ_2 e_σ_2 => ?_)
  have h := h σ_2 e_σ_2
  refine wr_aload_n (pc := 10) (dget kX1_append 6 rfl) 0 rfl ?_
  refine wr_getRl (pc := 11) fl_X1_15 kd_10 fk_1_1 rt_10_1 (dget kX1_append 7 rfl) ?_
  refine wr_aload_n (pc := 14) (dget kX1_append 8 rfl) 0 rfl ?_
  refine wr_getI (pc := 15) (σ := σ_2) fl_X1_24 kd_10 fk_1_4 (dget kX1_append 9 rfl) ?_
  refine wr_iload_n (pc := 18) (dget kX1_append 10 rfl) 2 rfl ?_
  obtain ⟨q_3, h⟩ := h
  refine wr_iastl (pc := 19) il_12 q_3 (dget kX1_append 11 rfl) ?_
  refine wr_tops (fun σ_4 e_σ_4 => ?_)
  have h := h σ_4 e_σ_4
  refine wr_aload_n (pc := 20) (dget kX1_append 12 rfl) 0 rfl ?_
  refine wr_getRl (pc := 21) fl_X1_18 kd_10 fk_1_2 rt_10_2 (dget kX1_append 13 rfl) ?_
  refine wr_aload_n (pc := 24) (dget kX1_append 14 rfl) 0 rfl ?_
  refine wr_getI (pc := 25) (σ := σ_4) fl_X1_24 kd_10 fk_1_4 (dget kX1_append 15 rfl) ?_
  refine wr_iload_n (pc := 28) (dget kX1_append 16 rfl) 3 rfl ?_
  obtain ⟨q_5, h⟩ := h
  refine wr_iastl (pc := 29) il_13 q_5 (dget kX1_append 17 rfl) ?_
  refine wr_tops (fun σ_6 e_σ_6 => ?_)
  have h := h σ_6 e_σ_6
  refine wr_aload_n (pc := 30) (dget kX1_append 18 rfl) 0 rfl ?_
  refine wr_getRl (pc := 31) fl_X1_21 kd_10 fk_1_3 rt_10_3 (dget kX1_append 19 rfl) ?_
  refine wr_iload_n (pc := 34) (dget kX1_append 20 rfl) 2 rfl ?_
  refine wr_dup2_11 (pc := 35) (dget kX1_append 21 rfl) rfl rfl ?_
  obtain ⟨q_7, h⟩ := h
  refine wr_ialdl (pc := 36) (σ := σ_6) il_14 q_7 (dget kX1_append 22 rfl) ?_
  refine wr_iconst (pc := 37) (dget kX1_append 23 rfl) ic_1 ?_
  refine wr_aload_n (pc := 38) (dget kX1_append 24 rfl) 0 rfl ?_
  refine wr_getI (pc := 39) (σ := σ_6) fl_X1_24 kd_10 fk_1_4 (dget kX1_append 25 rfl) ?_
  refine wr_ishl (pc := 42) (dget kX1_append 26 rfl) ?_
  refine wr_ior (pc := 43) (dget kX1_append 27 rfl) ?_
  obtain ⟨q_8, h⟩ := h
  refine wr_iastl (pc := 44) il_14 q_8 (dget kX1_append 28 rfl) ?_
  refine wr_tops (fun σ_9 e_σ_9 => ?_)
  have h := h σ_9 e_σ_9
  refine wr_aload_n (pc := 45) (dget kX1_append 29 rfl) 0 rfl ?_
  refine wr_dup (pc := 46) (dget kX1_append 30 rfl) rfl ?_
  refine wr_getI (pc := 47) (σ := σ_9) fl_X1_24 kd_10 fk_1_4 (dget kX1_append 31 rfl) ?_
  refine wr_iconst (pc := 50) (dget kX1_append 32 rfl) ic_1 ?_
  refine wr_iadd (pc := 51) (dget kX1_append 33 rfl) ?_
  refine wr_putI (pc := 52) fl_X1_24 kd_10 fk_1_4 (vp_nar_int _) rfl (dget kX1_append 34 rfl) ?_
  refine wr_tops (fun σ_10 e_σ_10 => ?_)
  have h := h σ_10 e_σ_10
  exact wr_vret (pc := 55) rfl (dget kX1_append 35 rfl) ⟨rfl, h⟩
def vX1_dropLast (σ : Hp) (post : Hp → Prop) : Prop := (∀ σ_1 : Hp, σ_1 = wI σ 10 4 ((σ.1 10 4) - (1 : Int32)) → (vp_in (σ_1.1 10 4) 8 ∧ (vp_in (σ_1.1 12 ((σ_1.1 10 4)).toNatClampNeg) 24 ∧ (vp_in (σ_1.1 12 ((σ_1.1 10 4)).toNatClampNeg) 24 ∧ ∀ σ_5 : Hp, σ_5 = wI σ_1 14 ((σ_1.1 12 ((σ_1.1 10 4)).toNatClampNeg)).toNatClampNeg ((σ_1.1 14 ((σ_1.1 12 ((σ_1.1 10 4)).toNatClampNeg)).toNatClampNeg) &&& (((1 : Int32) <<< ((σ_1.1 10 4) &&& 31)) ^^^ (-1 : Int32))) → post σ_5))))
set_option maxHeartbeats 4000000 in
set_option maxRecDepth 100000 in
theorem tX1_dropLast {G : GT} {σ : Hp} {post : Hp → Prop} (h : vX1_dropLast  σ post) : CT G mX1_dropLast [.ref (G.1 10)] σ (LV post) := by
  refine CT.of (by decide +kernel) (Nat.le_of_ble_eq_true rfl) ?_
  show WP G mX1_dropLast 0 [(0, .ref (G.1 10))] [] σ (LV post)
  unfold vX1_dropLast at h
  refine wr_aload_n (pc := 0) (dget kX1_dropLast 0 rfl) 0 rfl ?_
  refine wr_dup (pc := 1) (dget kX1_dropLast 1 rfl) rfl ?_
  refine wr_getI (pc := 2) (σ := σ) fl_X1_24 kd_10 fk_1_4 (dget kX1_dropLast 2 rfl) ?_
  refine wr_iconst (pc := 5) (dget kX1_dropLast 3 rfl) ic_1 ?_
  refine wr_isub (pc := 6) (dget kX1_dropLast 4 rfl) ?_
  refine wr_putI (pc := 7) fl_X1_24 kd_10 fk_1_4 (vp_nar_int _) rfl (dget kX1_dropLast 5 rfl) ?_
  refine wr_tops (fun σ_1 e_σ_1 => ?_)
  have h := h σ_1 e_σ_1
  refine wr_aload_n (pc := 10) (dget kX1_dropLast 6 rfl) 0 rfl ?_
  refine wr_getRl (pc := 11) fl_X1_21 kd_10 fk_1_3 rt_10_3 (dget kX1_dropLast 7 rfl) ?_
  refine wr_aload_n (pc := 14) (dget kX1_dropLast 8 rfl) 0 rfl ?_
  refine wr_getRl (pc := 15) fl_X1_15 kd_10 fk_1_1 rt_10_1 (dget kX1_dropLast 9 rfl) ?_
  refine wr_aload_n (pc := 18) (dget kX1_dropLast 10 rfl) 0 rfl ?_
  refine wr_getI (pc := 19) (σ := σ_1) fl_X1_24 kd_10 fk_1_4 (dget kX1_dropLast 11 rfl) ?_
  obtain ⟨q_2, h⟩ := h
  refine wr_ialdl (pc := 22) (σ := σ_1) il_12 q_2 (dget kX1_dropLast 12 rfl) ?_
  refine wr_dup2_11 (pc := 23) (dget kX1_dropLast 13 rfl) rfl rfl ?_
  obtain ⟨q_3, h⟩ := h
  refine wr_ialdl (pc := 24) (σ := σ_1) il_14 q_3 (dget kX1_dropLast 14 rfl) ?_
  refine wr_iconst (pc := 25) (dget kX1_dropLast 15 rfl) ic_1 ?_
  refine wr_aload_n (pc := 26) (dget kX1_dropLast 16 rfl) 0 rfl ?_
  refine wr_getI (pc := 27) (σ := σ_1) fl_X1_24 kd_10 fk_1_4 (dget kX1_dropLast 17 rfl) ?_
  refine wr_ishl (pc := 30) (dget kX1_dropLast 18 rfl) ?_
  refine wr_iconst (pc := 31) (dget kX1_dropLast 19 rfl) ic_m1 ?_
  refine wr_ixor (pc := 32) (dget kX1_dropLast 20 rfl) ?_
  refine wr_iand (pc := 33) (dget kX1_dropLast 21 rfl) ?_
  obtain ⟨q_4, h⟩ := h
  refine wr_iastl (pc := 34) il_14 q_4 (dget kX1_dropLast 22 rfl) ?_
  refine wr_tops (fun σ_5 e_σ_5 => ?_)
  have h := h σ_5 e_σ_5
  exact wr_vret (pc := 35) rfl (dget kX1_dropLast 23 rfl) ⟨rfl, h⟩
def vX1_all (σ : Hp) (post : Int32 → Hp → Prop) : Prop := post (((1 : Int32) <<< ((σ.1 10 4) &&& 31)) - (1 : Int32)) σ
set_option maxHeartbeats 4000000 in
set_option maxRecDepth 100000 in
theorem tX1_all {G : GT} {σ : Hp} {post : Int32 → Hp → Prop} (h : vX1_all  σ post) : CT G mX1_all [.ref (G.1 10)] σ (LI post) := by
  refine CT.of (by decide +kernel) (Nat.le_of_ble_eq_true rfl) ?_
  show WP G mX1_all 0 [(0, .ref (G.1 10))] [] σ (LI post)
  unfold vX1_all at h
  refine wr_iconst (pc := 0) (dget kX1_all 0 rfl) ic_1 ?_
  refine wr_aload_n (pc := 1) (dget kX1_all 1 rfl) 0 rfl ?_
  refine wr_getI (pc := 2) (σ := σ) fl_X1_24 kd_10 fk_1_4 (dget kX1_all 2 rfl) ?_
  refine wr_ishl (pc := 5) (dget kX1_all 3 rfl) ?_
  refine wr_iconst (pc := 6) (dget kX1_all 4 rfl) ic_1 ?_
  refine wr_isub (pc := 7) (dget kX1_all 5 rfl) ?_
  exact wr_iret (pc := 8) rfl (dget kX1_all 6 rfl) ⟨_, rfl, h⟩
