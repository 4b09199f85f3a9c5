def vX9_alike_17 (post : Int32 → Hp → Prop) (ex : Int32 → Hp → Prop) (x1 : Int32) (x2 : Int32) (x3 : Int32) (x4 : Int32) : Nat → Int32 → Int32 → Hp → Prop
  | 0 => fun _ _ _ => False
  | n + 1 => fun x5 x6 σ => (((5 : Int32) ≤ x6 → (ex x5 σ)) ∧ (¬ (5 : Int32) ≤ x6 → (vX9_isIn x1 x4 σ (fun r_3 σ_2 => ((r_3 = 0 → (∀ x5_5 : Int32, x5_5 = (x5 + (0 : Int32)) → (∀ x6_6 : Int32, x6_6 = x6 + (1 : Int32) → vX9_alike_17 post ex x1 x2 x3 x4 n x5_5 x6_6 σ_2))) ∧ (¬ r_3 = 0 → (vX9_isIn x1 x6 σ_2 (fun r_8 σ_7 => ((r_8 = 0 → (∀ x5_10 : Int32, x5_10 = (x5 + (0 : Int32)) → (∀ x6_11 : Int32, x6_11 = x6 + (1 : Int32) → vX9_alike_17 post ex x1 x2 x3 x4 n x5_10 x6_11 σ_7))) ∧ (¬ r_8 = 0 → (vp_in (((24 : Int32) * x4) + x2) 120 ∧ (vp_in (((24 : Int32) * x6) + x2) 120 ∧ (((σ_7.1 92 ((((24 : Int32) * x4) + x2)).toNatClampNeg) = (σ_7.1 92 ((((24 : Int32) * x6) + x2)).toNatClampNeg) → (∀ x5_17 : Int32, x5_17 = (x5 + (1 : Int32)) → (∀ x6_18 : Int32, x6_18 = x6 + (1 : Int32) → vX9_alike_17 post ex x1 x2 x3 x4 n x5_17 x6_18 σ_7))) ∧ (¬ (σ_7.1 92 ((((24 : Int32) * x4) + x2)).toNatClampNeg) = (σ_7.1 92 ((((24 : Int32) * x6) + x2)).toNatClampNeg) → (∀ x5_15 : Int32, x5_15 = (x5 + (0 : Int32)) → (∀ x6_16 : Int32, x6_16 = x6 + (1 : Int32) → vX9_alike_17 post ex x1 x2 x3 x4 n x5_15 x6_16 σ_7))))))))))))))))
set_option maxHeartbeats 4000000 in
set_option maxRecDepth 100000 in
theorem tX9_alike_17 {G : GT} {post : Int32 → Hp → Prop} {ex : Int32 → Hp → Prop} {x1 : Int32} {x2 : Int32} {x3 : Int32} {x4 : Int32} (hex : ∀ (z5 : Int32) (τ : Hp), ex z5 τ → WP G mX9_alike 84 [(0, .ref (G.1 71)), (1, .int x1), (2, .int x2), (3, .int x3), (4, .int x4), (5, .int z5)] [] τ (LI post)) : ∀ (n : Nat) (x5 : Int32) (x6 : Int32) (σ : Hp), vX9_alike_17 post ex x1 x2 x3 x4 n x5 x6 σ → WP G mX9_alike 17 [(0, .ref (G.1 71)), (1, .int x1), (2, .int x2), (3, .int x3), (4, .int x4), (5, .int x5), (6, .int x6)] [] σ (LI post) := by
  intro n
  induction n with
  | zero => intro x5 x6 σ h; exact False.elim h
  | succ n ih =>
    intro x5 x6 σ h
    simp only [vX9_alike_17] at h
    refine wr_iload (pc := 17) (dget kX9_alike 11 rfl) 6 rfl ?_
    refine wr_iconst (pc := 19) (dget kX9_alike 12 rfl) ic_5 ?_
    refine wr_icmp_ge (pc := 20) (tgt := 84) (dget kX9_alike 13 rfl) (by decide) (fun c_1 => ?_) (fun c_1 => ?_)
    · have h := h.1 c_1
      refine wr_sub [0, 1, 2, 3, 4, 5] rfl ?_
      exact hex _ _ h
    · have h := h.2 c_1
      refine wr_iload (pc := 23) (dget kX9_alike 14 rfl) 5 rfl ?_
      refine wr_iload_n (pc := 25) (dget kX9_alike 15 rfl) 1 rfl ?_
      refine wr_iload (pc := 26) (dget kX9_alike 16 rfl) 4 rfl ?_
      refine wr_callSi (pc := 28) (Mc := mX9_isIn) (rest := [.int x5]) cf_X9_180 cs_X9_isIn ⟨Nat.le_of_ble_eq_true rfl, Nat.le_of_ble_eq_true rfl⟩ rfl rfl (Nat.le_of_ble_eq_true rfl) (dget kX9_alike 17 rfl) (tX9_isIn h) (fun r_3 σ_2 h => ?_)
      refine wr_if_eq (pc := 31) (tgt := 74) (dget kX9_alike 18 rfl) (by decide) (fun c_4 => ?_) (fun c_4 => ?_)
      · have h := h.1 c_4
        refine wr_iconst (pc := 74) (dget kX9_alike 42 rfl) ic_0 ?_
        refine wr_iadd (pc := 75) (dget kX9_alike 43 rfl) ?_
        refine wr_topi (fun x5_5 e_x5_5 => ?_)
        have h := h x5_5 e_x5_5
        refine wr_istore (pc := 76) (lv' := [(5, .int x5_5), (0, .ref (G.1 71)), (1, .int x1), (2, .int x2), (3, .int x3), (4, .int x4), (6, .int x6)]) (dget kX9_alike 44 rfl) (by decide) rfl ?_
        obtain ⟨x6_6, e_x6_6⟩ : ∃ y : Int32, y = x6 + (1 : Int32) := ⟨_, rfl⟩
        have h := h x6_6 e_x6_6
        refine wr_iinc (pc := 78) (v := x6_6) (lv' := [(6, .int x6_6), (5, .int x5_5), (0, .ref (G.1 71)), (1, .int x1), (2, .int x2), (3, .int x3), (4, .int x4)]) (dget kX9_alike 45 rfl) 6 rfl (by rw [e_x6_6, ic_1]) (by decide) rfl ?_
        refine wr_goto (pc := 81) (tgt := 17) (dget kX9_alike 46 rfl) (by decide) ?_
        refine wr_sub [2, 3, 4, 5, 6, 1, 0] rfl ?_
        exact ih _ _ _ h
      · have h := h.2 c_4
        refine wr_iload_n (pc := 34) (dget kX9_alike 19 rfl) 1 rfl ?_
        refine wr_iload (pc := 35) (dget kX9_alike 20 rfl) 6 rfl ?_
        refine wr_callSi (pc := 37) (Mc := mX9_isIn) (rest := [.int x5]) cf_X9_180 cs_X9_isIn ⟨Nat.le_of_ble_eq_true rfl, Nat.le_of_ble_eq_true rfl⟩ rfl rfl (Nat.le_of_ble_eq_true rfl) (dget kX9_alike 21 rfl) (tX9_isIn h) (fun r_8 σ_7 h => ?_)
        refine wr_if_eq (pc := 40) (tgt := 74) (dget kX9_alike 22 rfl) (by decide) (fun c_9 => ?_) (fun c_9 => ?_)
        · have h := h.1 c_9
          refine wr_iconst (pc := 74) (dget kX9_alike 42 rfl) ic_0 ?_
          refine wr_iadd (pc := 75) (dget kX9_alike 43 rfl) ?_
          refine wr_topi (fun x5_10 e_x5_10 => ?_)
          have h := h x5_10 e_x5_10
          refine wr_istore (pc := 76) (lv' := [(5, .int x5_10), (0, .ref (G.1 71)), (1, .int x1), (2, .int x2), (3, .int x3), (4, .int x4), (6, .int x6)]) (dget kX9_alike 44 rfl) (by decide) rfl ?_
          obtain ⟨x6_11, e_x6_11⟩ : ∃ y : Int32, y = x6 + (1 : Int32) := ⟨_, rfl⟩
          have h := h x6_11 e_x6_11
          refine wr_iinc (pc := 78) (v := x6_11) (lv' := [(6, .int x6_11), (5, .int x5_10), (0, .ref (G.1 71)), (1, .int x1), (2, .int x2), (3, .int x3), (4, .int x4)]) (dget kX9_alike 45 rfl) 6 rfl (by rw [e_x6_11, ic_1]) (by decide) rfl ?_
          refine wr_goto (pc := 81) (tgt := 17) (dget kX9_alike 46 rfl) (by decide) ?_
          refine wr_sub [2, 3, 4, 5, 6, 1, 0] rfl ?_
          exact ih _ _ _ h
        · have h := h.2 c_9
          refine wr_aload_n (pc := 43) (dget kX9_alike 23 rfl) 0 rfl ?_
          refine wr_getRl (pc := 44) fl_X9_70 kd_71 fk_9_26 rt_71_26 (dget kX9_alike 24 rfl) ?_
          refine wr_bipush (pc := 47) (dget kX9_alike 25 rfl) bp_24 ?_
          refine wr_iload (pc := 49) (dget kX9_alike 26 rfl) 4 rfl ?_
          refine wr_imul (pc := 51) (dget kX9_alike 27 rfl) ?_
          refine wr_iload_n (pc := 52) (dget kX9_alike 28 rfl) 2 rfl ?_
          refine wr_iadd (pc := 53) (dget kX9_alike 29 rfl) ?_
          obtain ⟨q_12, h⟩ := h
          refine wr_ialdl (pc := 54) (σ := σ_7) il_92 q_12 (dget kX9_alike 30 rfl) ?_
          refine wr_aload_n (pc := 55) (dget kX9_alike 31 rfl) 0 rfl ?_
          refine wr_getRl (pc := 56) fl_X9_70 kd_71 fk_9_26 rt_71_26 (dget kX9_alike 32 rfl) ?_
          refine wr_bipush (pc := 59) (dget kX9_alike 33 rfl) bp_24 ?_
          refine wr_iload (pc := 61) (dget kX9_alike 34 rfl) 6 rfl ?_
          refine wr_imul (pc := 63) (dget kX9_alike 35 rfl) ?_
          refine wr_iload_n (pc := 64) (dget kX9_alike 36 rfl) 2 rfl ?_
          refine wr_iadd (pc := 65) (dget kX9_alike 37 rfl) ?_
          obtain ⟨q_13, h⟩ := h
          refine wr_ialdl (pc := 66) (σ := σ_7) il_92 q_13 (dget kX9_alike 38 rfl) ?_
          refine wr_icmp_ne (pc := 67) (tgt := 74) (dget kX9_alike 39 rfl) (by decide) (fun c_14 => ?_) (fun c_14 => ?_)
          · have h := h.2 c_14
            refine wr_iconst (pc := 74) (dget kX9_alike 42 rfl) ic_0 ?_
            refine wr_iadd (pc := 75) (dget kX9_alike 43 rfl) ?_
            refine wr_topi (fun x5_15 e_x5_15 => ?_)
            have h := h x5_15 e_x5_15
            refine wr_istore (pc := 76) (lv' := [(5, .int x5_15), (0, .ref (G.1 71)), (1, .int x1), (2, .int x2), (3, .int x3), (4, .int x4), (6, .int x6)]) (dget kX9_alike 44 rfl) (by decide) rfl ?_
            obtain ⟨x6_16, e_x6_16⟩ : ∃ y : Int32, y = x6 + (1 : Int32) := ⟨_, rfl⟩
            have h := h x6_16 e_x6_16
            refine wr_iinc (pc := 78) (v := x6_16) (lv' := [(6, .int x6_16), (5, .int x5_15), (0, .ref (G.1 71)), (1, .int x1), (2, .int x2), (3, .int x3), (4, .int x4)]) (dget kX9_alike 45 rfl) 6 rfl (by rw [e_x6_16, ic_1]) (by decide) rfl ?_
            refine wr_goto (pc := 81) (tgt := 17) (dget kX9_alike 46 rfl) (by decide) ?_
            refine wr_sub [2, 3, 4, 5, 6, 1, 0] rfl ?_
            exact ih _ _ _ h
          · have h := h.1 c_14
            refine wr_iconst (pc := 70) (dget kX9_alike 40 rfl) ic_1 ?_
            refine wr_goto (pc := 71) (tgt := 75) (dget kX9_alike 41 rfl) (by decide) ?_
            refine wr_iadd (pc := 75) (dget kX9_alike 43 rfl) ?_
            refine wr_topi (fun x5_17 e_x5_17 => ?_)
            have h := h x5_17 e_x5_17
            refine wr_istore (pc := 76) (lv' := [(5, .int x5_17), (0, .ref (G.1 71)), (1, .int x1), (2, .int x2), (3, .int x3), (4, .int x4), (6, .int x6)]) (dget kX9_alike 44 rfl) (by decide) rfl ?_
            obtain ⟨x6_18, e_x6_18⟩ : ∃ y : Int32, y = x6 + (1 : Int32) := ⟨_, rfl⟩
            have h := h x6_18 e_x6_18
            refine wr_iinc (pc := 78) (v := x6_18) (lv' := [(6, .int x6_18), (5, .int x5_17), (0, .ref (G.1 71)), (1, .int x1), (2, .int x2), (3, .int x3), (4, .int x4)]) (dget kX9_alike 45 rfl) 6 rfl (by rw [e_x6_18, ic_1]) (by decide) rfl ?_
            refine wr_goto (pc := 81) (tgt := 17) (dget kX9_alike 46 rfl) (by decide) ?_
            refine wr_sub [2, 3, 4, 5, 6, 1, 0] rfl ?_
            exact ih _ _ _ h
def vX9_alike_5 (post : Int32 → Hp → Prop) (ex : Int32 → Hp → Prop) (x1 : Int32) (x2 : Int32) : Nat → Int32 → Int32 → Hp → Prop
  | 0 => fun _ _ _ => False
  | n + 1 => fun x3 x4 σ => (((5 : Int32) ≤ x4 → (ex x3 σ)) ∧ (¬ (5 : Int32) ≤ x4 → (∃ fu : Nat, vX9_alike_17 post (fun z5_2 σ_3 => (vX9_greater z5_2 x3 σ_3 (fun r_5 σ_4 => (∀ x4_6 : Int32, x4_6 = x4 + (1 : Int32) → vX9_alike_5 post ex x1 x2 n r_5 x4_6 σ_4)))) x1 x2 x3 x4 fu (0 : Int32) (0 : Int32) σ)))
set_option maxHeartbeats 4000000 in
set_option maxRecDepth 100000 in
theorem tX9_alike_5 {G : GT} {post : Int32 → Hp → Prop} {ex : Int32 → Hp → Prop} {x1 : Int32} {x2 : Int32} (hex : ∀ (z3 : Int32) (τ : Hp), ex z3 τ → WP G mX9_alike 97 [(3, .int z3)] [] τ (LI post)) : ∀ (n : Nat) (x3 : Int32) (x4 : Int32) (σ : Hp), vX9_alike_5 post ex x1 x2 n x3 x4 σ → WP G mX9_alike 5 [(0, .ref (G.1 71)), (1, .int x1), (2, .int x2), (3, .int x3), (4, .int x4)] [] σ (LI post) := by
  intro n
  induction n with
  | zero => intro x3 x4 σ h; exact False.elim h
  | succ n ih =>
    intro x3 x4 σ h
    simp only [vX9_alike_5] at h
    refine wr_iload (pc := 5) (dget kX9_alike 4 rfl) 4 rfl ?_
    refine wr_iconst (pc := 7) (dget kX9_alike 5 rfl) ic_5 ?_
    refine wr_icmp_ge (pc := 8) (tgt := 97) (dget kX9_alike 6 rfl) (by decide) (fun c_1 => ?_) (fun c_1 => ?_)
    · have h := h.1 c_1
      refine wr_sub [3] rfl ?_
      exact hex _ _ h
    · have h := h.2 c_1
      refine wr_iconst (pc := 11) (dget kX9_alike 7 rfl) ic_0 ?_
      refine wr_istore (pc := 12) (lv' := [(5, .int (0 : Int32)), (0, .ref (G.1 71)), (1, .int x1), (2, .int x2), (3, .int x3), (4, .int x4)]) (dget kX9_alike 8 rfl) (by decide) rfl ?_
      refine wr_iconst (pc := 14) (dget kX9_alike 9 rfl) ic_0 ?_
      refine wr_istore (pc := 15) (lv' := [(6, .int (0 : Int32)), (5, .int (0 : Int32)), (0, .ref (G.1 71)), (1, .int x1), (2, .int x2), (3, .int x3), (4, .int x4)]) (dget kX9_alike 10 rfl) (by decide) rfl ?_
      obtain ⟨fu, h⟩ := h
      refine wr_sub [2, 3, 4, 5, 6, 1, 0] rfl ?_
      refine tX9_alike_17 (fun z5_2 σ_3 h => ?_) fu _ _ _ h
      refine wr_iload (pc := 84) (dget kX9_alike 47 rfl) 5 rfl ?_
      refine wr_iload_n (pc := 86) (dget kX9_alike 48 rfl) 3 rfl ?_
      refine wr_callSi (pc := 87) (Mc := mX9_greater) (rest := []) cf_X9_230 cs_X9_greater ⟨Nat.le_of_ble_eq_true rfl, Nat.le_of_ble_eq_true rfl⟩ rfl rfl (Nat.le_of_ble_eq_true rfl) (dget kX9_alike 49 rfl) (tX9_greater h) (fun r_5 σ_4 h => ?_)
      refine wr_istore_n (pc := 90) (lv' := [(3, .int r_5), (0, .ref (G.1 71)), (1, .int x1), (2, .int x2), (4, .int x4), (5, .int z5_2)]) (dget kX9_alike 50 rfl) (by decide) rfl ?_
      obtain ⟨x4_6, e_x4_6⟩ : ∃ y : Int32, y = x4 + (1 : Int32) := ⟨_, rfl⟩
      have h := h x4_6 e_x4_6
      refine wr_iinc (pc := 91) (v := x4_6) (lv' := [(4, .int x4_6), (3, .int r_5), (0, .ref (G.1 71)), (1, .int x1), (2, .int x2), (5, .int z5_2)]) (dget kX9_alike 51 rfl) 4 rfl (by rw [e_x4_6, ic_1]) (by decide) rfl ?_
      refine wr_goto (pc := 94) (tgt := 5) (dget kX9_alike 52 rfl) (by decide) ?_
      refine wr_sub [2, 3, 4, 1, 0] rfl ?_
      exact ih _ _ _ h
def vX9_alike (p1 : Int32) (p2 : Int32) (σ : Hp) (post : Int32 → Hp → Prop) : Prop := (∃ fu : Nat, vX9_alike_5 post (fun z3_1 σ_2 => post z3_1 σ_2) p1 p2 fu (0 : Int32) (0 : Int32) σ)
set_option maxHeartbeats 4000000 in
set_option maxRecDepth 100000 in
theorem tX9_alike {G : GT} {p1 : Int32} {p2 : Int32} {σ : Hp} {post : Int32 → Hp → Prop} (h : vX9_alike p1 p2 σ post) : CT G mX9_alike [.ref (G.1 71), .int p1, .int p2] σ (LI post) := by
  refine CT.of (by decide +kernel) (Nat.le_of_ble_eq_true rfl) ?_
  show WP G mX9_alike 0 [(0, .ref (G.1 71)), (1, .int p1), (2, .int p2)] [] σ (LI post)
  unfold vX9_alike at h
  refine wr_iconst (pc := 0) (dget kX9_alike 0 rfl) ic_0 ?_
  refine wr_istore_n (pc := 1) (lv' := [(3, .int (0 : Int32)), (0, .ref (G.1 71)), (1, .int p1), (2, .int p2)]) (dget kX9_alike 1 rfl) (by decide) rfl ?_
  refine wr_iconst (pc := 2) (dget kX9_alike 2 rfl) ic_0 ?_
  refine wr_istore (pc := 3) (lv' := [(4, .int (0 : Int32)), (3, .int (0 : Int32)), (0, .ref (G.1 71)), (1, .int p1), (2, .int p2)]) (dget kX9_alike 3 rfl) (by decide) rfl ?_
  obtain ⟨fu, h⟩ := h
  refine wr_sub [2, 3, 4, 1, 0] rfl ?_
  refine tX9_alike_5 (fun z3_1 σ_2 h => ?_) fu _ _ _ h
  refine wr_iload_n (pc := 97) (dget kX9_alike 53 rfl) 0 rfl ?_
  exact wr_iret (pc := 98) rfl (dget kX9_alike 54 rfl) ⟨_, rfl, h⟩
def vX9_askNow_9 (post : Int32 → Hp → Prop) (ex : Int32 → Hp → Prop) (x1 : Int32) : Nat → Int32 → Int32 → Hp → Prop
  | 0 => fun _ _ _ => False
  | n + 1 => fun x2 x3 σ => (((24 : Int32) ≤ x3 → (ex x2 σ)) ∧ (¬ (24 : Int32) ≤ x3 → (vX9_alike x1 x3 σ (fun r_3 σ_2 => (vX9_alike x1 x2 σ_2 (fun r_5 σ_4 => ((r_5 ≤ r_3 → (∀ x3_7 : Int32, x3_7 = x3 + (1 : Int32) → vX9_askNow_9 post ex x1 n x2 x3_7 σ_4)) ∧ (¬ r_5 ≤ r_3 → (∀ x3_8 : Int32, x3_8 = x3 + (1 : Int32) → vX9_askNow_9 post ex x1 n x3 x3_8 σ_4)))))))))
set_option maxHeartbeats 4000000 in
set_option maxRecDepth 100000 in
theorem tX9_askNow_9 {G : GT} {post : Int32 → Hp → Prop} {ex : Int32 → Hp → Prop} {x1 : Int32} (hex : ∀ (z2 : Int32) (τ : Hp), ex z2 τ → WP G mX9_askNow 42 [(2, .int z2)] [] τ (LI post)) : ∀ (n : Nat) (x2 : Int32) (x3 : Int32) (σ : Hp), vX9_askNow_9 post ex x1 n x2 x3 σ → WP G mX9_askNow 9 [(0, .ref (G.1 71)), (1, .int x1), (2, .int x2), (3, .int x3)] [] σ (LI post) := by
  intro n
  induction n with
  | zero => intro x2 x3 σ h; exact False.elim h
  | succ n ih =>
    intro x2 x3 σ h
    simp only [vX9_askNow_9] at h
    refine wr_iload_n (pc := 9) (dget kX9_askNow 7 rfl) 3 rfl ?_
    refine wr_bipush (pc := 10) (dget kX9_askNow 8 rfl) bp_24 ?_
    refine wr_icmp_ge (pc := 12) (tgt := 42) (dget kX9_askNow 9 rfl) (by decide) (fun c_1 => ?_) (fun c_1 => ?_)
    · have h := h.1 c_1
      refine wr_sub [2] rfl ?_
      exact hex _ _ h
    · have h := h.2 c_1
      refine wr_aload_n (pc := 15) (dget kX9_askNow 10 rfl) 0 rfl ?_
      refine wr_iload_n (pc := 16) (dget kX9_askNow 11 rfl) 1 rfl ?_
      refine wr_iload_n (pc := 17) (dget kX9_askNow 12 rfl) 3 rfl ?_
      refine wr_callVi (pc := 18) (Mc := mX9_alike) (o := 71) (rest := []) cf_X9_278 cv_X9_alike kd_71 rfl ⟨Nat.le_of_ble_eq_true rfl, Nat.le_of_ble_eq_true rfl⟩ rfl rfl (Nat.le_of_ble_eq_true rfl) (dget kX9_askNow 13 rfl) (tX9_alike h) (fun r_3 σ_2 h => ?_)
      refine wr_aload_n (pc := 21) (dget kX9_askNow 14 rfl) 0 rfl ?_
      refine wr_iload_n (pc := 22) (dget kX9_askNow 15 rfl) 1 rfl ?_
      refine wr_iload_n (pc := 23) (dget kX9_askNow 16 rfl) 2 rfl ?_
      refine wr_callVi (pc := 24) (Mc := mX9_alike) (o := 71) (rest := [.int r_3]) cf_X9_278 cv_X9_alike kd_71 rfl ⟨Nat.le_of_ble_eq_true rfl, Nat.le_of_ble_eq_true rfl⟩ rfl rfl (Nat.le_of_ble_eq_true rfl) (dget kX9_askNow 17 rfl) (tX9_alike h) (fun r_5 σ_4 h => ?_)
      refine wr_icmp_ge (pc := 27) (tgt := 34) (dget kX9_askNow 18 rfl) (by decide) (fun c_6 => ?_) (fun c_6 => ?_)
      · have h := h.1 c_6
        refine wr_iload_n (pc := 34) (dget kX9_askNow 21 rfl) 2 rfl ?_
        refine wr_istore_n (pc := 35) (lv' := [(2, .int x2), (0, .ref (G.1 71)), (1, .int x1), (3, .int x3)]) (dget kX9_askNow 22 rfl) (by decide) rfl ?_
        obtain ⟨x3_7, e_x3_7⟩ : ∃ y : Int32, y = x3 + (1 : Int32) := ⟨_, rfl⟩
        have h := h x3_7 e_x3_7
        refine wr_iinc (pc := 36) (v := x3_7) (lv' := [(3, .int x3_7), (2, .int x2), (0, .ref (G.1 71)), (1, .int x1)]) (dget kX9_askNow 23 rfl) 3 rfl (by rw [e_x3_7, ic_1]) (by decide) rfl ?_
        refine wr_goto (pc := 39) (tgt := 9) (dget kX9_askNow 24 rfl) (by decide) ?_
        refine wr_sub [2, 3, 1, 0] rfl ?_
        exact ih _ _ _ h
      · have h := h.2 c_6
        refine wr_iload_n (pc := 30) (dget kX9_askNow 19 rfl) 3 rfl ?_
        refine wr_goto (pc := 31) (tgt := 35) (dget kX9_askNow 20 rfl) (by decide) ?_
        refine wr_istore_n (pc := 35) (lv' := [(2, .int x3), (0, .ref (G.1 71)), (1, .int x1), (3, .int x3)]) (dget kX9_askNow 22 rfl) (by decide) rfl ?_
        obtain ⟨x3_8, e_x3_8⟩ : ∃ y : Int32, y = x3 + (1 : Int32) := ⟨_, rfl⟩
        have h := h x3_8 e_x3_8
        refine wr_iinc (pc := 36) (v := x3_8) (lv' := [(3, .int x3_8), (2, .int x3), (0, .ref (G.1 71)), (1, .int x1)]) (dget kX9_askNow 23 rfl) 3 rfl (by rw [e_x3_8, ic_1]) (by decide) rfl ?_
        refine wr_goto (pc := 39) (tgt := 9) (dget kX9_askNow 24 rfl) (by decide) ?_
        refine wr_sub [2, 3, 1, 0] rfl ?_
        exact ih _ _ _ h
def vX9_askNow (σ : Hp) (post : Int32 → Hp → Prop) : Prop := (vX9_pullsNow  σ (fun r_2 σ_1 => (∃ fu : Nat, vX9_askNow_9 post (fun z2_3 σ_4 => post z2_3 σ_4) r_2 fu (0 : Int32) (1 : Int32) σ_1)))
set_option maxHeartbeats 4000000 in
set_option maxRecDepth 100000 in
theorem tX9_askNow {G : GT} {σ : Hp} {post : Int32 → Hp → Prop} (h : vX9_askNow  σ post) : CT G mX9_askNow [.ref (G.1 71)] σ (LI post) := by
  refine CT.of (by decide +kernel) (Nat.le_of_ble_eq_true rfl) ?_
  show WP G mX9_askNow 0 [(0, .ref (G.1 71))] [] σ (LI post)
  unfold vX9_askNow at h
  refine wr_aload_n (pc := 0) (dget kX9_askNow 0 rfl) 0 rfl ?_
  refine wr_callVi (pc := 1) (Mc := mX9_pullsNow) (o := 71) (rest := []) cf_X9_269 cv_X9_pullsNow kd_71 rfl ⟨Nat.le_of_ble_eq_true rfl, Nat.le_of_ble_eq_true rfl⟩ rfl rfl (Nat.le_of_ble_eq_true rfl) (dget kX9_askNow 1 rfl) (tX9_pullsNow h) (fun r_2 σ_1 h => ?_)
  refine wr_istore_n (pc := 4) (lv' := [(1, .int r_2), (0, .ref (G.1 71))]) (dget kX9_askNow 2 rfl) (by decide) rfl ?_
  refine wr_iconst (pc := 5) (dget kX9_askNow 3 rfl) ic_0 ?_
  refine wr_istore_n (pc := 6) (lv' := [(2, .int (0 : Int32)), (1, .int r_2), (0, .ref (G.1 71))]) (dget kX9_askNow 4 rfl) (by decide) rfl ?_
  refine wr_iconst (pc := 7) (dget kX9_askNow 5 rfl) ic_1 ?_
  refine wr_istore_n (pc := 8) (lv' := [(3, .int (1 : Int32)), (2, .int (0 : Int32)), (1, .int r_2), (0, .ref (G.1 71))]) (dget kX9_askNow 6 rfl) (by decide) rfl ?_
  obtain ⟨fu, h⟩ := h
  refine wr_sub [3, 2, 1, 0] rfl ?_
  refine tX9_askNow_9 (fun z2_3 σ_4 h => ?_) fu _ _ _ h
  refine wr_iload_n (pc := 42) (dget kX9_askNow 25 rfl) 0 rfl ?_
  exact wr_iret (pc := 43) rfl (dget kX9_askNow 26 rfl) ⟨_, rfl, h⟩
def vX9_ask (σ : Hp) (post : Int32 → Hp → Prop) : Prop := (vX9_find  σ (fun σ_1 => (vX9_askNow  σ_1 (fun r_4 σ_3 => post r_4 σ_3))))
set_option maxHeartbeats 4000000 in
set_option maxRecDepth 100000 in
theorem tX9_ask {G : GT} {σ : Hp} {post : Int32 → Hp → Prop} (h : vX9_ask  σ post) : CT G mX9_ask [.ref (G.1 71)] σ (LI post) := by
  refine CT.of (by decide +kernel) (Nat.le_of_ble_eq_true rfl) ?_
  show WP G mX9_ask 0 [(0, .ref (G.1 71))] [] σ (LI post)
  unfold vX9_ask at h
  refine wr_aload_n (pc := 0) (dget kX9_ask 0 rfl) 0 rfl ?_
  refine wr_callVv (pc := 1) (Mc := mX9_find) (o := 71) (rest := []) cf_X9_206 cv_X9_find kd_71 rfl ⟨Nat.le_of_ble_eq_true rfl, Nat.le_of_ble_eq_true rfl⟩ rfl rfl (Nat.le_of_ble_eq_true rfl) (dget kX9_ask 1 rfl) (tX9_find h) (fun σ_1 h => ?_)
  refine wr_aload_n (pc := 4) (dget kX9_ask 2 rfl) 0 rfl ?_
  refine wr_callVi (pc := 5) (Mc := mX9_askNow) (o := 71) (rest := []) cf_X9_281 cv_X9_askNow kd_71 rfl ⟨Nat.le_of_ble_eq_true rfl, Nat.le_of_ble_eq_true rfl⟩ rfl rfl (Nat.le_of_ble_eq_true rfl) (dget kX9_ask 3 rfl) (tX9_askNow h) (fun r_4 σ_3 h => ?_)
  exact wr_iret (pc := 8) rfl (dget kX9_ask 4 rfl) ⟨_, rfl, h⟩
def vX9_chanceOf_47 (post : Int64 → Hp → Prop) (ex : Int64 → Hp → Prop) (x1 : Int32) (x2 : Int32) (x3 : Int32) (x4 : Int64) (x6 : Int32) : Nat → Int64 → Int32 → Hp → Prop
  | 0 => fun _ _ _ => False
  | n + 1 => fun x7 x9 σ => (((σ.1 71 13) ≤ x9 → (ex x7 σ)) ∧ (¬ (σ.1 71 13) ≤ x9 → (vX9_isIn x6 x9 σ (fun r_3 σ_2 => ((r_3 = 0 → (∀ x7_5 : Int64, x7_5 = (x7 * x1.toInt64) → (∀ x9_6 : Int32, x9_6 = x9 + (1 : Int32) → vX9_chanceOf_47 post ex x1 x2 x3 x4 x6 n x7_5 x9_6 σ_2))) ∧ (¬ r_3 = 0 → (∀ x7_7 : Int64, x7_7 = (x7 * (((16 : Int32) - x1)).toInt64) → (∀ x9_8 : Int32, x9_8 = x9 + (1 : Int32) → vX9_chanceOf_47 post ex x1 x2 x3 x4 x6 n x7_7 x9_8 σ_2))))))))
set_option maxHeartbeats 4000000 in
set_option maxRecDepth 100000 in
theorem tX9_chanceOf_47 {G : GT} {post : Int64 → Hp → Prop} {ex : Int64 → Hp → Prop} {x1 : Int32} {x2 : Int32} {x3 : Int32} {x4 : Int64} {x6 : Int32} (hex : ∀ (z7 : Int64) (τ : Hp), ex z7 τ → WP G mX9_chanceOf 87 [(0, .ref (G.1 71)), (1, .int x1), (2, .int x2), (3, .int x3), (4, .long x4), (6, .int x6), (7, .long z7)] [] τ (LL post)) : ∀ (n : Nat) (x7 : Int64) (x9 : Int32) (σ : Hp), vX9_chanceOf_47 post ex x1 x2 x3 x4 x6 n x7 x9 σ → WP G mX9_chanceOf 47 [(0, .ref (G.1 71)), (1, .int x1), (2, .int x2), (3, .int x3), (4, .long x4), (6, .int x6), (7, .long x7), (9, .int x9)] [] σ (LL post) := by
  intro n
  induction n with
  | zero => intro x7 x9 σ h; exact False.elim h
  | succ n ih =>
    intro x7 x9 σ h
    simp only [vX9_chanceOf_47] at h
    refine wr_iload (pc := 47) (dget kX9_chanceOf 27 rfl) 7 rfl ?_
    refine wr_aload_n (pc := 49) (dget kX9_chanceOf 28 rfl) 0 rfl ?_
    refine wr_getI (pc := 50) (σ := σ) fl_X9_172 kd_71 fk_9_13 (dget kX9_chanceOf 29 rfl) ?_
    refine wr_icmp_ge (pc := 53) (tgt := 87) (dget kX9_chanceOf 30 rfl) (by decide) (fun c_1 => ?_) (fun c_1 => ?_)
    · have h := h.1 c_1
      refine wr_sub [0, 1, 2, 3, 4, 5, 6] rfl ?_
      exact hex _ _ h
    · have h := h.2 c_1
      refine wr_lload (pc := 56) (dget kX9_chanceOf 31 rfl) 6 rfl ?_
      refine wr_iload (pc := 58) (dget kX9_chanceOf 32 rfl) 5 rfl ?_
      refine wr_iload (pc := 60) (dget kX9_chanceOf 33 rfl) 7 rfl ?_
      refine wr_callSi (pc := 62) (Mc := mX9_isIn) (rest := [.long x7]) cf_X9_180 cs_X9_isIn ⟨Nat.le_of_ble_eq_true rfl, Nat.le_of_ble_eq_true rfl⟩ rfl rfl (Nat.le_of_ble_eq_true rfl) (dget kX9_chanceOf 34 rfl) (tX9_isIn h) (fun r_3 σ_2 h => ?_)
      refine wr_if_eq (pc := 65) (tgt := 76) (dget kX9_chanceOf 35 rfl) (by decide) (fun c_4 => ?_) (fun c_4 => ?_)
      · have h := h.1 c_4
        refine wr_iload_n (pc := 76) (dget kX9_chanceOf 41 rfl) 1 rfl ?_
        refine wr_i2l (pc := 77) (dget kX9_chanceOf 42 rfl) rfl ?_
        refine wr_lmul (pc := 78) (dget kX9_chanceOf 43 rfl) ?_
        refine wr_topl (fun x7_5 e_x7_5 => ?_)
        have h := h x7_5 e_x7_5
        refine wr_lstore (pc := 79) (lv' := [(7, .long x7_5), (0, .ref (G.1 71)), (1, .int x1), (2, .int x2), (3, .int x3), (4, .long x4), (6, .int x6), (9, .int x9)]) (dget kX9_chanceOf 44 rfl) (by decide) rfl ?_
        obtain ⟨x9_6, e_x9_6⟩ : ∃ y : Int32, y = x9 + (1 : Int32) := ⟨_, rfl⟩
        have h := h x9_6 e_x9_6
        refine wr_iinc (pc := 81) (v := x9_6) (lv' := [(9, .int x9_6), (7, .long x7_5), (0, .ref (G.1 71)), (1, .int x1), (2, .int x2), (3, .int x3), (4, .long x4), (6, .int x6)]) (dget kX9_chanceOf 45 rfl) 7 rfl (by rw [e_x9_6, ic_1]) (by decide) rfl ?_
        refine wr_goto (pc := 84) (tgt := 47) (dget kX9_chanceOf 46 rfl) (by decide) ?_
        refine wr_sub [2, 3, 4, 5, 6, 7, 1, 0] rfl ?_
        exact ih _ _ _ h
      · have h := h.2 c_4
        refine wr_bipush (pc := 68) (dget kX9_chanceOf 36 rfl) bp_16 ?_
        refine wr_iload_n (pc := 70) (dget kX9_chanceOf 37 rfl) 1 rfl ?_
        refine wr_isub (pc := 71) (dget kX9_chanceOf 38 rfl) ?_
        refine wr_i2l (pc := 72) (dget kX9_chanceOf 39 rfl) rfl ?_
        refine wr_goto (pc := 73) (tgt := 78) (dget kX9_chanceOf 40 rfl) (by decide) ?_
        refine wr_lmul (pc := 78) (dget kX9_chanceOf 43 rfl) ?_
        refine wr_topl (fun x7_7 e_x7_7 => ?_)
        have h := h x7_7 e_x7_7
        refine wr_lstore (pc := 79) (lv' := [(7, .long x7_7), (0, .ref (G.1 71)), (1, .int x1), (2, .int x2), (3, .int x3), (4, .long x4), (6, .int x6), (9, .int x9)]) (dget kX9_chanceOf 44 rfl) (by decide) rfl ?_
        obtain ⟨x9_8, e_x9_8⟩ : ∃ y : Int32, y = x9 + (1 : Int32) := ⟨_, rfl⟩
        have h := h x9_8 e_x9_8
        refine wr_iinc (pc := 81) (v := x9_8) (lv' := [(9, .int x9_8), (7, .long x7_7), (0, .ref (G.1 71)), (1, .int x1), (2, .int x2), (3, .int x3), (4, .long x4), (6, .int x6)]) (dget kX9_chanceOf 45 rfl) 7 rfl (by rw [e_x9_8, ic_1]) (by decide) rfl ?_
        refine wr_goto (pc := 84) (tgt := 47) (dget kX9_chanceOf 46 rfl) (by decide) ?_
        refine wr_sub [2, 3, 4, 5, 6, 7, 1, 0] rfl ?_
        exact ih _ _ _ h
def vX9_chanceOf_6 (post : Int64 → Hp → Prop) (ex : Int64 → Hp → Prop) (x1 : Int32) (x2 : Int32) (x3 : Int32) : Nat → Int64 → Int32 → Hp → Prop
  | 0 => fun _ _ _ => False
  | n + 1 => fun x4 x6 σ => ((((1 : Int32) <<< ((σ.1 71 13) &&& 31)) ≤ x6 → (ex x4 σ)) ∧ (¬ ((1 : Int32) <<< ((σ.1 71 13) &&& 31)) ≤ x6 → (∀ σ_2 : Hp, σ_2 = wI σ 71 15 x6 → (vX9_lives  σ_2 (fun σ_3 => (vp_in x2 12 ∧ (((σ_3.1 86 x2.toNatClampNeg) = (-1 : Int32) → (∃ fu : Nat, vX9_chanceOf_47 post (fun z7_7 σ_8 => (∀ x4_9 : Int64, x4_9 = (x4 + z7_7) → (∀ x6_10 : Int32, x6_10 = x6 + (1 : Int32) → vX9_chanceOf_6 post ex x1 x2 x3 n x4_9 x6_10 σ_8))) x1 x2 x3 x4 x6 fu (0 : Int64) (0 : Int32) σ_3)) ∧ (¬ (σ_3.1 86 x2.toNatClampNeg) = (-1 : Int32) → (∃ fu : Nat, vX9_chanceOf_47 post (fun z7_11 σ_12 => (∀ x4_13 : Int64, x4_13 = (x4 + z7_11) → (∀ x6_14 : Int32, x6_14 = x6 + (1 : Int32) → vX9_chanceOf_6 post ex x1 x2 x3 n x4_13 x6_14 σ_12))) x1 x2 x3 x4 x6 fu (1 : Int64) (0 : Int32) σ_3)))))))))
set_option maxHeartbeats 4000000 in
set_option maxRecDepth 100000 in
theorem tX9_chanceOf_6 {G : GT} {post : Int64 → Hp → Prop} {ex : Int64 → Hp → Prop} {x1 : Int32} {x2 : Int32} {x3 : Int32} (hex : ∀ (z4 : Int64) (τ : Hp), ex z4 τ → WP G mX9_chanceOf 100 [(0, .ref (G.1 71)), (3, .int x3), (4, .long z4)] [] τ (LL post)) : ∀ (n : Nat) (x4 : Int64) (x6 : Int32) (σ : Hp), vX9_chanceOf_6 post ex x1 x2 x3 n x4 x6 σ → WP G mX9_chanceOf 6 [(0, .ref (G.1 71)), (1, .int x1), (2, .int x2), (3, .int x3), (4, .long x4), (6, .int x6)] [] σ (LL post) := by
  intro n
  induction n with
  | zero => intro x4 x6 σ h; exact False.elim h
  | succ n ih =>
    intro x4 x6 σ h
    simp only [vX9_chanceOf_6] at h
    refine wr_iload (pc := 6) (dget kX9_chanceOf 4 rfl) 5 rfl ?_
    refine wr_iconst (pc := 8) (dget kX9_chanceOf 5 rfl) ic_1 ?_
    refine wr_aload_n (pc := 9) (dget kX9_chanceOf 6 rfl) 0 rfl ?_
    refine wr_getI (pc := 10) (σ := σ) fl_X9_172 kd_71 fk_9_13 (dget kX9_chanceOf 7 rfl) ?_
    refine wr_ishl (pc := 13) (dget kX9_chanceOf 8 rfl) ?_
    refine wr_icmp_ge (pc := 14) (tgt := 100) (dget kX9_chanceOf 9 rfl) (by decide) (fun c_1 => ?_) (fun c_1 => ?_)
    · have h := h.1 c_1
      refine wr_sub [0, 3, 4] rfl ?_
      exact hex _ _ h
    · have h := h.2 c_1
      refine wr_aload_n (pc := 17) (dget kX9_chanceOf 10 rfl) 0 rfl ?_
      refine wr_iload (pc := 18) (dget kX9_chanceOf 11 rfl) 5 rfl ?_
      refine wr_putI (pc := 20) fl_X9_177 kd_71 fk_9_15 (vp_nar_int _) rfl (dget kX9_chanceOf 12 rfl) ?_
      refine wr_tops (fun σ_2 e_σ_2 => ?_)
      have h := h σ_2 e_σ_2
      refine wr_aload_n (pc := 23) (dget kX9_chanceOf 13 rfl) 0 rfl ?_
      refine wr_callVv (pc := 24) (Mc := mX9_lives) (o := 71) (rest := []) cf_X9_203 cv_X9_lives kd_71 rfl ⟨Nat.le_of_ble_eq_true rfl, Nat.le_of_ble_eq_true rfl⟩ rfl rfl (Nat.le_of_ble_eq_true rfl) (dget kX9_chanceOf 14 rfl) (tX9_lives h) (fun σ_3 h => ?_)
      refine wr_aload_n (pc := 27) (dget kX9_chanceOf 15 rfl) 0 rfl ?_
      refine wr_getRl (pc := 28) fl_X9_52 kd_71 fk_9_19 rt_71_19 (dget kX9_chanceOf 16 rfl) ?_
      refine wr_iload_n (pc := 31) (dget kX9_chanceOf 17 rfl) 2 rfl ?_
      obtain ⟨q_5, h⟩ := h
      refine wr_ialdl (pc := 32) (σ := σ_3) il_86 q_5 (dget kX9_chanceOf 18 rfl) ?_
      refine wr_iconst (pc := 33) (dget kX9_chanceOf 19 rfl) ic_m1 ?_
      refine wr_icmp_eq (pc := 34) (tgt := 41) (dget kX9_chanceOf 20 rfl) (by decide) (fun c_6 => ?_) (fun c_6 => ?_)
      · have h := h.1 c_6
        refine wr_lconst (pc := 41) (dget kX9_chanceOf 23 rfl) lc_0 ?_
        refine wr_lstore (pc := 42) (lv' := [(7, .long (0 : Int64)), (0, .ref (G.1 71)), (1, .int x1), (2, .int x2), (3, .int x3), (4, .long x4), (6, .int x6)]) (dget kX9_chanceOf 24 rfl) (by decide) rfl ?_
        refine wr_iconst (pc := 44) (dget kX9_chanceOf 25 rfl) ic_0 ?_
        refine wr_istore (pc := 45) (lv' := [(9, .int (0 : Int32)), (7, .long (0 : Int64)), (0, .ref (G.1 71)), (1, .int x1), (2, .int x2), (3, .int x3), (4, .long x4), (6, .int x6)]) (dget kX9_chanceOf 26 rfl) (by decide) rfl ?_
        obtain ⟨fu, h⟩ := h
        refine wr_sub [2, 3, 4, 5, 6, 7, 1, 0] rfl ?_
        refine tX9_chanceOf_47 (fun z7_7 σ_8 h => ?_) fu _ _ _ h
        refine wr_lload (pc := 87) (dget kX9_chanceOf 47 rfl) 4 rfl ?_
        refine wr_lload (pc := 89) (dget kX9_chanceOf 48 rfl) 6 rfl ?_
        refine wr_ladd (pc := 91) (dget kX9_chanceOf 49 rfl) ?_
        refine wr_topl (fun x4_9 e_x4_9 => ?_)
        have h := h x4_9 e_x4_9
        refine wr_lstore (pc := 92) (lv' := [(4, .long x4_9), (0, .ref (G.1 71)), (1, .int x1), (2, .int x2), (3, .int x3), (6, .int x6), (7, .long z7_7)]) (dget kX9_chanceOf 50 rfl) (by decide) rfl ?_
        obtain ⟨x6_10, e_x6_10⟩ : ∃ y : Int32, y = x6 + (1 : Int32) := ⟨_, rfl⟩
        have h := h x6_10 e_x6_10
        refine wr_iinc (pc := 94) (v := x6_10) (lv' := [(6, .int x6_10), (4, .long x4_9), (0, .ref (G.1 71)), (1, .int x1), (2, .int x2), (3, .int x3), (7, .long z7_7)]) (dget kX9_chanceOf 51 rfl) 5 rfl (by rw [e_x6_10, ic_1]) (by decide) rfl ?_
        refine wr_goto (pc := 97) (tgt := 6) (dget kX9_chanceOf 52 rfl) (by decide) ?_
        refine wr_sub [2, 3, 4, 5, 1, 0] rfl ?_
        exact ih _ _ _ h
      · have h := h.2 c_6
        refine wr_lconst (pc := 37) (dget kX9_chanceOf 21 rfl) lc_1 ?_
        refine wr_goto (pc := 38) (tgt := 42) (dget kX9_chanceOf 22 rfl) (by decide) ?_
        refine wr_lstore (pc := 42) (lv' := [(7, .long (1 : Int64)), (0, .ref (G.1 71)), (1, .int x1), (2, .int x2), (3, .int x3), (4, .long x4), (6, .int x6)]) (dget kX9_chanceOf 24 rfl) (by decide) rfl ?_
        refine wr_iconst (pc := 44) (dget kX9_chanceOf 25 rfl) ic_0 ?_
        refine wr_istore (pc := 45) (lv' := [(9, .int (0 : Int32)), (7, .long (1 : Int64)), (0, .ref (G.1 71)), (1, .int x1), (2, .int x2), (3, .int x3), (4, .long x4), (6, .int x6)]) (dget kX9_chanceOf 26 rfl) (by decide) rfl ?_
        obtain ⟨fu, h⟩ := h
        refine wr_sub [2, 3, 4, 5, 6, 7, 1, 0] rfl ?_
        refine tX9_chanceOf_47 (fun z7_11 σ_12 h => ?_) fu _ _ _ h
        refine wr_lload (pc := 87) (dget kX9_chanceOf 47 rfl) 4 rfl ?_
        refine wr_lload (pc := 89) (dget kX9_chanceOf 48 rfl) 6 rfl ?_
        refine wr_ladd (pc := 91) (dget kX9_chanceOf 49 rfl) ?_
        refine wr_topl (fun x4_13 e_x4_13 => ?_)
        have h := h x4_13 e_x4_13
        refine wr_lstore (pc := 92) (lv' := [(4, .long x4_13), (0, .ref (G.1 71)), (1, .int x1), (2, .int x2), (3, .int x3), (6, .int x6), (7, .long z7_11)]) (dget kX9_chanceOf 50 rfl) (by decide) rfl ?_
        obtain ⟨x6_14, e_x6_14⟩ : ∃ y : Int32, y = x6 + (1 : Int32) := ⟨_, rfl⟩
        have h := h x6_14 e_x6_14
        refine wr_iinc (pc := 94) (v := x6_14) (lv' := [(6, .int x6_14), (4, .long x4_13), (0, .ref (G.1 71)), (1, .int x1), (2, .int x2), (3, .int x3), (7, .long z7_11)]) (dget kX9_chanceOf 51 rfl) 5 rfl (by rw [e_x6_14, ic_1]) (by decide) rfl ?_
        refine wr_goto (pc := 97) (tgt := 6) (dget kX9_chanceOf 52 rfl) (by decide) ?_
        refine wr_sub [2, 3, 4, 5, 1, 0] rfl ?_
        exact ih _ _ _ h
def vX9_chanceOf (p1 : Int32) (p2 : Int32) (p3 : Int32) (σ : Hp) (post : Int64 → Hp → Prop) : Prop := (∃ fu : Nat, vX9_chanceOf_6 post (fun z4_1 σ_2 => (∀ σ_3 : Hp, σ_3 = wI σ_2 71 15 (0 : Int32) → (vX9_part z4_1 ((1 : Int64) <<< ((((4 : Int32) * (σ_3.1 71 13))).toInt64 &&& 63)) p3 σ_3 (fun r_5 σ_4 => post r_5 σ_4)))) p1 p2 p3 fu (0 : Int64) (0 : Int32) σ)
set_option maxHeartbeats 4000000 in
set_option maxRecDepth 100000 in
theorem tX9_chanceOf {G : GT} {p1 : Int32} {p2 : Int32} {p3 : Int32} {σ : Hp} {post : Int64 → Hp → Prop} (h : vX9_chanceOf p1 p2 p3 σ post) : CT G mX9_chanceOf [.ref (G.1 71), .int p1, .int p2, .int p3] σ (LL post) := by
  refine CT.of (by decide +kernel) (Nat.le_of_ble_eq_true rfl) ?_
  show WP G mX9_chanceOf 0 [(0, .ref (G.1 71)), (1, .int p1), (2, .int p2), (3, .int p3)] [] σ (LL post)
  unfold vX9_chanceOf at h
  refine wr_lconst (pc := 0) (dget kX9_chanceOf 0 rfl) lc_0 ?_
  refine wr_lstore (pc := 1) (lv' := [(4, .long (0 : Int64)), (0, .ref (G.1 71)), (1, .int p1), (2, .int p2), (3, .int p3)]) (dget kX9_chanceOf 1 rfl) (by decide) rfl ?_
  refine wr_iconst (pc := 3) (dget kX9_chanceOf 2 rfl) ic_0 ?_
  refine wr_istore (pc := 4) (lv' := [(6, .int (0 : Int32)), (4, .long (0 : Int64)), (0, .ref (G.1 71)), (1, .int p1), (2, .int p2), (3, .int p3)]) (dget kX9_chanceOf 3 rfl) (by decide) rfl ?_
  obtain ⟨fu, h⟩ := h
  refine wr_sub [2, 3, 4, 5, 1, 0] rfl ?_
  refine tX9_chanceOf_6 (fun z4_1 σ_2 h => ?_) fu _ _ _ h
  refine wr_aload_n (pc := 100) (dget kX9_chanceOf 53 rfl) 0 rfl ?_
  refine wr_iconst (pc := 101) (dget kX9_chanceOf 54 rfl) ic_0 ?_
  refine wr_putI (pc := 102) fl_X9_177 kd_71 fk_9_15 (vp_nar_int _) rfl (dget kX9_chanceOf 55 rfl) ?_
  refine wr_tops (fun σ_3 e_σ_3 => ?_)
  have h := h σ_3 e_σ_3
  refine wr_lload (pc := 105) (dget kX9_chanceOf 56 rfl) 2 rfl ?_
  refine wr_lconst (pc := 107) (dget kX9_chanceOf 57 rfl) lc_1 ?_
  refine wr_iconst (pc := 108) (dget kX9_chanceOf 58 rfl) ic_4 ?_
  refine wr_aload_n (pc := 109) (dget kX9_chanceOf 59 rfl) 0 rfl ?_
  refine wr_getI (pc := 110) (σ := σ_3) fl_X9_172 kd_71 fk_9_13 (dget kX9_chanceOf 60 rfl) ?_
  refine wr_imul (pc := 113) (dget kX9_chanceOf 61 rfl) ?_
  refine wr_lshl (pc := 114) (dget kX9_chanceOf 62 rfl) rfl ?_
  refine wr_iload_n (pc := 115) (dget kX9_chanceOf 63 rfl) 1 rfl ?_
  refine wr_callSl (pc := 116) (Mc := mX9_part) (rest := []) cf_X9_284 cs_X9_part ⟨Nat.le_of_ble_eq_true rfl, Nat.le_of_ble_eq_true rfl⟩ rfl rfl (Nat.le_of_ble_eq_true rfl) (dget kX9_chanceOf 64 rfl) (tX9_part h) (fun r_5 σ_4 h => ?_)
  exact wr_lret (pc := 119) rfl (dget kX9_chanceOf 65 rfl) ⟨_, rfl, h⟩
def vX9_chance (p1 : Int32) (p2 : Int32) (p3 : Int32) (σ : Hp) (post : Int64 → Hp → Prop) : Prop := (vX9_find  σ (fun σ_1 => (vX9_in p1.toInt64 (0 : Int64) (16 : Int64) σ_1 (fun r_4 σ_3 => ((r_4 = 0 → (vX9_no (-2 : Int32) σ_3 (fun r_7 σ_6 => post r_7 σ_6))) ∧ (¬ r_4 = 0 → (vX9_isShot p2 σ_3 (fun r_9 σ_8 => ((r_9 = 0 → (vX9_no (-2 : Int32) σ_8 (fun r_12 σ_11 => post r_12 σ_11))) ∧ (¬ r_9 = 0 → (vX9_isTwo p3 σ_8 (fun r_14 σ_13 => ((r_14 = 0 → (vX9_no (-2 : Int32) σ_13 (fun r_17 σ_16 => post r_17 σ_16))) ∧ (¬ r_14 = 0 → (vX9_chanceOf p1 p2 p3 σ_13 (fun r_19 σ_18 => post r_19 σ_18))))))))))))))))
set_option maxHeartbeats 4000000 in
set_option maxRecDepth 100000 in
theorem tX9_chance {G : GT} {p1 : Int32} {p2 : Int32} {p3 : Int32} {σ : Hp} {post : Int64 → Hp → Prop} (h : vX9_chance p1 p2 p3 σ post) : CT G mX9_chance [.ref (G.1 71), .int p1, .int p2, .int p3] σ (LL post) := by
  refine CT.of (by decide +kernel) (Nat.le_of_ble_eq_true rfl) ?_
  show WP G mX9_chance 0 [(0, .ref (G.1 71)), (1, .int p1), (2, .int p2), (3, .int p3)] [] σ (LL post)
  unfold vX9_chance at h
  refine wr_aload_n (pc := 0) (dget kX9_chance 0 rfl) 0 rfl ?_
  refine wr_callVv (pc := 1) (Mc := mX9_find) (o := 71) (rest := []) cf_X9_206 cv_X9_find kd_71 rfl ⟨Nat.le_of_ble_eq_true rfl, Nat.le_of_ble_eq_true rfl⟩ rfl rfl (Nat.le_of_ble_eq_true rfl) (dget kX9_chance 1 rfl) (tX9_find h) (fun σ_1 h => ?_)
  refine wr_iload_n (pc := 4) (dget kX9_chance 2 rfl) 1 rfl ?_
  refine wr_i2l (pc := 5) (dget kX9_chance 3 rfl) rfl ?_
  refine wr_lconst (pc := 6) (dget kX9_chance 4 rfl) lc_0 ?_
  refine wr_ldc2 (pc := 7) kl_X9_288 (dget kX9_chance 5 rfl) ?_
  refine wr_callSi (pc := 10) (Mc := mX9_in) (rest := []) cf_X9_75 cs_X9_in ⟨Nat.le_of_ble_eq_true rfl, Nat.le_of_ble_eq_true rfl⟩ rfl rfl (Nat.le_of_ble_eq_true rfl) (dget kX9_chance 6 rfl) (tX9_in h) (fun r_4 σ_3 h => ?_)
  refine wr_if_eq (pc := 13) (tgt := 41) (dget kX9_chance 7 rfl) (by decide) (fun c_5 => ?_) (fun c_5 => ?_)
  · have h := h.1 c_5
    refine wr_bipush (pc := 41) (dget kX9_chance 21 rfl) bp_m2 ?_
    refine wr_callSl (pc := 43) (Mc := mX9_no) (rest := []) cf_X9_294 cs_X9_no ⟨Nat.le_of_ble_eq_true rfl, Nat.le_of_ble_eq_true rfl⟩ rfl rfl (Nat.le_of_ble_eq_true rfl) (dget kX9_chance 22 rfl) (tX9_no h) (fun r_7 σ_6 h => ?_)
    exact wr_lret (pc := 46) rfl (dget kX9_chance 23 rfl) ⟨_, rfl, h⟩
  · have h := h.2 c_5
    refine wr_aload_n (pc := 16) (dget kX9_chance 8 rfl) 0 rfl ?_
    refine wr_iload_n (pc := 17) (dget kX9_chance 9 rfl) 2 rfl ?_
    refine wr_callVi (pc := 18) (Mc := mX9_isShot) (o := 71) (rest := []) cf_X9_159 cv_X9_isShot kd_71 rfl ⟨Nat.le_of_ble_eq_true rfl, Nat.le_of_ble_eq_true rfl⟩ rfl rfl (Nat.le_of_ble_eq_true rfl) (dget kX9_chance 10 rfl) (tX9_isShot h) (fun r_9 σ_8 h => ?_)
    refine wr_if_eq (pc := 21) (tgt := 41) (dget kX9_chance 11 rfl) (by decide) (fun c_10 => ?_) (fun c_10 => ?_)
    · have h := h.1 c_10
      refine wr_bipush (pc := 41) (dget kX9_chance 21 rfl) bp_m2 ?_
      refine wr_callSl (pc := 43) (Mc := mX9_no) (rest := []) cf_X9_294 cs_X9_no ⟨Nat.le_of_ble_eq_true rfl, Nat.le_of_ble_eq_true rfl⟩ rfl rfl (Nat.le_of_ble_eq_true rfl) (dget kX9_chance 22 rfl) (tX9_no h) (fun r_12 σ_11 h => ?_)
      exact wr_lret (pc := 46) rfl (dget kX9_chance 23 rfl) ⟨_, rfl, h⟩
    · have h := h.2 c_10
      refine wr_iload_n (pc := 24) (dget kX9_chance 12 rfl) 3 rfl ?_
      refine wr_callSi (pc := 25) (Mc := mX9_isTwo) (rest := []) cf_X9_162 cs_X9_isTwo ⟨Nat.le_of_ble_eq_true rfl, Nat.le_of_ble_eq_true rfl⟩ rfl rfl (Nat.le_of_ble_eq_true rfl) (dget kX9_chance 13 rfl) (tX9_isTwo h) (fun r_14 σ_13 h => ?_)
      refine wr_if_eq (pc := 28) (tgt := 41) (dget kX9_chance 14 rfl) (by decide) (fun c_15 => ?_) (fun c_15 => ?_)
      · have h := h.1 c_15
        refine wr_bipush (pc := 41) (dget kX9_chance 21 rfl) bp_m2 ?_
        refine wr_callSl (pc := 43) (Mc := mX9_no) (rest := []) cf_X9_294 cs_X9_no ⟨Nat.le_of_ble_eq_true rfl, Nat.le_of_ble_eq_true rfl⟩ rfl rfl (Nat.le_of_ble_eq_true rfl) (dget kX9_chance 22 rfl) (tX9_no h) (fun r_17 σ_16 h => ?_)
        exact wr_lret (pc := 46) rfl (dget kX9_chance 23 rfl) ⟨_, rfl, h⟩
      · have h := h.2 c_15
        refine wr_aload_n (pc := 31) (dget kX9_chance 15 rfl) 0 rfl ?_
        refine wr_iload_n (pc := 32) (dget kX9_chance 16 rfl) 1 rfl ?_
        refine wr_iload_n (pc := 33) (dget kX9_chance 17 rfl) 2 rfl ?_
        refine wr_iload_n (pc := 34) (dget kX9_chance 18 rfl) 3 rfl ?_
        refine wr_callVl (pc := 35) (Mc := mX9_chanceOf) (o := 71) (rest := []) cf_X9_290 cv_X9_chanceOf kd_71 rfl ⟨Nat.le_of_ble_eq_true rfl, Nat.le_of_ble_eq_true rfl⟩ rfl rfl (Nat.le_of_ble_eq_true rfl) (dget kX9_chance 19 rfl) (tX9_chanceOf h) (fun r_19 σ_18 h => ?_)
        refine wr_goto (pc := 38) (tgt := 46) (dget kX9_chance 20 rfl) (by decide) ?_
        exact wr_lret (pc := 46) rfl (dget kX9_chance 23 rfl) ⟨_, rfl, h⟩
def vX9_lot (p1 : Int32) (σ : Hp) (post : Int32 → Hp → Prop) : Prop := (∀ σ_1 : Hp, σ_1 = wI σ 71 27 (((1103515245 : Int32) * (σ.1 71 27)) + (12345 : Int32)) → (¬ p1 = 0 ∧ post ((((σ_1.1 71 27)).toUInt32 >>> (((16 : Int32)).toUInt32 &&& Int32.toUInt32 31)).toInt32 - (((σ_1.1 71 27)).toUInt32 >>> (((16 : Int32)).toUInt32 &&& Int32.toUInt32 31)).toInt32 / p1 * p1) σ_1))
set_option maxHeartbeats 4000000 in
set_option maxRecDepth 100000 in
theorem tX9_lot {G : GT} {p1 : Int32} {σ : Hp} {post : Int32 → Hp → Prop} (h : vX9_lot p1 σ post) : CT G mX9_lot [.ref (G.1 71), .int p1] σ (LI post) := by
  refine CT.of (by decide +kernel) (Nat.le_of_ble_eq_true rfl) ?_
  show WP G mX9_lot 0 [(0, .ref (G.1 71)), (1, .int p1)] [] σ (LI post)
  unfold vX9_lot at h
  refine wr_aload_n (pc := 0) (dget kX9_lot 0 rfl) 0 rfl ?_
  refine wr_ldcw (pc := 1) ki_X9_298 (dget kX9_lot 1 rfl) ?_
  refine wr_aload_n (pc := 4) (dget kX9_lot 2 rfl) 0 rfl ?_
  refine wr_getI (pc := 5) (σ := σ) fl_X9_299 kd_71 fk_9_27 (dget kX9_lot 3 rfl) ?_
  refine wr_imul (pc := 8) (dget kX9_lot 4 rfl) ?_
  refine wr_sipush (pc := 9) (dget kX9_lot 5 rfl) sp_12345 ?_
  refine wr_iadd (pc := 12) (dget kX9_lot 6 rfl) ?_
  refine wr_putI (pc := 13) fl_X9_299 kd_71 fk_9_27 (vp_nar_int _) rfl (dget kX9_lot 7 rfl) ?_
  refine wr_tops (fun σ_1 e_σ_1 => ?_)
  have h := h σ_1 e_σ_1
  refine wr_aload_n (pc := 16) (dget kX9_lot 8 rfl) 0 rfl ?_
  refine wr_getI (pc := 17) (σ := σ_1) fl_X9_299 kd_71 fk_9_27 (dget kX9_lot 9 rfl) ?_
  refine wr_bipush (pc := 20) (dget kX9_lot 10 rfl) bp_16 ?_
  refine wr_iushr (pc := 22) (dget kX9_lot 11 rfl) rfl ?_
  refine wr_iload_n (pc := 23) (dget kX9_lot 12 rfl) 1 rfl ?_
  obtain ⟨q_2, h⟩ := h
  refine wr_irem (pc := 24) (dget kX9_lot 13 rfl) q_2 ?_
  exact wr_iret (pc := 25) rfl (dget kX9_lot 14 rfl) ⟨_, rfl, h⟩
def vX9_fairsOf_13 (post : Int32 → Hp → Prop) (ex : Hp → Prop) (x2 : Int32) (x3 : Int32) : Nat → Int32 → Hp → Prop
  | 0 => fun _ _ => False
  | n + 1 => fun x4 σ => ((x2 ≤ x4 → (ex σ)) ∧ (¬ x2 ≤ x4 → (vX9_lot (24 : Int32) σ (fun r_3 σ_2 => (vp_in ((3 : Int32) * x4) 36 ∧ ∀ σ_5 : Hp, σ_5 = wI σ_2 80 (((3 : Int32) * x4)).toNatClampNeg r_3 → (vX9_lot (3 : Int32) σ_5 (fun r_7 σ_6 => (vp_in (((3 : Int32) * x4) + (1 : Int32)) 36 ∧ ∀ σ_9 : Hp, σ_9 = wI σ_6 80 ((((3 : Int32) * x4) + (1 : Int32))).toNatClampNeg r_7 → (vX9_lot (6 : Int32) σ_9 (fun r_11 σ_10 => (vp_in (((3 : Int32) * x4) + (2 : Int32)) 36 ∧ ∀ σ_13 : Hp, σ_13 = wI σ_10 80 ((((3 : Int32) * x4) + (2 : Int32))).toNatClampNeg r_11 → (∀ x4_14 : Int32, x4_14 = x4 + (1 : Int32) → vX9_fairsOf_13 post ex x2 x3 n x4_14 σ_13))))))))))))
set_option maxHeartbeats 4000000 in
set_option maxRecDepth 100000 in
theorem tX9_fairsOf_13 {G : GT} {post : Int32 → Hp → Prop} {ex : Hp → Prop} {x2 : Int32} {x3 : Int32} (hex : ∀  (τ : Hp), ex  τ → WP G mX9_fairsOf 73 [(0, .ref (G.1 71)), (3, .int x3)] [] τ (LI post)) : ∀ (n : Nat) (x4 : Int32) (σ : Hp), vX9_fairsOf_13 post ex x2 x3 n x4 σ → WP G mX9_fairsOf 13 [(0, .ref (G.1 71)), (2, .int x2), (3, .int x3), (4, .int x4)] [] σ (LI post) := by
  intro n
  induction n with
  | zero => intro x4 σ h; exact False.elim h
  | succ n ih =>
    intro x4 σ h
    simp only [vX9_fairsOf_13] at h
    refine wr_iload (pc := 13) (dget kX9_fairsOf 8 rfl) 3 rfl ?_
    refine wr_iload_n (pc := 15) (dget kX9_fairsOf 9 rfl) 1 rfl ?_
    refine wr_icmp_ge (pc := 16) (tgt := 73) (dget kX9_fairsOf 10 rfl) (by decide) (fun c_1 => ?_) (fun c_1 => ?_)
    · have h := h.1 c_1
      refine wr_sub [0, 2] rfl ?_
      exact hex  _ h
    · have h := h.2 c_1
      refine wr_aload_n (pc := 19) (dget kX9_fairsOf 11 rfl) 0 rfl ?_
      refine wr_getRl (pc := 20) fl_X9_34 kd_71 fk_9_11 rt_71_11 (dget kX9_fairsOf 12 rfl) ?_
      refine wr_iconst (pc := 23) (dget kX9_fairsOf 13 rfl) ic_3 ?_
      refine wr_iload (pc := 24) (dget kX9_fairsOf 14 rfl) 3 rfl ?_
      refine wr_imul (pc := 26) (dget kX9_fairsOf 15 rfl) ?_
      refine wr_aload_n (pc := 27) (dget kX9_fairsOf 16 rfl) 0 rfl ?_
      refine wr_bipush (pc := 28) (dget kX9_fairsOf 17 rfl) bp_24 ?_
      refine wr_callVi (pc := 30) (Mc := mX9_lot) (o := 71) (rest := [.int ((3 : Int32) * x4), .ref (G.1 80)]) cf_X9_302 cv_X9_lot kd_71 rfl ⟨Nat.le_of_ble_eq_true rfl, Nat.le_of_ble_eq_true rfl⟩ rfl rfl (Nat.le_of_ble_eq_true rfl) (dget kX9_fairsOf 18 rfl) (tX9_lot h) (fun r_3 σ_2 h => ?_)
      obtain ⟨q_4, h⟩ := h
      refine wr_iastl (pc := 33) il_80 q_4 (dget kX9_fairsOf 19 rfl) ?_
      refine wr_tops (fun σ_5 e_σ_5 => ?_)
      have h := h σ_5 e_σ_5
      refine wr_aload_n (pc := 34) (dget kX9_fairsOf 20 rfl) 0 rfl ?_
      refine wr_getRl (pc := 35) fl_X9_34 kd_71 fk_9_11 rt_71_11 (dget kX9_fairsOf 21 rfl) ?_
      refine wr_iconst (pc := 38) (dget kX9_fairsOf 22 rfl) ic_3 ?_
      refine wr_iload (pc := 39) (dget kX9_fairsOf 23 rfl) 3 rfl ?_
      refine wr_imul (pc := 41) (dget kX9_fairsOf 24 rfl) ?_
      refine wr_iconst (pc := 42) (dget kX9_fairsOf 25 rfl) ic_1 ?_
      refine wr_iadd (pc := 43) (dget kX9_fairsOf 26 rfl) ?_
      refine wr_aload_n (pc := 44) (dget kX9_fairsOf 27 rfl) 0 rfl ?_
      refine wr_iconst (pc := 45) (dget kX9_fairsOf 28 rfl) ic_3 ?_
      refine wr_callVi (pc := 46) (Mc := mX9_lot) (o := 71) (rest := [.int (((3 : Int32) * x4) + (1 : Int32)), .ref (G.1 80)]) cf_X9_302 cv_X9_lot kd_71 rfl ⟨Nat.le_of_ble_eq_true rfl, Nat.le_of_ble_eq_true rfl⟩ rfl rfl (Nat.le_of_ble_eq_true rfl) (dget kX9_fairsOf 29 rfl) (tX9_lot h) (fun r_7 σ_6 h => ?_)
      obtain ⟨q_8, h⟩ := h
      refine wr_iastl (pc := 49) il_80 q_8 (dget kX9_fairsOf 30 rfl) ?_
      refine wr_tops (fun σ_9 e_σ_9 => ?_)
      have h := h σ_9 e_σ_9
      refine wr_aload_n (pc := 50) (dget kX9_fairsOf 31 rfl) 0 rfl ?_
      refine wr_getRl (pc := 51) fl_X9_34 kd_71 fk_9_11 rt_71_11 (dget kX9_fairsOf 32 rfl) ?_
      refine wr_iconst (pc := 54) (dget kX9_fairsOf 33 rfl) ic_3 ?_
      refine wr_iload (pc := 55) (dget kX9_fairsOf 34 rfl) 3 rfl ?_
      refine wr_imul (pc := 57) (dget kX9_fairsOf 35 rfl) ?_
      refine wr_iconst (pc := 58) (dget kX9_fairsOf 36 rfl) ic_2 ?_
      refine wr_iadd (pc := 59) (dget kX9_fairsOf 37 rfl) ?_
      refine wr_aload_n (pc := 60) (dget kX9_fairsOf 38 rfl) 0 rfl ?_
      refine wr_bipush (pc := 61) (dget kX9_fairsOf 39 rfl) bp_6 ?_
      refine wr_callVi (pc := 63) (Mc := mX9_lot) (o := 71) (rest := [.int (((3 : Int32) * x4) + (2 : Int32)), .ref (G.1 80)]) cf_X9_302 cv_X9_lot kd_71 rfl ⟨Nat.le_of_ble_eq_true rfl, Nat.le_of_ble_eq_true rfl⟩ rfl rfl (Nat.le_of_ble_eq_true rfl) (dget kX9_fairsOf 40 rfl) (tX9_lot h) (fun r_11 σ_10 h => ?_)
      obtain ⟨q_12, h⟩ := h
      refine wr_iastl (pc := 66) il_80 q_12 (dget kX9_fairsOf 41 rfl) ?_
      refine wr_tops (fun σ_13 e_σ_13 => ?_)
      have h := h σ_13 e_σ_13
      obtain ⟨x4_14, e_x4_14⟩ : ∃ y : Int32, y = x4 + (1 : Int32) := ⟨_, rfl⟩
      have h := h x4_14 e_x4_14
      refine wr_iinc (pc := 67) (v := x4_14) (lv' := [(4, .int x4_14), (0, .ref (G.1 71)), (2, .int x2), (3, .int x3)]) (dget kX9_fairsOf 42 rfl) 3 rfl (by rw [e_x4_14, ic_1]) (by decide) rfl ?_
      refine wr_goto (pc := 70) (tgt := 13) (dget kX9_fairsOf 43 rfl) (by decide) ?_
      refine wr_sub [1, 2, 3, 0] rfl ?_
      exact ih _ _ h
def vX9_fairsOf (p1 : Int32) (p2 : Int32) (p3 : Int32) (σ : Hp) (post : Int32 → Hp → Prop) : Prop := (∀ σ_1 : Hp, σ_1 = wI σ 71 27 p1 → (∀ σ_2 : Hp, σ_2 = wI σ_1 71 10 p2 → (∃ fu : Nat, vX9_fairsOf_13 post (fun σ_3 => (vX9_lives  σ_3 (fun σ_4 => (vX9_sumBy p3 σ_4 (fun r_7 σ_6 => (vX9_readsShots  σ_6 (fun r_9 σ_8 => post r_7 σ_8))))))) p2 p3 fu (0 : Int32) σ_2)))
set_option maxHeartbeats 4000000 in
set_option maxRecDepth 100000 in
theorem tX9_fairsOf {G : GT} {p1 : Int32} {p2 : Int32} {p3 : Int32} {σ : Hp} {post : Int32 → Hp → Prop} (h : vX9_fairsOf p1 p2 p3 σ post) : CT G mX9_fairsOf [.ref (G.1 71), .int p1, .int p2, .int p3] σ (LI post) := by
  refine CT.of (by decide +kernel) (Nat.le_of_ble_eq_true rfl) ?_
  show WP G mX9_fairsOf 0 [(0, .ref (G.1 71)), (1, .int p1), (2, .int p2), (3, .int p3)] [] σ (LI post)
  unfold vX9_fairsOf at h
  refine wr_aload_n (pc := 0) (dget kX9_fairsOf 0 rfl) 0 rfl ?_
  refine wr_iload_n (pc := 1) (dget kX9_fairsOf 1 rfl) 1 rfl ?_
  refine wr_putI (pc := 2) fl_X9_299 kd_71 fk_9_27 (vp_nar_int _) rfl (dget kX9_fairsOf 2 rfl) ?_
  refine wr_tops (fun σ_1 e_σ_1 => ?_)
  have h := h σ_1 e_σ_1
  refine wr_aload_n (pc := 5) (dget kX9_fairsOf 3 rfl) 0 rfl ?_
  refine wr_iload_n (pc := 6) (dget kX9_fairsOf 4 rfl) 2 rfl ?_
  refine wr_putI (pc := 7) fl_X9_132 kd_71 fk_9_10 (vp_nar_int _) rfl (dget kX9_fairsOf 5 rfl) ?_
  refine wr_tops (fun σ_2 e_σ_2 => ?_)
  have h := h σ_2 e_σ_2
  refine wr_iconst (pc := 10) (dget kX9_fairsOf 6 rfl) ic_0 ?_
  refine wr_istore (pc := 11) (lv' := [(4, .int (0 : Int32)), (0, .ref (G.1 71)), (1, .int p1), (2, .int p2), (3, .int p3)]) (dget kX9_fairsOf 7 rfl) (by decide) rfl ?_
  obtain ⟨fu, h⟩ := h
  refine wr_sub [1, 3, 4, 0] rfl ?_
  refine tX9_fairsOf_13 (fun σ_3 h => ?_) fu _ _ h
  refine wr_aload_n (pc := 73) (dget kX9_fairsOf 44 rfl) 0 rfl ?_
  refine wr_callVv (pc := 74) (Mc := mX9_lives) (o := 71) (rest := []) cf_X9_203 cv_X9_lives kd_71 rfl ⟨Nat.le_of_ble_eq_true rfl, Nat.le_of_ble_eq_true rfl⟩ rfl rfl (Nat.le_of_ble_eq_true rfl) (dget kX9_fairsOf 45 rfl) (tX9_lives h) (fun σ_4 h => ?_)
  refine wr_aload_n (pc := 77) (dget kX9_fairsOf 46 rfl) 0 rfl ?_
  refine wr_iload_n (pc := 78) (dget kX9_fairsOf 47 rfl) 1 rfl ?_
  refine wr_callVi (pc := 79) (Mc := mX9_sumBy) (o := 71) (rest := []) cf_X9_227 cv_X9_sumBy kd_71 rfl ⟨Nat.le_of_ble_eq_true rfl, Nat.le_of_ble_eq_true rfl⟩ rfl rfl (Nat.le_of_ble_eq_true rfl) (dget kX9_fairsOf 48 rfl) (tX9_sumBy h) (fun r_7 σ_6 h => ?_)
  refine wr_istore (pc := 82) (lv' := [(4, .int r_7), (0, .ref (G.1 71)), (3, .int p3)]) (dget kX9_fairsOf 49 rfl) (by decide) rfl ?_
  refine wr_aload_n (pc := 84) (dget kX9_fairsOf 50 rfl) 1 rfl ?_
  refine wr_callVi (pc := 85) (Mc := mX9_readsShots) (o := 71) (rest := []) cf_X9_145 cv_X9_readsShots kd_71 rfl ⟨Nat.le_of_ble_eq_true rfl, Nat.le_of_ble_eq_true rfl⟩ rfl rfl (Nat.le_of_ble_eq_true rfl) (dget kX9_fairsOf 51 rfl) (tX9_readsShots h) (fun r_9 σ_8 h => ?_)
  refine wr_pop (pc := 88) (dget kX9_fairsOf 52 rfl) rfl ?_
  refine wr_iload (pc := 89) (dget kX9_fairsOf 53 rfl) 0 rfl ?_
  exact wr_iret (pc := 91) rfl (dget kX9_fairsOf 54 rfl) ⟨_, rfl, h⟩
def vX9_fairs (p1 : Int32) (p2 : Int32) (p3 : Int32) (σ : Hp) (post : Int32 → Hp → Prop) : Prop := (vX9_find  σ (fun σ_1 => (vX9_in p2.toInt64 (0 : Int64) (12 : Int64) σ_1 (fun r_4 σ_3 => ((r_4 = 0 → post (-2 : Int32) σ_3) ∧ (¬ r_4 = 0 → (vX9_isTwo p3 σ_3 (fun r_7 σ_6 => ((r_7 = 0 → post (-2 : Int32) σ_6) ∧ (¬ r_7 = 0 → (vX9_fairsOf p1 p2 p3 σ_6 (fun r_10 σ_9 => post r_10 σ_9))))))))))))
set_option maxHeartbeats 4000000 in
set_option maxRecDepth 100000 in
theorem tX9_fairs {G : GT} {p1 : Int32} {p2 : Int32} {p3 : Int32} {σ : Hp} {post : Int32 → Hp → Prop} (h : vX9_fairs p1 p2 p3 σ post) : CT G mX9_fairs [.ref (G.1 71), .int p1, .int p2, .int p3] σ (LI post) := by
  refine CT.of (by decide +kernel) (Nat.le_of_ble_eq_true rfl) ?_
  show WP G mX9_fairs 0 [(0, .ref (G.1 71)), (1, .int p1), (2, .int p2), (3, .int p3)] [] σ (LI post)
  unfold vX9_fairs at h
  refine wr_aload_n (pc := 0) (dget kX9_fairs 0 rfl) 0 rfl ?_
  refine wr_callVv (pc := 1) (Mc := mX9_find) (o := 71) (rest := []) cf_X9_206 cv_X9_find kd_71 rfl ⟨Nat.le_of_ble_eq_true rfl, Nat.le_of_ble_eq_true rfl⟩ rfl rfl (Nat.le_of_ble_eq_true rfl) (dget kX9_fairs 1 rfl) (tX9_find h) (fun σ_1 h => ?_)
  refine wr_iload_n (pc := 4) (dget kX9_fairs 2 rfl) 2 rfl ?_
  refine wr_i2l (pc := 5) (dget kX9_fairs 3 rfl) rfl ?_
  refine wr_lconst (pc := 6) (dget kX9_fairs 4 rfl) lc_0 ?_
  refine wr_ldc2 (pc := 7) kl_X9_305 (dget kX9_fairs 5 rfl) ?_
  refine wr_callSi (pc := 10) (Mc := mX9_in) (rest := []) cf_X9_75 cs_X9_in ⟨Nat.le_of_ble_eq_true rfl, Nat.le_of_ble_eq_true rfl⟩ rfl rfl (Nat.le_of_ble_eq_true rfl) (dget kX9_fairs 6 rfl) (tX9_in h) (fun r_4 σ_3 h => ?_)
  refine wr_if_eq (pc := 13) (tgt := 33) (dget kX9_fairs 7 rfl) (by decide) (fun c_5 => ?_) (fun c_5 => ?_)
  · have h := h.1 c_5
    refine wr_bipush (pc := 33) (dget kX9_fairs 17 rfl) bp_m2 ?_
    exact wr_iret (pc := 35) rfl (dget kX9_fairs 18 rfl) ⟨_, rfl, h⟩
  · have h := h.2 c_5
    refine wr_iload_n (pc := 16) (dget kX9_fairs 8 rfl) 3 rfl ?_
    refine wr_callSi (pc := 17) (Mc := mX9_isTwo) (rest := []) cf_X9_162 cs_X9_isTwo ⟨Nat.le_of_ble_eq_true rfl, Nat.le_of_ble_eq_true rfl⟩ rfl rfl (Nat.le_of_ble_eq_true rfl) (dget kX9_fairs 9 rfl) (tX9_isTwo h) (fun r_7 σ_6 h => ?_)
    refine wr_if_eq (pc := 20) (tgt := 33) (dget kX9_fairs 10 rfl) (by decide) (fun c_8 => ?_) (fun c_8 => ?_)
    · have h := h.1 c_8
      refine wr_bipush (pc := 33) (dget kX9_fairs 17 rfl) bp_m2 ?_
      exact wr_iret (pc := 35) rfl (dget kX9_fairs 18 rfl) ⟨_, rfl, h⟩
    · have h := h.2 c_8
      refine wr_aload_n (pc := 23) (dget kX9_fairs 11 rfl) 0 rfl ?_
      refine wr_iload_n (pc := 24) (dget kX9_fairs 12 rfl) 1 rfl ?_
      refine wr_iload_n (pc := 25) (dget kX9_fairs 13 rfl) 2 rfl ?_
      refine wr_iload_n (pc := 26) (dget kX9_fairs 14 rfl) 3 rfl ?_
      refine wr_callVi (pc := 27) (Mc := mX9_fairsOf) (o := 71) (rest := []) cf_X9_307 cv_X9_fairsOf kd_71 rfl ⟨Nat.le_of_ble_eq_true rfl, Nat.le_of_ble_eq_true rfl⟩ rfl rfl (Nat.le_of_ble_eq_true rfl) (dget kX9_fairs 15 rfl) (tX9_fairsOf h) (fun r_10 σ_9 h => ?_)
      refine wr_goto (pc := 30) (tgt := 35) (dget kX9_fairs 16 rfl) (by decide) ?_
      exact wr_iret (pc := 35) rfl (dget kX9_fairs 18 rfl) ⟨_, rfl, h⟩
def vX9_write_52 (post : Int32 → Hp → Prop) (ex : Hp → Prop) (x1 : Int32) (x2 : Int32) (x3 : Int32) : Nat → Int32 → Hp → Prop
  | 0 => fun _ _ => False
  | n + 1 => fun x4 σ => ((x3 ≤ x4 → (ex σ)) ∧ (¬ x3 ≤ x4 → (vp_in x2 4 ∧ (vp_in (((12 : Int32) * x4) + x1) 288 ∧ (vX9_cut (σ.1 72 x2.toNatClampNeg) (σ.1 89 ((((12 : Int32) * x4) + x1)).toNatClampNeg) σ (fun r_5 σ_4 => (vp_in (((60 : Int32) * x2) + x4) 240 ∧ ∀ σ_7 : Hp, σ_7 = wI σ_4 74 ((((60 : Int32) * x2) + x4)).toNatClampNeg r_5 → (∀ x4_8 : Int32, x4_8 = x4 + (1 : Int32) → vX9_write_52 post ex x1 x2 x3 n x4_8 σ_7))))))))
set_option maxHeartbeats 4000000 in
set_option maxRecDepth 100000 in
theorem tX9_write_52 {G : GT} {post : Int32 → Hp → Prop} {ex : Hp → Prop} {x1 : Int32} {x2 : Int32} {x3 : Int32} (hex : ∀  (τ : Hp), ex  τ → WP G mX9_write 97 [(3, .int x3)] [] τ (LI post)) : ∀ (n : Nat) (x4 : Int32) (σ : Hp), vX9_write_52 post ex x1 x2 x3 n x4 σ → WP G mX9_write 52 [(0, .ref (G.1 71)), (1, .int x1), (2, .int x2), (3, .int x3), (4, .int x4)] [] σ (LI post) := by
  intro n
  induction n with
  | zero => intro x4 σ h; exact False.elim h
  | succ n ih =>
    intro x4 σ h
    simp only [vX9_write_52] at h
    refine wr_iload (pc := 52) (dget kX9_write 29 rfl) 4 rfl ?_
    refine wr_iload_n (pc := 54) (dget kX9_write 30 rfl) 3 rfl ?_
    refine wr_icmp_ge (pc := 55) (tgt := 97) (dget kX9_write 31 rfl) (by decide) (fun c_1 => ?_) (fun c_1 => ?_)
    · have h := h.1 c_1
      refine wr_sub [3] rfl ?_
      exact hex  _ h
    · have h := h.2 c_1
      refine wr_aload_n (pc := 58) (dget kX9_write 32 rfl) 0 rfl ?_
      refine wr_getRl (pc := 59) fl_X9_16 kd_71 fk_9_2 rt_71_2 (dget kX9_write 33 rfl) ?_
      refine wr_bipush (pc := 62) (dget kX9_write 34 rfl) bp_60 ?_
      refine wr_iload_n (pc := 64) (dget kX9_write 35 rfl) 2 rfl ?_
      refine wr_imul (pc := 65) (dget kX9_write 36 rfl) ?_
      refine wr_iload (pc := 66) (dget kX9_write 37 rfl) 4 rfl ?_
      refine wr_iadd (pc := 68) (dget kX9_write 38 rfl) ?_
      refine wr_aload_n (pc := 69) (dget kX9_write 39 rfl) 0 rfl ?_
      refine wr_getRl (pc := 70) fl_X9_7 kd_71 fk_9_0 rt_71_0 (dget kX9_write 40 rfl) ?_
      refine wr_iload_n (pc := 73) (dget kX9_write 41 rfl) 2 rfl ?_
      obtain ⟨q_2, h⟩ := h
      refine wr_ialdl (pc := 74) (σ := σ) il_72 q_2 (dget kX9_write 42 rfl) ?_
      refine wr_aload_n (pc := 75) (dget kX9_write 43 rfl) 0 rfl ?_
      refine wr_getRl (pc := 76) fl_X9_61 kd_71 fk_9_22 rt_71_22 (dget kX9_write 44 rfl) ?_
      refine wr_bipush (pc := 79) (dget kX9_write 45 rfl) bp_12 ?_
      refine wr_iload (pc := 81) (dget kX9_write 46 rfl) 4 rfl ?_
      refine wr_imul (pc := 83) (dget kX9_write 47 rfl) ?_
      refine wr_iload_n (pc := 84) (dget kX9_write 48 rfl) 1 rfl ?_
      refine wr_iadd (pc := 85) (dget kX9_write 49 rfl) ?_
      obtain ⟨q_3, h⟩ := h
      refine wr_ialdl (pc := 86) (σ := σ) il_89 q_3 (dget kX9_write 50 rfl) ?_
      refine wr_callSi (pc := 87) (Mc := mX9_cut) (rest := [.int (((60 : Int32) * x2) + x4), .ref (G.1 74)]) cf_X9_99 cs_X9_cut ⟨Nat.le_of_ble_eq_true rfl, Nat.le_of_ble_eq_true rfl⟩ rfl rfl (Nat.le_of_ble_eq_true rfl) (dget kX9_write 51 rfl) (tX9_cut h) (fun r_5 σ_4 h => ?_)
      obtain ⟨q_6, h⟩ := h
      refine wr_iastl (pc := 90) il_74 q_6 (dget kX9_write 52 rfl) ?_
      refine wr_tops (fun σ_7 e_σ_7 => ?_)
      have h := h σ_7 e_σ_7
      obtain ⟨x4_8, e_x4_8⟩ : ∃ y : Int32, y = x4 + (1 : Int32) := ⟨_, rfl⟩
      have h := h x4_8 e_x4_8
      refine wr_iinc (pc := 91) (v := x4_8) (lv' := [(4, .int x4_8), (0, .ref (G.1 71)), (1, .int x1), (2, .int x2), (3, .int x3)]) (dget kX9_write 53 rfl) 4 rfl (by rw [e_x4_8, ic_1]) (by decide) rfl ?_
      refine wr_goto (pc := 94) (tgt := 52) (dget kX9_write 54 rfl) (by decide) ?_
      refine wr_sub [1, 2, 3, 4, 0] rfl ?_
      exact ih _ _ h
def vX9_write (p1 : Int32) (p2 : Int32) (σ : Hp) (post : Int32 → Hp → Prop) : Prop := (vX9_find  σ (fun σ_1 => (vX9_isDuck p1 σ_1 (fun r_4 σ_3 => ((r_4 = 0 → post (-2 : Int32) σ_3) ∧ (¬ r_4 = 0 → (vX9_isSheet p2 σ_3 (fun r_7 σ_6 => ((r_7 = 0 → post (-2 : Int32) σ_6) ∧ (¬ r_7 = 0 → (vp_in p2 4 ∧ ((0 ≤ (σ_6.1 72 p2.toNatClampNeg) → (vp_in p2 4 ∧ (vX9_lesser (σ_6.1 73 p2.toNatClampNeg) (24 : Int32) σ_6 (fun r_13 σ_12 => (∃ fu : Nat, vX9_write_52 post (fun σ_14 => post r_13 σ_14) p1 p2 r_13 fu (0 : Int32) σ_12))))) ∧ (¬ 0 ≤ (σ_6.1 72 p2.toNatClampNeg) → (vX9_finds (1 : Int32) σ_6 (fun r_16 σ_15 => post r_16 σ_15)))))))))))))))
set_option maxHeartbeats 4000000 in
set_option maxRecDepth 100000 in
theorem tX9_write {G : GT} {p1 : Int32} {p2 : Int32} {σ : Hp} {post : Int32 → Hp → Prop} (h : vX9_write p1 p2 σ post) : CT G mX9_write [.ref (G.1 71), .int p1, .int p2] σ (LI post) := by
  refine CT.of (by decide +kernel) (Nat.le_of_ble_eq_true rfl) ?_
  show WP G mX9_write 0 [(0, .ref (G.1 71)), (1, .int p1), (2, .int p2)] [] σ (LI post)
  unfold vX9_write at h
  refine wr_aload_n (pc := 0) (dget kX9_write 0 rfl) 0 rfl ?_
  refine wr_callVv (pc := 1) (Mc := mX9_find) (o := 71) (rest := []) cf_X9_206 cv_X9_find kd_71 rfl ⟨Nat.le_of_ble_eq_true rfl, Nat.le_of_ble_eq_true rfl⟩ rfl rfl (Nat.le_of_ble_eq_true rfl) (dget kX9_write 1 rfl) (tX9_find h) (fun σ_1 h => ?_)
  refine wr_aload_n (pc := 4) (dget kX9_write 2 rfl) 0 rfl ?_
  refine wr_iload_n (pc := 5) (dget kX9_write 3 rfl) 1 rfl ?_
  refine wr_callVi (pc := 6) (Mc := mX9_isDuck) (o := 71) (rest := []) cf_X9_156 cv_X9_isDuck kd_71 rfl ⟨Nat.le_of_ble_eq_true rfl, Nat.le_of_ble_eq_true rfl⟩ rfl rfl (Nat.le_of_ble_eq_true rfl) (dget kX9_write 4 rfl) (tX9_isDuck h) (fun r_4 σ_3 h => ?_)
  refine wr_if_eq (pc := 9) (tgt := 19) (dget kX9_write 5 rfl) (by decide) (fun c_5 => ?_) (fun c_5 => ?_)
  · have h := h.1 c_5
    refine wr_bipush (pc := 19) (dget kX9_write 9 rfl) bp_m2 ?_
    exact wr_iret (pc := 21) rfl (dget kX9_write 10 rfl) ⟨_, rfl, h⟩
  · have h := h.2 c_5
    refine wr_iload_n (pc := 12) (dget kX9_write 6 rfl) 2 rfl ?_
    refine wr_callSi (pc := 13) (Mc := mX9_isSheet) (rest := []) cf_X9_85 cs_X9_isSheet ⟨Nat.le_of_ble_eq_true rfl, Nat.le_of_ble_eq_true rfl⟩ rfl rfl (Nat.le_of_ble_eq_true rfl) (dget kX9_write 7 rfl) (tX9_isSheet h) (fun r_7 σ_6 h => ?_)
    refine wr_if_ne (pc := 16) (tgt := 22) (dget kX9_write 8 rfl) (by decide) (fun c_8 => ?_) (fun c_8 => ?_)
    · have h := h.2 c_8
      refine wr_aload_n (pc := 22) (dget kX9_write 11 rfl) 0 rfl ?_
      refine wr_getRl (pc := 23) fl_X9_7 kd_71 fk_9_0 rt_71_0 (dget kX9_write 12 rfl) ?_
      refine wr_iload_n (pc := 26) (dget kX9_write 13 rfl) 2 rfl ?_
      obtain ⟨q_9, h⟩ := h
      refine wr_ialdl (pc := 27) (σ := σ_6) il_72 q_9 (dget kX9_write 14 rfl) ?_
      refine wr_if_ge (pc := 28) (tgt := 37) (dget kX9_write 15 rfl) (by decide) (fun c_10 => ?_) (fun c_10 => ?_)
      · have h := h.1 c_10
        refine wr_aload_n (pc := 37) (dget kX9_write 20 rfl) 0 rfl ?_
        refine wr_getRl (pc := 38) fl_X9_13 kd_71 fk_9_1 rt_71_1 (dget kX9_write 21 rfl) ?_
        refine wr_iload_n (pc := 41) (dget kX9_write 22 rfl) 2 rfl ?_
        obtain ⟨q_11, h⟩ := h
        refine wr_ialdl (pc := 42) (σ := σ_6) il_73 q_11 (dget kX9_write 23 rfl) ?_
        refine wr_bipush (pc := 43) (dget kX9_write 24 rfl) bp_24 ?_
        refine wr_callSi (pc := 45) (Mc := mX9_lesser) (rest := []) cf_X9_310 cs_X9_lesser ⟨Nat.le_of_ble_eq_true rfl, Nat.le_of_ble_eq_true rfl⟩ rfl rfl (Nat.le_of_ble_eq_true rfl) (dget kX9_write 25 rfl) (tX9_lesser h) (fun r_13 σ_12 h => ?_)
        refine wr_istore_n (pc := 48) (lv' := [(3, .int r_13), (0, .ref (G.1 71)), (1, .int p1), (2, .int p2)]) (dget kX9_write 26 rfl) (by decide) rfl ?_
        refine wr_iconst (pc := 49) (dget kX9_write 27 rfl) ic_0 ?_
        refine wr_istore (pc := 50) (lv' := [(4, .int (0 : Int32)), (3, .int r_13), (0, .ref (G.1 71)), (1, .int p1), (2, .int p2)]) (dget kX9_write 28 rfl) (by decide) rfl ?_
        obtain ⟨fu, h⟩ := h
        refine wr_sub [2, 3, 4, 1, 0] rfl ?_
        refine tX9_write_52 (fun σ_14 h => ?_) fu _ _ h
        refine wr_iload_n (pc := 97) (dget kX9_write 55 rfl) 0 rfl ?_
        exact wr_iret (pc := 98) rfl (dget kX9_write 56 rfl) ⟨_, rfl, h⟩
      · have h := h.2 c_10
        refine wr_aload_n (pc := 31) (dget kX9_write 16 rfl) 0 rfl ?_
        refine wr_iconst (pc := 32) (dget kX9_write 17 rfl) ic_1 ?_
        refine wr_callVi (pc := 33) (Mc := mX9_finds) (o := 71) (rest := []) cf_X9_91 cv_X9_finds kd_71 rfl ⟨Nat.le_of_ble_eq_true rfl, Nat.le_of_ble_eq_true rfl⟩ rfl rfl (Nat.le_of_ble_eq_true rfl) (dget kX9_write 18 rfl) (tX9_finds h) (fun r_16 σ_15 h => ?_)
        exact wr_iret (pc := 36) rfl (dget kX9_write 19 rfl) ⟨_, rfl, h⟩
    · have h := h.1 c_8
      refine wr_bipush (pc := 19) (dget kX9_write 9 rfl) bp_m2 ?_
      exact wr_iret (pc := 21) rfl (dget kX9_write 10 rfl) ⟨_, rfl, h⟩
def vX9_count (p1 : Int32) (σ : Hp) (post : Int32 → Hp → Prop) : Prop := (vX9_find  σ (fun σ_1 => ((p1 = (0 : Int32) → post (σ_1.1 71 8) σ_1) ∧ (¬ p1 = (0 : Int32) → ((p1 = (1 : Int32) → post (σ_1.1 71 10) σ_1) ∧ (¬ p1 = (1 : Int32) → ((p1 = (2 : Int32) → (vp_in (0 : Int32) 3 ∧ (vp_in (1 : Int32) 3 ∧ (vp_in (2 : Int32) 3 ∧ post (((σ_1.1 77 (0 : Int32).toNatClampNeg) + (σ_1.1 77 (1 : Int32).toNatClampNeg)) + (σ_1.1 77 (2 : Int32).toNatClampNeg)) σ_1)))) ∧ (¬ p1 = (2 : Int32) → ((p1 = (3 : Int32) → post (σ_1.1 71 13) σ_1) ∧ (¬ p1 = (3 : Int32) → ((p1 = (4 : Int32) → (vX9_score  σ_1 (fun r_12 σ_11 => post r_12 σ_11))) ∧ (¬ p1 = (4 : Int32) → ((p1 = (5 : Int32) → (vX9_manyHit  σ_1 (fun r_15 σ_14 => post r_15 σ_14))) ∧ (¬ p1 = (5 : Int32) → ((p1 = (6 : Int32) → (vX9_downBy (23 : Int32) σ_1 (fun r_18 σ_17 => post r_18 σ_17))) ∧ (¬ p1 = (6 : Int32) → ((p1 = (7 : Int32) → post (σ_1.1 71 24) σ_1) ∧ (¬ p1 = (7 : Int32) → ((p1 = (8 : Int32) → post (σ_1.1 71 4) σ_1) ∧ (¬ p1 = (8 : Int32) → post (-2 : Int32) σ_1))))))))))))))))))))
set_option maxHeartbeats 4000000 in
set_option maxRecDepth 100000 in
theorem tX9_count {G : GT} {p1 : Int32} {σ : Hp} {post : Int32 → Hp → Prop} (h : vX9_count p1 σ post) : CT G mX9_count [.ref (G.1 71), .int p1] σ (LI post) := by
  refine CT.of (by decide +kernel) (Nat.le_of_ble_eq_true rfl) ?_
  show WP G mX9_count 0 [(0, .ref (G.1 71)), (1, .int p1)] [] σ (LI post)
  unfold vX9_count at h
  refine wr_aload_n (pc := 0) (dget kX9_count 0 rfl) 0 rfl ?_
  refine wr_callVv (pc := 1) (Mc := mX9_find) (o := 71) (rest := []) cf_X9_206 cv_X9_find kd_71 rfl ⟨Nat.le_of_ble_eq_true rfl, Nat.le_of_ble_eq_true rfl⟩ rfl rfl (Nat.le_of_ble_eq_true rfl) (dget kX9_count 1 rfl) (tX9_find h) (fun σ_1 h => ?_)
  refine wr_iload_n (pc := 4) (dget kX9_count 2 rfl) 1 rfl ?_
  rcases Decidable.em (p1 = (0 : Int32)) with c_3 | c_3
  · have h := h.1 c_3
    refine wr_tabIn (pc := 5) (tgt := 56) (off := 51) (dget kX9_count 3 rfl) (by rw [c_3]; decide) (by rw [c_3]; decide) (by rw [c_3]; rfl) (by decide) ?_
    refine wr_aload_n (pc := 56) (dget kX9_count 4 rfl) 0 rfl ?_
    refine wr_getI (pc := 57) (σ := σ_1) fl_X9_123 kd_71 fk_9_8 (dget kX9_count 5 rfl) ?_
    exact wr_iret (pc := 60) rfl (dget kX9_count 6 rfl) ⟨_, rfl, h⟩
  · have h := h.2 c_3
    rcases Decidable.em (p1 = (1 : Int32)) with c_4 | c_4
    · have h := h.1 c_4
      refine wr_tabIn (pc := 5) (tgt := 61) (off := 56) (dget kX9_count 3 rfl) (by rw [c_4]; decide) (by rw [c_4]; decide) (by rw [c_4]; rfl) (by decide) ?_
      refine wr_aload_n (pc := 61) (dget kX9_count 7 rfl) 0 rfl ?_
      refine wr_getI (pc := 62) (σ := σ_1) fl_X9_132 kd_71 fk_9_10 (dget kX9_count 8 rfl) ?_
      exact wr_iret (pc := 65) rfl (dget kX9_count 9 rfl) ⟨_, rfl, h⟩
    · have h := h.2 c_4
      rcases Decidable.em (p1 = (2 : Int32)) with c_5 | c_5
      · have h := h.1 c_5
        refine wr_tabIn (pc := 5) (tgt := 66) (off := 61) (dget kX9_count 3 rfl) (by rw [c_5]; decide) (by rw [c_5]; decide) (by rw [c_5]; rfl) (by decide) ?_
        refine wr_aload_n (pc := 66) (dget kX9_count 10 rfl) 0 rfl ?_
        refine wr_getRl (pc := 67) fl_X9_25 kd_71 fk_9_6 rt_71_6 (dget kX9_count 11 rfl) ?_
        refine wr_iconst (pc := 70) (dget kX9_count 12 rfl) ic_0 ?_
        obtain ⟨q_6, h⟩ := h
        refine wr_ialdl (pc := 71) (σ := σ_1) il_77 q_6 (dget kX9_count 13 rfl) ?_
        refine wr_aload_n (pc := 72) (dget kX9_count 14 rfl) 0 rfl ?_
        refine wr_getRl (pc := 73) fl_X9_25 kd_71 fk_9_6 rt_71_6 (dget kX9_count 15 rfl) ?_
        refine wr_iconst (pc := 76) (dget kX9_count 16 rfl) ic_1 ?_
        obtain ⟨q_7, h⟩ := h
        refine wr_ialdl (pc := 77) (σ := σ_1) il_77 q_7 (dget kX9_count 17 rfl) ?_
        refine wr_iadd (pc := 78) (dget kX9_count 18 rfl) ?_
        refine wr_aload_n (pc := 79) (dget kX9_count 19 rfl) 0 rfl ?_
        refine wr_getRl (pc := 80) fl_X9_25 kd_71 fk_9_6 rt_71_6 (dget kX9_count 20 rfl) ?_
        refine wr_iconst (pc := 83) (dget kX9_count 21 rfl) ic_2 ?_
        obtain ⟨q_8, h⟩ := h
        refine wr_ialdl (pc := 84) (σ := σ_1) il_77 q_8 (dget kX9_count 22 rfl) ?_
        refine wr_iadd (pc := 85) (dget kX9_count 23 rfl) ?_
        exact wr_iret (pc := 86) rfl (dget kX9_count 24 rfl) ⟨_, rfl, h⟩
      · have h := h.2 c_5
        rcases Decidable.em (p1 = (3 : Int32)) with c_9 | c_9
        · have h := h.1 c_9
          refine wr_tabIn (pc := 5) (tgt := 87) (off := 82) (dget kX9_count 3 rfl) (by rw [c_9]; decide) (by rw [c_9]; decide) (by rw [c_9]; rfl) (by decide) ?_
          refine wr_aload_n (pc := 87) (dget kX9_count 25 rfl) 0 rfl ?_
          refine wr_getI (pc := 88) (σ := σ_1) fl_X9_172 kd_71 fk_9_13 (dget kX9_count 26 rfl) ?_
          exact wr_iret (pc := 91) rfl (dget kX9_count 27 rfl) ⟨_, rfl, h⟩
        · have h := h.2 c_9
          rcases Decidable.em (p1 = (4 : Int32)) with c_10 | c_10
          · have h := h.1 c_10
            refine wr_tabIn (pc := 5) (tgt := 92) (off := 87) (dget kX9_count 3 rfl) (by rw [c_10]; decide) (by rw [c_10]; decide) (by rw [c_10]; rfl) (by decide) ?_
            refine wr_aload_n (pc := 92) (dget kX9_count 28 rfl) 0 rfl ?_
            refine wr_callVi (pc := 93) (Mc := mX9_score) (o := 71) (rest := []) cf_X9_221 cv_X9_score kd_71 rfl ⟨Nat.le_of_ble_eq_true rfl, Nat.le_of_ble_eq_true rfl⟩ rfl rfl (Nat.le_of_ble_eq_true rfl) (dget kX9_count 29 rfl) (tX9_score h) (fun r_12 σ_11 h => ?_)
            exact wr_iret (pc := 96) rfl (dget kX9_count 30 rfl) ⟨_, rfl, h⟩
          · have h := h.2 c_10
            rcases Decidable.em (p1 = (5 : Int32)) with c_13 | c_13
            · have h := h.1 c_13
              refine wr_tabIn (pc := 5) (tgt := 97) (off := 92) (dget kX9_count 3 rfl) (by rw [c_13]; decide) (by rw [c_13]; decide) (by rw [c_13]; rfl) (by decide) ?_
              refine wr_aload_n (pc := 97) (dget kX9_count 31 rfl) 0 rfl ?_
              refine wr_callVi (pc := 98) (Mc := mX9_manyHit) (o := 71) (rest := []) cf_X9_224 cv_X9_manyHit kd_71 rfl ⟨Nat.le_of_ble_eq_true rfl, Nat.le_of_ble_eq_true rfl⟩ rfl rfl (Nat.le_of_ble_eq_true rfl) (dget kX9_count 32 rfl) (tX9_manyHit h) (fun r_15 σ_14 h => ?_)
              exact wr_iret (pc := 101) rfl (dget kX9_count 33 rfl) ⟨_, rfl, h⟩
            · have h := h.2 c_13
              rcases Decidable.em (p1 = (6 : Int32)) with c_16 | c_16
              · have h := h.1 c_16
                refine wr_tabIn (pc := 5) (tgt := 102) (off := 97) (dget kX9_count 3 rfl) (by rw [c_16]; decide) (by rw [c_16]; decide) (by rw [c_16]; rfl) (by decide) ?_
                refine wr_aload_n (pc := 102) (dget kX9_count 34 rfl) 0 rfl ?_
                refine wr_bipush (pc := 103) (dget kX9_count 35 rfl) bp_23 ?_
                refine wr_callVi (pc := 105) (Mc := mX9_downBy) (o := 71) (rest := []) cf_X9_215 cv_X9_downBy kd_71 rfl ⟨Nat.le_of_ble_eq_true rfl, Nat.le_of_ble_eq_true rfl⟩ rfl rfl (Nat.le_of_ble_eq_true rfl) (dget kX9_count 36 rfl) (tX9_downBy h) (fun r_18 σ_17 h => ?_)
                exact wr_iret (pc := 108) rfl (dget kX9_count 37 rfl) ⟨_, rfl, h⟩
              · have h := h.2 c_16
                rcases Decidable.em (p1 = (7 : Int32)) with c_19 | c_19
                · have h := h.1 c_19
                  refine wr_tabIn (pc := 5) (tgt := 109) (off := 104) (dget kX9_count 3 rfl) (by rw [c_19]; decide) (by rw [c_19]; decide) (by rw [c_19]; rfl) (by decide) ?_
                  refine wr_aload_n (pc := 109) (dget kX9_count 38 rfl) 0 rfl ?_
                  refine wr_getI (pc := 110) (σ := σ_1) fl_X9_256 kd_71 fk_9_24 (dget kX9_count 39 rfl) ?_
                  exact wr_iret (pc := 113) rfl (dget kX9_count 40 rfl) ⟨_, rfl, h⟩
                · have h := h.2 c_19
                  rcases Decidable.em (p1 = (8 : Int32)) with c_20 | c_20
                  · have h := h.1 c_20
                    refine wr_tabIn (pc := 5) (tgt := 114) (off := 109) (dget kX9_count 3 rfl) (by rw [c_20]; decide) (by rw [c_20]; decide) (by rw [c_20]; rfl) (by decide) ?_
                    refine wr_aload_n (pc := 114) (dget kX9_count 41 rfl) 0 rfl ?_
                    refine wr_getI (pc := 115) (σ := σ_1) fl_X9_79 kd_71 fk_9_4 (dget kX9_count 42 rfl) ?_
                    exact wr_iret (pc := 118) rfl (dget kX9_count 43 rfl) ⟨_, rfl, h⟩
                  · have h := h.2 c_20
                    refine wr_tabOut (pc := 5) (tgt := 119) (dget kX9_count 3 rfl) (by have := sw_ne c_3 (by decide : ((0 : Int32)).toInt = 0); have := sw_ne c_4 (by decide : ((1 : Int32)).toInt = 1); have := sw_ne c_5 (by decide : ((2 : Int32)).toInt = 2); have := sw_ne c_9 (by decide : ((3 : Int32)).toInt = 3); have := sw_ne c_10 (by decide : ((4 : Int32)).toInt = 4); have := sw_ne c_13 (by decide : ((5 : Int32)).toInt = 5); have := sw_ne c_16 (by decide : ((6 : Int32)).toInt = 6); have := sw_ne c_19 (by decide : ((7 : Int32)).toInt = 7); have := sw_ne c_20 (by decide : ((8 : Int32)).toInt = 8); omega) (by decide) ?_
                    refine wr_bipush (pc := 119) (dget kX9_count 44 rfl) bp_m2 ?_
                    exact wr_iret (pc := 121) rfl (dget kX9_count 45 rfl) ⟨_, rfl, h⟩
def vX9_tellsTick_6 (post : Int64 → Hp → Prop) (ex : Int64 → Hp → Prop) (x3 : Int32) (x4 : Int32) : Nat → Int64 → Int32 → Hp → Prop
  | 0 => fun _ _ _ => False
  | n + 1 => fun x5 x7 σ => (((3 : Int32) ≤ x7 → (ex x5 σ)) ∧ (¬ (3 : Int32) ≤ x7 → (vX9_atBy x3 x4 x7 σ (fun r_3 σ_2 => (∀ x5_4 : Int64, x5_4 = (((31 : Int64) * x5) + r_3.toInt64) → (∀ x7_5 : Int32, x7_5 = x7 + (1 : Int32) → vX9_tellsTick_6 post ex x3 x4 n x5_4 x7_5 σ_2))))))
set_option maxHeartbeats 4000000 in
set_option maxRecDepth 100000 in
theorem tX9_tellsTick_6 {G : GT} {post : Int64 → Hp → Prop} {ex : Int64 → Hp → Prop} {x3 : Int32} {x4 : Int32} (hex : ∀ (z5 : Int64) (τ : Hp), ex z5 τ → WP G mX9_tellsTick 37 [(5, .long z5)] [] τ (LL post)) : ∀ (n : Nat) (x5 : Int64) (x7 : Int32) (σ : Hp), vX9_tellsTick_6 post ex x3 x4 n x5 x7 σ → WP G mX9_tellsTick 6 [(0, .ref (G.1 71)), (3, .int x3), (4, .int x4), (5, .long x5), (7, .int x7)] [] σ (LL post) := by
  intro n
  induction n with
  | zero => intro x5 x7 σ h; exact False.elim h
  | succ n ih =>
    intro x5 x7 σ h
    simp only [vX9_tellsTick_6] at h
    refine wr_iload (pc := 6) (dget kX9_tellsTick 4 rfl) 4 rfl ?_
    refine wr_iconst (pc := 8) (dget kX9_tellsTick 5 rfl) ic_3 ?_
    refine wr_icmp_ge (pc := 9) (tgt := 37) (dget kX9_tellsTick 6 rfl) (by decide) (fun c_1 => ?_) (fun c_1 => ?_)
    · have h := h.1 c_1
      refine wr_sub [3] rfl ?_
      exact hex _ _ h
    · have h := h.2 c_1
      refine wr_ldc2 (pc := 12) kl_X9_313 (dget kX9_tellsTick 7 rfl) ?_
      refine wr_lload (pc := 15) (dget kX9_tellsTick 8 rfl) 3 rfl ?_
      refine wr_lmul (pc := 17) (dget kX9_tellsTick 9 rfl) ?_
      refine wr_aload_n (pc := 18) (dget kX9_tellsTick 10 rfl) 0 rfl ?_
      refine wr_iload_n (pc := 19) (dget kX9_tellsTick 11 rfl) 1 rfl ?_
      refine wr_iload (pc := 20) (dget kX9_tellsTick 12 rfl) 2 rfl ?_
      refine wr_iload (pc := 22) (dget kX9_tellsTick 13 rfl) 4 rfl ?_
      refine wr_callVi (pc := 24) (Mc := mX9_atBy) (o := 71) (rest := [.long ((31 : Int64) * x5)]) cf_X9_209 cv_X9_atBy kd_71 rfl ⟨Nat.le_of_ble_eq_true rfl, Nat.le_of_ble_eq_true rfl⟩ rfl rfl (Nat.le_of_ble_eq_true rfl) (dget kX9_tellsTick 14 rfl) (tX9_atBy h) (fun r_3 σ_2 h => ?_)
      refine wr_i2l (pc := 27) (dget kX9_tellsTick 15 rfl) rfl ?_
      refine wr_ladd (pc := 28) (dget kX9_tellsTick 16 rfl) ?_
      refine wr_topl (fun x5_4 e_x5_4 => ?_)
      have h := h x5_4 e_x5_4
      refine wr_lstore (pc := 29) (lv' := [(5, .long x5_4), (0, .ref (G.1 71)), (3, .int x3), (4, .int x4), (7, .int x7)]) (dget kX9_tellsTick 17 rfl) (by decide) rfl ?_
      obtain ⟨x7_5, e_x7_5⟩ : ∃ y : Int32, y = x7 + (1 : Int32) := ⟨_, rfl⟩
      have h := h x7_5 e_x7_5
      refine wr_iinc (pc := 31) (v := x7_5) (lv' := [(7, .int x7_5), (5, .long x5_4), (0, .ref (G.1 71)), (3, .int x3), (4, .int x4)]) (dget kX9_tellsTick 18 rfl) 4 rfl (by rw [e_x7_5, ic_1]) (by decide) rfl ?_
      refine wr_goto (pc := 34) (tgt := 6) (dget kX9_tellsTick 19 rfl) (by decide) ?_
      refine wr_sub [2, 3, 4, 1, 0] rfl ?_
      exact ih _ _ _ h
def vX9_tellsTick (p1 : Int64) (p2 : Int32) (p3 : Int32) (σ : Hp) (post : Int64 → Hp → Prop) : Prop := (∃ fu : Nat, vX9_tellsTick_6 post (fun z5_1 σ_2 => post z5_1 σ_2) p2 p3 fu p1 (0 : Int32) σ)
set_option maxHeartbeats 4000000 in
set_option maxRecDepth 100000 in
theorem tX9_tellsTick {G : GT} {p1 : Int64} {p2 : Int32} {p3 : Int32} {σ : Hp} {post : Int64 → Hp → Prop} (h : vX9_tellsTick p1 p2 p3 σ post) : CT G mX9_tellsTick [.ref (G.1 71), .long p1, .int p2, .int p3] σ (LL post) := by
  refine CT.of (by decide +kernel) (Nat.le_of_ble_eq_true rfl) ?_
  show WP G mX9_tellsTick 0 [(0, .ref (G.1 71)), (1, .long p1), (3, .int p2), (4, .int p3)] [] σ (LL post)
  unfold vX9_tellsTick at h
  refine wr_lload_n (pc := 0) (dget kX9_tellsTick 0 rfl) 1 rfl ?_
  refine wr_lstore (pc := 1) (lv' := [(5, .long p1), (0, .ref (G.1 71)), (1, .long p1), (3, .int p2), (4, .int p3)]) (dget kX9_tellsTick 1 rfl) (by decide) rfl ?_
  refine wr_iconst (pc := 3) (dget kX9_tellsTick 2 rfl) ic_0 ?_
  refine wr_istore (pc := 4) (lv' := [(7, .int (0 : Int32)), (5, .long p1), (0, .ref (G.1 71)), (1, .long p1), (3, .int p2), (4, .int p3)]) (dget kX9_tellsTick 3 rfl) (by decide) rfl ?_
  obtain ⟨fu, h⟩ := h
  refine wr_sub [2, 4, 5, 1, 0] rfl ?_
  refine tX9_tellsTick_6 (fun z5_1 σ_2 h => ?_) fu _ _ _ h
  refine wr_lload (pc := 37) (dget kX9_tellsTick 20 rfl) 0 rfl ?_
  exact wr_lret (pc := 39) rfl (dget kX9_tellsTick 21 rfl) ⟨_, rfl, h⟩
def vX9_tellsDuck_10 (post : Int64 → Hp → Prop) (ex : Int64 → Hp → Prop) (x3 : Int32) : Nat → Int64 → Int32 → Hp → Prop
  | 0 => fun _ _ _ => False
  | n + 1 => fun x4 x6 σ => (((4 : Int32) ≤ x6 → (ex x4 σ)) ∧ (¬ (4 : Int32) ≤ x6 → (vp_in (((4 : Int32) * x3) + x6) 48 ∧ (∀ x4_3 : Int64, x4_3 = (((31 : Int64) * x4) + ((σ.1 79 ((((4 : Int32) * x3) + x6)).toNatClampNeg)).toInt64) → (∀ x6_4 : Int32, x6_4 = x6 + (1 : Int32) → vX9_tellsDuck_10 post ex x3 n x4_3 x6_4 σ)))))
set_option maxHeartbeats 4000000 in
set_option maxRecDepth 100000 in
theorem tX9_tellsDuck_10 {G : GT} {post : Int64 → Hp → Prop} {ex : Int64 → Hp → Prop} {x3 : Int32} (hex : ∀ (z4 : Int64) (τ : Hp), ex z4 τ → WP G mX9_tellsDuck 43 [(0, .ref (G.1 71)), (3, .int x3), (4, .long z4)] [] τ (LL post)) : ∀ (n : Nat) (x4 : Int64) (x6 : Int32) (σ : Hp), vX9_tellsDuck_10 post ex x3 n x4 x6 σ → WP G mX9_tellsDuck 10 [(0, .ref (G.1 71)), (3, .int x3), (4, .long x4), (6, .int x6)] [] σ (LL post) := by
  intro n
  induction n with
  | zero => intro x4 x6 σ h; exact False.elim h
  | succ n ih =>
    intro x4 x6 σ h
    simp only [vX9_tellsDuck_10] at h
    refine wr_iload (pc := 10) (dget kX9_tellsDuck 6 rfl) 3 rfl ?_
    refine wr_iconst (pc := 12) (dget kX9_tellsDuck 7 rfl) ic_4 ?_
    refine wr_icmp_ge (pc := 13) (tgt := 43) (dget kX9_tellsDuck 8 rfl) (by decide) (fun c_1 => ?_) (fun c_1 => ?_)
    · have h := h.1 c_1
      refine wr_sub [0, 1, 2] rfl ?_
      exact hex _ _ h
    · have h := h.2 c_1
      refine wr_ldc2 (pc := 16) kl_X9_313 (dget kX9_tellsDuck 9 rfl) ?_
      refine wr_lload (pc := 19) (dget kX9_tellsDuck 10 rfl) 2 rfl ?_
      refine wr_lmul (pc := 21) (dget kX9_tellsDuck 11 rfl) ?_
      refine wr_aload_n (pc := 22) (dget kX9_tellsDuck 12 rfl) 0 rfl ?_
      refine wr_getRl (pc := 23) fl_X9_31 kd_71 fk_9_9 rt_71_9 (dget kX9_tellsDuck 13 rfl) ?_
      refine wr_iconst (pc := 26) (dget kX9_tellsDuck 14 rfl) ic_4 ?_
      refine wr_iload_n (pc := 27) (dget kX9_tellsDuck 15 rfl) 1 rfl ?_
      refine wr_imul (pc := 28) (dget kX9_tellsDuck 16 rfl) ?_
      refine wr_iload (pc := 29) (dget kX9_tellsDuck 17 rfl) 3 rfl ?_
      refine wr_iadd (pc := 31) (dget kX9_tellsDuck 18 rfl) ?_
      obtain ⟨q_2, h⟩ := h
      refine wr_ialdl (pc := 32) (σ := σ) il_79 q_2 (dget kX9_tellsDuck 19 rfl) ?_
      refine wr_i2l (pc := 33) (dget kX9_tellsDuck 20 rfl) rfl ?_
      refine wr_ladd (pc := 34) (dget kX9_tellsDuck 21 rfl) ?_
      refine wr_topl (fun x4_3 e_x4_3 => ?_)
      have h := h x4_3 e_x4_3
      refine wr_lstore (pc := 35) (lv' := [(4, .long x4_3), (0, .ref (G.1 71)), (3, .int x3), (6, .int x6)]) (dget kX9_tellsDuck 22 rfl) (by decide) rfl ?_
      obtain ⟨x6_4, e_x6_4⟩ : ∃ y : Int32, y = x6 + (1 : Int32) := ⟨_, rfl⟩
      have h := h x6_4 e_x6_4
      refine wr_iinc (pc := 37) (v := x6_4) (lv' := [(6, .int x6_4), (4, .long x4_3), (0, .ref (G.1 71)), (3, .int x3)]) (dget kX9_tellsDuck 23 rfl) 3 rfl (by rw [e_x6_4, ic_1]) (by decide) rfl ?_
      refine wr_goto (pc := 40) (tgt := 10) (dget kX9_tellsDuck 24 rfl) (by decide) ?_
      refine wr_sub [2, 3, 1, 0] rfl ?_
      exact ih _ _ _ h
def vX9_tellsDuck (p1 : Int64) (p2 : Int32) (σ : Hp) (post : Int64 → Hp → Prop) : Prop := (vX9_lives  σ (fun σ_1 => (∃ fu : Nat, vX9_tellsDuck_10 post (fun z4_3 σ_4 => (vX9_tellsTick z4_3 (0 : Int32) p2 σ_4 (fun r_6 σ_5 => (vX9_tellsTick r_6 (6 : Int32) p2 σ_5 (fun r_8 σ_7 => (vX9_tellsTick r_8 (13 : Int32) p2 σ_7 (fun r_10 σ_9 => (vX9_tellsTick r_10 (23 : Int32) p2 σ_9 (fun r_12 σ_11 => (vX9_kindOf p2 σ_11 (fun r_14 σ_13 => post (((31 : Int64) * r_12) + r_14.toInt64) σ_13))))))))))) p2 fu p1 (0 : Int32) σ_1)))
set_option maxHeartbeats 4000000 in
set_option maxRecDepth 100000 in
theorem tX9_tellsDuck {G : GT} {p1 : Int64} {p2 : Int32} {σ : Hp} {post : Int64 → Hp → Prop} (h : vX9_tellsDuck p1 p2 σ post) : CT G mX9_tellsDuck [.ref (G.1 71), .long p1, .int p2] σ (LL post) := by
  refine CT.of (by decide +kernel) (Nat.le_of_ble_eq_true rfl) ?_
  show WP G mX9_tellsDuck 0 [(0, .ref (G.1 71)), (1, .long p1), (3, .int p2)] [] σ (LL post)
  unfold vX9_tellsDuck at h
  refine wr_aload_n (pc := 0) (dget kX9_tellsDuck 0 rfl) 0 rfl ?_
  refine wr_callVv (pc := 1) (Mc := mX9_lives) (o := 71) (rest := []) cf_X9_203 cv_X9_lives kd_71 rfl ⟨Nat.le_of_ble_eq_true rfl, Nat.le_of_ble_eq_true rfl⟩ rfl rfl (Nat.le_of_ble_eq_true rfl) (dget kX9_tellsDuck 1 rfl) (tX9_lives h) (fun σ_1 h => ?_)
  refine wr_lload_n (pc := 4) (dget kX9_tellsDuck 2 rfl) 1 rfl ?_
  refine wr_lstore (pc := 5) (lv' := [(4, .long p1), (0, .ref (G.1 71)), (1, .long p1), (3, .int p2)]) (dget kX9_tellsDuck 3 rfl) (by decide) rfl ?_
  refine wr_iconst (pc := 7) (dget kX9_tellsDuck 4 rfl) ic_0 ?_
  refine wr_istore (pc := 8) (lv' := [(6, .int (0 : Int32)), (4, .long p1), (0, .ref (G.1 71)), (1, .long p1), (3, .int p2)]) (dget kX9_tellsDuck 5 rfl) (by decide) rfl ?_
  obtain ⟨fu, h⟩ := h
  refine wr_sub [2, 4, 1, 0] rfl ?_
  refine tX9_tellsDuck_10 (fun z4_3 σ_4 h => ?_) fu _ _ _ h
  refine wr_aload_n (pc := 43) (dget kX9_tellsDuck 25 rfl) 0 rfl ?_
  refine wr_aload_n (pc := 44) (dget kX9_tellsDuck 26 rfl) 0 rfl ?_
  refine wr_aload_n (pc := 45) (dget kX9_tellsDuck 27 rfl) 0 rfl ?_
  refine wr_aload_n (pc := 46) (dget kX9_tellsDuck 28 rfl) 0 rfl ?_
  refine wr_lload (pc := 47) (dget kX9_tellsDuck 29 rfl) 2 rfl ?_
  refine wr_iconst (pc := 49) (dget kX9_tellsDuck 30 rfl) ic_0 ?_
  refine wr_iload_n (pc := 50) (dget kX9_tellsDuck 31 rfl) 1 rfl ?_
  refine wr_callVl (pc := 51) (Mc := mX9_tellsTick) (o := 71) (rest := [.ref (G.1 71), .ref (G.1 71), .ref (G.1 71)]) cf_X9_315 cv_X9_tellsTick kd_71 rfl ⟨Nat.le_of_ble_eq_true rfl, Nat.le_of_ble_eq_true rfl⟩ rfl rfl (Nat.le_of_ble_eq_true rfl) (dget kX9_tellsDuck 32 rfl) (tX9_tellsTick h) (fun r_6 σ_5 h => ?_)
  refine wr_bipush (pc := 54) (dget kX9_tellsDuck 33 rfl) bp_6 ?_
  refine wr_iload_n (pc := 56) (dget kX9_tellsDuck 34 rfl) 1 rfl ?_
  refine wr_callVl (pc := 57) (Mc := mX9_tellsTick) (o := 71) (rest := [.ref (G.1 71), .ref (G.1 71)]) cf_X9_315 cv_X9_tellsTick kd_71 rfl ⟨Nat.le_of_ble_eq_true rfl, Nat.le_of_ble_eq_true rfl⟩ rfl rfl (Nat.le_of_ble_eq_true rfl) (dget kX9_tellsDuck 35 rfl) (tX9_tellsTick h) (fun r_8 σ_7 h => ?_)
  refine wr_bipush (pc := 60) (dget kX9_tellsDuck 36 rfl) bp_13 ?_
  refine wr_iload_n (pc := 62) (dget kX9_tellsDuck 37 rfl) 1 rfl ?_
  refine wr_callVl (pc := 63) (Mc := mX9_tellsTick) (o := 71) (rest := [.ref (G.1 71)]) cf_X9_315 cv_X9_tellsTick kd_71 rfl ⟨Nat.le_of_ble_eq_true rfl, Nat.le_of_ble_eq_true rfl⟩ rfl rfl (Nat.le_of_ble_eq_true rfl) (dget kX9_tellsDuck 38 rfl) (tX9_tellsTick h) (fun r_10 σ_9 h => ?_)
  refine wr_bipush (pc := 66) (dget kX9_tellsDuck 39 rfl) bp_23 ?_
  refine wr_iload_n (pc := 68) (dget kX9_tellsDuck 40 rfl) 1 rfl ?_
  refine wr_callVl (pc := 69) (Mc := mX9_tellsTick) (o := 71) (rest := []) cf_X9_315 cv_X9_tellsTick kd_71 rfl ⟨Nat.le_of_ble_eq_true rfl, Nat.le_of_ble_eq_true rfl⟩ rfl rfl (Nat.le_of_ble_eq_true rfl) (dget kX9_tellsDuck 41 rfl) (tX9_tellsTick h) (fun r_12 σ_11 h => ?_)
  refine wr_lstore (pc := 72) (lv' := [(4, .long r_12), (0, .ref (G.1 71)), (3, .int p2)]) (dget kX9_tellsDuck 42 rfl) (by decide) rfl ?_
  refine wr_ldc2 (pc := 74) kl_X9_313 (dget kX9_tellsDuck 43 rfl) ?_
  refine wr_lload (pc := 77) (dget kX9_tellsDuck 44 rfl) 0 rfl ?_
  refine wr_lmul (pc := 79) (dget kX9_tellsDuck 45 rfl) ?_
  refine wr_aload_n (pc := 80) (dget kX9_tellsDuck 46 rfl) 1 rfl ?_
  refine wr_iload_n (pc := 81) (dget kX9_tellsDuck 47 rfl) 2 rfl ?_
  refine wr_callVi (pc := 82) (Mc := mX9_kindOf) (o := 71) (rest := [.long ((31 : Int64) * r_12)]) cf_X9_275 cv_X9_kindOf kd_71 rfl ⟨Nat.le_of_ble_eq_true rfl, Nat.le_of_ble_eq_true rfl⟩ rfl rfl (Nat.le_of_ble_eq_true rfl) (dget kX9_tellsDuck 48 rfl) (tX9_kindOf h) (fun r_14 σ_13 h => ?_)
  refine wr_i2l (pc := 85) (dget kX9_tellsDuck 49 rfl) rfl ?_
  refine wr_ladd (pc := 86) (dget kX9_tellsDuck 50 rfl) ?_
  exact wr_lret (pc := 87) rfl (dget kX9_tellsDuck 51 rfl) ⟨_, rfl, h⟩
