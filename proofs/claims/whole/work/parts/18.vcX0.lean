def vX0_goOn_57 (post : Int32 → Hp → Prop) (ex : Int32 → Hp → Prop) (rc : Int32 → Int32 → Hp → Prop) (a0 : Nat) (x1 : Int32) (x2 : Int32) (x3 : Int32) (x4 : Int32) (x5 : Int32) (y0 : Int32) (σ : Hp) : Prop := (vJ9_floorMod_7cf53 (x5 + y0) (12 : Int32) σ (fun r_2 σ_1 => (kd a0 = 0 ∧ (vp_in ((x1 * (3 : Int32)) + x4) (iln (rt a0 2)) ∧ ∀ σ_5 : Hp, σ_5 = wI σ_1 (rt a0 2) (((x1 * (3 : Int32)) + x4)).toNatClampNeg r_2 → (vp_in ((x4 * (12 : Int32)) + r_2) 36 ∧ (∀ x3_7 : Int32, x3_7 = (x3 ||| (σ_5.1 9 (((x4 * (12 : Int32)) + r_2)).toNatClampNeg)) → (∀ x4_8 : Int32, x4_8 = x4 + (1 : Int32) → (rc x3_7 x4_8 σ_5))))))))
set_option maxHeartbeats 4000000 in
set_option maxRecDepth 100000 in
theorem tX0_goOn_57 {G : GT} {post : Int32 → Hp → Prop} {ex : Int32 → Hp → Prop} {rc : Int32 → Int32 → Hp → Prop} {a0 : Nat} {x1 : Int32} {x2 : Int32} {x3 : Int32} {x4 : Int32} {x5 : Int32} {y0 : Int32} {σ : Hp} (hex : ∀ (z3 : Int32) (τ : Hp), ex z3 τ → WP G mX0_goOn 109 [(3, .int z3)] [] τ (LI post)) (hrc : ∀ (z3 : Int32) (z4 : Int32) (τ : Hp), rc z3 z4 τ → WP G mX0_goOn 5 [(0, .ref (G.1 a0)), (1, .int x1), (2, .int x2), (3, .int z3), (4, .int z4)] [] τ (LI post)) (h : vX0_goOn_57 post ex rc a0 x1 x2 x3 x4 x5 y0 σ) : WP G mX0_goOn 57 [(0, .ref (G.1 a0)), (1, .int x1), (2, .int x2), (3, .int x3), (4, .int x4), (5, .int x5)] [.int y0] σ (LI post) := by
  unfold vX0_goOn_57 at h
  refine wr_istore (pc := 57) (lv' := [(6, .int y0), (0, .ref (G.1 a0)), (1, .int x1), (2, .int x2), (3, .int x3), (4, .int x4), (5, .int x5)]) (dget kX0_goOn 33 rfl) (by decide) rfl ?_
  refine wr_iload (pc := 59) (dget kX0_goOn 34 rfl) 6 rfl ?_
  refine wr_iload (pc := 61) (dget kX0_goOn 35 rfl) 0 rfl ?_
  refine wr_iadd (pc := 63) (dget kX0_goOn 36 rfl) ?_
  refine wr_bipush (pc := 64) (dget kX0_goOn 37 rfl) bp_12 ?_
  refine wr_callSi (pc := 66) (Mc := mJ9_floorMod_7cf53) (rest := []) cf_X0_50 cs_J9_floorMod_7cf53 ⟨Nat.le_of_ble_eq_true rfl, Nat.le_of_ble_eq_true rfl⟩ rfl rfl (Nat.le_of_ble_eq_true rfl) (dget kX0_goOn 38 rfl) (tJ9_floorMod_7cf53 h) (fun r_2 σ_1 h => ?_)
  refine wr_istore (pc := 69) (lv' := [(7, .int r_2), (6, .int y0), (0, .ref (G.1 a0)), (1, .int x1), (2, .int x2), (3, .int x3), (4, .int x4), (5, .int x5)]) (dget kX0_goOn 39 rfl) (by decide) rfl ?_
  refine wr_aload_n (pc := 71) (dget kX0_goOn 40 rfl) 2 rfl ?_
  obtain ⟨q_3, h⟩ := h
  refine wr_getR (pc := 72) fl_X0_9 q_3 fk_0_2 (dget kX0_goOn 41 rfl) ?_
  refine wr_iload_n (pc := 75) (dget kX0_goOn 42 rfl) 3 rfl ?_
  refine wr_iconst (pc := 76) (dget kX0_goOn 43 rfl) ic_3 ?_
  refine wr_imul (pc := 77) (dget kX0_goOn 44 rfl) ?_
  refine wr_iload (pc := 78) (dget kX0_goOn 45 rfl) 6 rfl ?_
  refine wr_iadd (pc := 80) (dget kX0_goOn 46 rfl) ?_
  refine wr_iload (pc := 81) (dget kX0_goOn 47 rfl) 0 rfl ?_
  obtain ⟨q_4, h⟩ := h
  refine wr_iastl (pc := 83) rfl q_4 (dget kX0_goOn 48 rfl) ?_
  refine wr_tops (fun σ_5 e_σ_5 => ?_)
  have h := h σ_5 e_σ_5
  refine wr_iload_n (pc := 84) (dget kX0_goOn 49 rfl) 5 rfl ?_
  refine wr_aload_n (pc := 85) (dget kX0_goOn 50 rfl) 2 rfl ?_
  refine wr_getRl (pc := 86) fl_X0_21 q_3 fk_0_0 (rtu_0_0 q_3) (dget kX0_goOn 51 rfl) ?_
  refine wr_getRl (pc := 89) fl_X0_55 kd_2 fk_6_7 rt_2_7 (dget kX0_goOn 52 rfl) ?_
  refine wr_iload (pc := 92) (dget kX0_goOn 53 rfl) 6 rfl ?_
  refine wr_bipush (pc := 94) (dget kX0_goOn 54 rfl) bp_12 ?_
  refine wr_imul (pc := 96) (dget kX0_goOn 55 rfl) ?_
  refine wr_iload (pc := 97) (dget kX0_goOn 56 rfl) 0 rfl ?_
  refine wr_iadd (pc := 99) (dget kX0_goOn 57 rfl) ?_
  obtain ⟨q_6, h⟩ := h
  refine wr_ialdl (pc := 100) (σ := σ_5) il_9 q_6 (dget kX0_goOn 58 rfl) ?_
  refine wr_ior (pc := 101) (dget kX0_goOn 59 rfl) ?_
  refine wr_topi (fun x3_7 e_x3_7 => ?_)
  have h := h x3_7 e_x3_7
  refine wr_istore_n (pc := 102) (lv' := [(3, .int x3_7), (7, .int r_2), (6, .int y0), (0, .ref (G.1 a0)), (1, .int x1), (2, .int x2), (4, .int x4), (5, .int x5)]) (dget kX0_goOn 60 rfl) (by decide) rfl ?_
  obtain ⟨x4_8, e_x4_8⟩ : ∃ y : Int32, y = x4 + (1 : Int32) := ⟨_, rfl⟩
  have h := h x4_8 e_x4_8
  refine wr_iinc (pc := 103) (v := x4_8) (lv' := [(4, .int x4_8), (3, .int x3_7), (7, .int r_2), (6, .int y0), (0, .ref (G.1 a0)), (1, .int x1), (2, .int x2), (5, .int x5)]) (dget kX0_goOn 61 rfl) 6 rfl (by rw [e_x4_8, ic_1]) (by decide) rfl ?_
  refine wr_goto (pc := 106) (tgt := 5) (dget kX0_goOn 62 rfl) (by decide) ?_
  refine wr_sub [4, 5, 6, 1, 0] rfl ?_
  exact hrc _ _ _ h
def vX0_goOn_32 (post : Int32 → Hp → Prop) (ex : Int32 → Hp → Prop) (rc : Int32 → Int32 → Hp → Prop) (a0 : Nat) (x1 : Int32) (x2 : Int32) (x3 : Int32) (x4 : Int32) (y0 : Int32) (σ : Hp) : Prop := (vX8_isSet x2 x4 σ (fun r_2 σ_1 => ((r_2 = 0 → (kd a0 = 0 ∧ (vp_in x4 3 ∧ vX0_goOn_57 post ex rc a0 x1 x2 x3 x4 y0 (σ_1.1 3 x4.toNatClampNeg) σ_1))) ∧ (¬ r_2 = 0 → vX0_goOn_57 post ex rc a0 x1 x2 x3 x4 y0 (0 : Int32) σ_1))))
set_option maxHeartbeats 4000000 in
set_option maxRecDepth 100000 in
theorem tX0_goOn_32 {G : GT} {post : Int32 → Hp → Prop} {ex : Int32 → Hp → Prop} {rc : Int32 → Int32 → Hp → Prop} {a0 : Nat} {x1 : Int32} {x2 : Int32} {x3 : Int32} {x4 : Int32} {y0 : Int32} {σ : Hp} (hex : ∀ (z3 : Int32) (τ : Hp), ex z3 τ → WP G mX0_goOn 109 [(3, .int z3)] [] τ (LI post)) (hrc : ∀ (z3 : Int32) (z4 : Int32) (τ : Hp), rc z3 z4 τ → WP G mX0_goOn 5 [(0, .ref (G.1 a0)), (1, .int x1), (2, .int x2), (3, .int z3), (4, .int z4)] [] τ (LI post)) (h : vX0_goOn_32 post ex rc a0 x1 x2 x3 x4 y0 σ) : WP G mX0_goOn 32 [(0, .ref (G.1 a0)), (1, .int x1), (2, .int x2), (3, .int x3), (4, .int x4)] [.int y0] σ (LI post) := by
  unfold vX0_goOn_32 at h
  refine wr_istore (pc := 32) (lv' := [(5, .int y0), (0, .ref (G.1 a0)), (1, .int x1), (2, .int x2), (3, .int x3), (4, .int x4)]) (dget kX0_goOn 21 rfl) (by decide) rfl ?_
  refine wr_iload_n (pc := 34) (dget kX0_goOn 22 rfl) 3 rfl ?_
  refine wr_iload (pc := 35) (dget kX0_goOn 23 rfl) 5 rfl ?_
  refine wr_callSi (pc := 37) (Mc := mX8_isSet) (rest := []) cf_X0_41 cs_X8_isSet ⟨Nat.le_of_ble_eq_true rfl, Nat.le_of_ble_eq_true rfl⟩ rfl rfl (Nat.le_of_ble_eq_true rfl) (dget kX0_goOn 24 rfl) (tX8_isSet h) (fun r_2 σ_1 h => ?_)
  refine wr_if_eq (pc := 40) (tgt := 47) (dget kX0_goOn 25 rfl) (by decide) (fun c_3 => ?_) (fun c_3 => ?_)
  · have h := h.1 c_3
    refine wr_aload_n (pc := 47) (dget kX0_goOn 28 rfl) 1 rfl ?_
    obtain ⟨q_4, h⟩ := h
    refine wr_getRl (pc := 48) fl_X0_21 q_4 fk_0_0 (rtu_0_0 q_4) (dget kX0_goOn 29 rfl) ?_
    refine wr_getRl (pc := 51) fl_X0_45 kd_2 fk_6_0 rt_2_0 (dget kX0_goOn 30 rfl) ?_
    refine wr_iload (pc := 54) (dget kX0_goOn 31 rfl) 5 rfl ?_
    obtain ⟨q_5, h⟩ := h
    refine wr_ialdl (pc := 56) (σ := σ_1) il_3 q_5 (dget kX0_goOn 32 rfl) ?_
    refine wr_sub [1, 2, 3, 4, 5, 0] rfl ?_
    exact tX0_goOn_57 hex hrc h
  · have h := h.2 c_3
    refine wr_iconst (pc := 43) (dget kX0_goOn 26 rfl) ic_0 ?_
    refine wr_goto (pc := 44) (tgt := 57) (dget kX0_goOn 27 rfl) (by decide) ?_
    refine wr_sub [1, 2, 3, 4, 5, 0] rfl ?_
    exact tX0_goOn_57 hex hrc h
def vX0_goOn_5 (post : Int32 → Hp → Prop) (ex : Int32 → Hp → Prop) (a0 : Nat) (x1 : Int32) (x2 : Int32) : Nat → Int32 → Int32 → Hp → Prop
  | 0 => fun _ _ _ => False
  | n + 1 => fun x3 x4 σ => (((3 : Int32) ≤ x4 → (ex x3 σ)) ∧ (¬ (3 : Int32) ≤ x4 → ((x1 = 0 → vX0_goOn_32 post ex (vX0_goOn_5 post ex a0 x1 x2 n) a0 x1 x2 x3 x4 (0 : Int32) σ) ∧ (¬ x1 = 0 → (kd a0 = 0 ∧ (vp_in (((x1 - (1 : Int32)) * (3 : Int32)) + x4) (iln (rt a0 2)) ∧ vX0_goOn_32 post ex (vX0_goOn_5 post ex a0 x1 x2 n) a0 x1 x2 x3 x4 (σ.1 (rt a0 2) ((((x1 - (1 : Int32)) * (3 : Int32)) + x4)).toNatClampNeg) σ))))))
set_option maxHeartbeats 4000000 in
set_option maxRecDepth 100000 in
theorem tX0_goOn_5 {G : GT} {post : Int32 → Hp → Prop} {ex : Int32 → Hp → Prop} {a0 : Nat} {x1 : Int32} {x2 : Int32} (hex : ∀ (z3 : Int32) (τ : Hp), ex z3 τ → WP G mX0_goOn 109 [(3, .int z3)] [] τ (LI post)) : ∀ (n : Nat) (x3 : Int32) (x4 : Int32) (σ : Hp), vX0_goOn_5 post ex a0 x1 x2 n x3 x4 σ → WP G mX0_goOn 5 [(0, .ref (G.1 a0)), (1, .int x1), (2, .int x2), (3, .int x3), (4, .int x4)] [] σ (LI post) := by
  intro n
  induction n with
  | zero => intro x3 x4 σ h; exact False.elim h
  | succ n ih =>
    intro x3 x4 σ h
    simp only [vX0_goOn_5] at h
    refine wr_iload (pc := 5) (dget kX0_goOn 4 rfl) 4 rfl ?_
    refine wr_iconst (pc := 7) (dget kX0_goOn 5 rfl) ic_3 ?_
    refine wr_icmp_ge (pc := 8) (tgt := 109) (dget kX0_goOn 6 rfl) (by decide) (fun c_1 => ?_) (fun c_1 => ?_)
    · have h := h.1 c_1
      refine wr_sub [3] rfl ?_
      exact hex _ _ h
    · have h := h.2 c_1
      refine wr_iload_n (pc := 11) (dget kX0_goOn 7 rfl) 1 rfl ?_
      refine wr_if_ne (pc := 12) (tgt := 19) (dget kX0_goOn 8 rfl) (by decide) (fun c_2 => ?_) (fun c_2 => ?_)
      · have h := h.2 c_2
        refine wr_aload_n (pc := 19) (dget kX0_goOn 11 rfl) 0 rfl ?_
        obtain ⟨q_3, h⟩ := h
        refine wr_getR (pc := 20) fl_X0_9 q_3 fk_0_2 (dget kX0_goOn 12 rfl) ?_
        refine wr_iload_n (pc := 23) (dget kX0_goOn 13 rfl) 1 rfl ?_
        refine wr_iconst (pc := 24) (dget kX0_goOn 14 rfl) ic_1 ?_
        refine wr_isub (pc := 25) (dget kX0_goOn 15 rfl) ?_
        refine wr_iconst (pc := 26) (dget kX0_goOn 16 rfl) ic_3 ?_
        refine wr_imul (pc := 27) (dget kX0_goOn 17 rfl) ?_
        refine wr_iload (pc := 28) (dget kX0_goOn 18 rfl) 4 rfl ?_
        refine wr_iadd (pc := 30) (dget kX0_goOn 19 rfl) ?_
        obtain ⟨q_4, h⟩ := h
        refine wr_ialdl (pc := 31) (σ := σ) rfl q_4 (dget kX0_goOn 20 rfl) ?_
        exact tX0_goOn_32 hex ih h
      · have h := h.1 c_2
        refine wr_iconst (pc := 15) (dget kX0_goOn 9 rfl) ic_0 ?_
        refine wr_goto (pc := 16) (tgt := 32) (dget kX0_goOn 10 rfl) (by decide) ?_
        exact tX0_goOn_32 hex ih h
def vX0_goOn (o : Nat) (p1 : Int32) (p2 : Int32) (σ : Hp) (post : Int32 → Hp → Prop) : Prop := (∃ fu : Nat, vX0_goOn_5 post (fun z3_1 σ_2 => post z3_1 σ_2) o p1 p2 fu (0 : Int32) (0 : Int32) σ)
set_option maxHeartbeats 4000000 in
set_option maxRecDepth 100000 in
theorem tX0_goOn {G : GT} {o : Nat} {p1 : Int32} {p2 : Int32} {σ : Hp} {post : Int32 → Hp → Prop} (h : vX0_goOn o p1 p2 σ post) : CT G mX0_goOn [.ref (G.1 o), .int p1, .int p2] σ (LI post) := by
  refine CT.of (by decide +kernel) (Nat.le_of_ble_eq_true rfl) ?_
  show WP G mX0_goOn 0 [(0, .ref (G.1 o)), (1, .int p1), (2, .int p2)] [] σ (LI post)
  unfold vX0_goOn at h
  refine wr_iconst (pc := 0) (dget kX0_goOn 0 rfl) ic_0 ?_
  refine wr_istore_n (pc := 1) (lv' := [(3, .int (0 : Int32)), (0, .ref (G.1 o)), (1, .int p1), (2, .int p2)]) (dget kX0_goOn 1 rfl) (by decide) rfl ?_
  refine wr_iconst (pc := 2) (dget kX0_goOn 2 rfl) ic_0 ?_
  refine wr_istore (pc := 3) (lv' := [(4, .int (0 : Int32)), (3, .int (0 : Int32)), (0, .ref (G.1 o)), (1, .int p1), (2, .int p2)]) (dget kX0_goOn 3 rfl) (by decide) rfl ?_
  obtain ⟨fu, h⟩ := h
  refine wr_sub [2, 3, 4, 1, 0] rfl ?_
  refine tX0_goOn_5 (fun z3_1 σ_2 h => ?_) fu _ _ _ h
  refine wr_iload_n (pc := 109) (dget kX0_goOn 63 rfl) 0 rfl ?_
  exact wr_iret (pc := 110) rfl (dget kX0_goOn 64 rfl) ⟨_, rfl, h⟩
def vX0_go_66 (post : Hp → Prop) (ex : Hp → Prop) (rc : Int32 → Hp → Prop) (a0 : Nat) (x1 : Int32) (x2 : Int32) (x4 : Int32) (x5 : Int32) (x6 : Int32) (σ : Hp) : Prop := (kd a0 = 0 ∧ ((x6 = 0 → (vp_in x2 (iln (rt a0 4)) ∧ ∀ σ_4 : Hp, σ_4 = wI σ (rt a0 4) x2.toNatClampNeg (0 : Int32) → (vX0_goOn a0 x2 x4 σ_4 (fun r_6 σ_5 => (vp_in x2 (iln (rt a0 3)) ∧ ∀ σ_8 : Hp, σ_8 = wI σ_5 (rt a0 3) x2.toNatClampNeg (x5 ||| r_6) → (∀ x2_9 : Int32, x2_9 = x2 + (1 : Int32) → (rc x2_9 σ_8))))))) ∧ (¬ x6 = 0 → (vp_in x2 (iln (rt a0 4)) ∧ ∀ σ_11 : Hp, σ_11 = wI σ (rt a0 4) x2.toNatClampNeg (1 : Int32) → (vX0_goOn a0 x2 x4 σ_11 (fun r_13 σ_12 => (vp_in x2 (iln (rt a0 3)) ∧ ∀ σ_15 : Hp, σ_15 = wI σ_12 (rt a0 3) x2.toNatClampNeg (x5 ||| r_13) → (∀ x2_16 : Int32, x2_16 = x2 + (1 : Int32) → (rc x2_16 σ_15)))))))))
set_option maxHeartbeats 4000000 in
set_option maxRecDepth 100000 in
theorem tX0_go_66 {G : GT} {post : Hp → Prop} {ex : Hp → Prop} {rc : Int32 → Hp → Prop} {a0 : Nat} {x1 : Int32} {x2 : Int32} {x4 : Int32} {x5 : Int32} {x6 : Int32} {σ : Hp} (hex : ∀  (τ : Hp), ex  τ → WP G mX0_go 104 [] [] τ (LV post)) (hrc : ∀ (z2 : Int32) (τ : Hp), rc z2 τ → WP G mX0_go 2 [(0, .ref (G.1 a0)), (1, .int x1), (2, .int z2)] [] τ (LV post)) (h : vX0_go_66 post ex rc a0 x1 x2 x4 x5 x6 σ) : WP G mX0_go 66 [(0, .ref (G.1 a0)), (1, .int x1), (2, .int x2), (4, .int x4), (5, .int x5), (6, .int x6)] [] σ (LV post) := by
  unfold vX0_go_66 at h
  refine wr_aload_n (pc := 66) (dget kX0_go 39 rfl) 0 rfl ?_
  obtain ⟨q_1, h⟩ := h
  refine wr_getR (pc := 67) fl_X0_18 q_1 fk_0_4 (dget kX0_go 40 rfl) ?_
  refine wr_iload_n (pc := 70) (dget kX0_go 41 rfl) 2 rfl ?_
  refine wr_iload (pc := 71) (dget kX0_go 42 rfl) 5 rfl ?_
  refine wr_if_eq (pc := 73) (tgt := 80) (dget kX0_go 43 rfl) (by decide) (fun c_2 => ?_) (fun c_2 => ?_)
  · have h := h.1 c_2
    refine wr_iconst (pc := 80) (dget kX0_go 46 rfl) ic_0 ?_
    obtain ⟨q_3, h⟩ := h
    refine wr_iastl (pc := 81) rfl q_3 (dget kX0_go 47 rfl) ?_
    refine wr_tops (fun σ_4 e_σ_4 => ?_)
    have h := h σ_4 e_σ_4
    refine wr_aload_n (pc := 82) (dget kX0_go 48 rfl) 0 rfl ?_
    refine wr_getR (pc := 83) fl_X0_15 q_1 fk_0_3 (dget kX0_go 49 rfl) ?_
    refine wr_iload_n (pc := 86) (dget kX0_go 50 rfl) 2 rfl ?_
    refine wr_iload (pc := 87) (dget kX0_go 51 rfl) 4 rfl ?_
    refine wr_aload_n (pc := 89) (dget kX0_go 52 rfl) 0 rfl ?_
    refine wr_iload_n (pc := 90) (dget kX0_go 53 rfl) 2 rfl ?_
    refine wr_iload (pc := 91) (dget kX0_go 54 rfl) 3 rfl ?_
    refine wr_callVi (pc := 93) (Mc := mX0_goOn) (o := a0) (rest := [.int x5, .int x2, .ref (G.1 (rt a0 3))]) cf_X0_38 cv_X0_goOn q_1 rfl ⟨Nat.le_of_ble_eq_true rfl, Nat.le_of_ble_eq_true rfl⟩ rfl rfl (Nat.le_of_ble_eq_true rfl) (dget kX0_go 55 rfl) (tX0_goOn h) (fun r_6 σ_5 h => ?_)
    refine wr_ior (pc := 96) (dget kX0_go 56 rfl) ?_
    obtain ⟨q_7, h⟩ := h
    refine wr_iastl (pc := 97) rfl q_7 (dget kX0_go 57 rfl) ?_
    refine wr_tops (fun σ_8 e_σ_8 => ?_)
    have h := h σ_8 e_σ_8
    obtain ⟨x2_9, e_x2_9⟩ : ∃ y : Int32, y = x2 + (1 : Int32) := ⟨_, rfl⟩
    have h := h x2_9 e_x2_9
    refine wr_iinc (pc := 98) (v := x2_9) (lv' := [(2, .int x2_9), (0, .ref (G.1 a0)), (1, .int x1), (4, .int x4), (5, .int x5), (6, .int x6)]) (dget kX0_go 58 rfl) 2 rfl (by rw [e_x2_9, ic_1]) (by decide) rfl ?_
    refine wr_goto (pc := 101) (tgt := 2) (dget kX0_go 59 rfl) (by decide) ?_
    refine wr_sub [1, 2, 0] rfl ?_
    exact hrc _ _ h
  · have h := h.2 c_2
    refine wr_iconst (pc := 76) (dget kX0_go 44 rfl) ic_1 ?_
    refine wr_goto (pc := 77) (tgt := 81) (dget kX0_go 45 rfl) (by decide) ?_
    obtain ⟨q_10, h⟩ := h
    refine wr_iastl (pc := 81) rfl q_10 (dget kX0_go 47 rfl) ?_
    refine wr_tops (fun σ_11 e_σ_11 => ?_)
    have h := h σ_11 e_σ_11
    refine wr_aload_n (pc := 82) (dget kX0_go 48 rfl) 0 rfl ?_
    refine wr_getR (pc := 83) fl_X0_15 q_1 fk_0_3 (dget kX0_go 49 rfl) ?_
    refine wr_iload_n (pc := 86) (dget kX0_go 50 rfl) 2 rfl ?_
    refine wr_iload (pc := 87) (dget kX0_go 51 rfl) 4 rfl ?_
    refine wr_aload_n (pc := 89) (dget kX0_go 52 rfl) 0 rfl ?_
    refine wr_iload_n (pc := 90) (dget kX0_go 53 rfl) 2 rfl ?_
    refine wr_iload (pc := 91) (dget kX0_go 54 rfl) 3 rfl ?_
    refine wr_callVi (pc := 93) (Mc := mX0_goOn) (o := a0) (rest := [.int x5, .int x2, .ref (G.1 (rt a0 3))]) cf_X0_38 cv_X0_goOn q_1 rfl ⟨Nat.le_of_ble_eq_true rfl, Nat.le_of_ble_eq_true rfl⟩ rfl rfl (Nat.le_of_ble_eq_true rfl) (dget kX0_go 55 rfl) (tX0_goOn h) (fun r_13 σ_12 h => ?_)
    refine wr_ior (pc := 96) (dget kX0_go 56 rfl) ?_
    obtain ⟨q_14, h⟩ := h
    refine wr_iastl (pc := 97) rfl q_14 (dget kX0_go 57 rfl) ?_
    refine wr_tops (fun σ_15 e_σ_15 => ?_)
    have h := h σ_15 e_σ_15
    obtain ⟨x2_16, e_x2_16⟩ : ∃ y : Int32, y = x2 + (1 : Int32) := ⟨_, rfl⟩
    have h := h x2_16 e_x2_16
    refine wr_iinc (pc := 98) (v := x2_16) (lv' := [(2, .int x2_16), (0, .ref (G.1 a0)), (1, .int x1), (4, .int x4), (5, .int x5), (6, .int x6)]) (dget kX0_go 58 rfl) 2 rfl (by rw [e_x2_16, ic_1]) (by decide) rfl ?_
    refine wr_goto (pc := 101) (tgt := 2) (dget kX0_go 59 rfl) (by decide) ?_
    refine wr_sub [1, 2, 0] rfl ?_
    exact hrc _ _ h
def vX0_go_2 (post : Hp → Prop) (ex : Hp → Prop) (a0 : Nat) (x1 : Int32) : Nat → Int32 → Hp → Prop
  | 0 => fun _ _ => False
  | n + 1 => fun x2 σ => (((24 : Int32) ≤ x2 → (ex σ)) ∧ (¬ (24 : Int32) ≤ x2 → (kd a0 = 0 ∧ (vp_in x2 24 ∧ (∀ x3_4 : Int32, x3_4 = ((σ.1 14 x2.toNatClampNeg) &&& x1) → ((x3_4 = 0 → vX0_go_66 post ex (vX0_go_2 post ex a0 x1 n) a0 x1 x2 (0 : Int32) (0 : Int32) (0 : Int32) σ) ∧ (¬ x3_4 = 0 → (vX1_numbers x3_4 (0 : Int32) σ (fun r_7 σ_6 => (vX1_numbers x3_4 (2 : Int32) σ_6 (fun r_9 σ_8 => (vX1_numbers x3_4 (1 : Int32) σ_8 (fun r_11 σ_10 => vX0_go_66 post ex (vX0_go_2 post ex a0 x1 n) a0 x1 x2 r_7 r_9 r_11 σ_10)))))))))))))
set_option maxHeartbeats 4000000 in
set_option maxRecDepth 100000 in
theorem tX0_go_2 {G : GT} {post : Hp → Prop} {ex : Hp → Prop} {a0 : Nat} {x1 : Int32} (hex : ∀  (τ : Hp), ex  τ → WP G mX0_go 104 [] [] τ (LV post)) : ∀ (n : Nat) (x2 : Int32) (σ : Hp), vX0_go_2 post ex a0 x1 n x2 σ → WP G mX0_go 2 [(0, .ref (G.1 a0)), (1, .int x1), (2, .int x2)] [] σ (LV post) := by
  intro n
  induction n with
  | zero => intro x2 σ h; exact False.elim h
  | succ n ih =>
    intro x2 σ h
    simp only [vX0_go_2] at h
    refine wr_iload_n (pc := 2) (dget kX0_go 2 rfl) 2 rfl ?_
    refine wr_bipush (pc := 3) (dget kX0_go 3 rfl) bp_24 ?_
    refine wr_icmp_ge (pc := 5) (tgt := 104) (dget kX0_go 4 rfl) (by decide) (fun c_1 => ?_) (fun c_1 => ?_)
    · have h := h.1 c_1
      refine wr_sub [] rfl ?_
      exact hex  _ h
    · have h := h.2 c_1
      refine wr_aload_n (pc := 8) (dget kX0_go 5 rfl) 0 rfl ?_
      obtain ⟨q_2, h⟩ := h
      refine wr_getRl (pc := 9) fl_X0_25 q_2 fk_0_1 (rtu_0_1 q_2) (dget kX0_go 6 rfl) ?_
      refine wr_getRl (pc := 12) fl_X0_29 kd_10 fk_1_3 rt_10_3 (dget kX0_go 7 rfl) ?_
      refine wr_iload_n (pc := 15) (dget kX0_go 8 rfl) 2 rfl ?_
      obtain ⟨q_3, h⟩ := h
      refine wr_ialdl (pc := 16) (σ := σ) il_14 q_3 (dget kX0_go 9 rfl) ?_
      refine wr_iload_n (pc := 17) (dget kX0_go 10 rfl) 1 rfl ?_
      refine wr_iand (pc := 18) (dget kX0_go 11 rfl) ?_
      refine wr_topi (fun x3_4 e_x3_4 => ?_)
      have h := h x3_4 e_x3_4
      refine wr_istore_n (pc := 19) (lv' := [(3, .int x3_4), (0, .ref (G.1 a0)), (1, .int x1), (2, .int x2)]) (dget kX0_go 12 rfl) (by decide) rfl ?_
      refine wr_iconst (pc := 20) (dget kX0_go 13 rfl) ic_0 ?_
      refine wr_istore (pc := 21) (lv' := [(4, .int (0 : Int32)), (3, .int x3_4), (0, .ref (G.1 a0)), (1, .int x1), (2, .int x2)]) (dget kX0_go 14 rfl) (by decide) rfl ?_
      refine wr_iconst (pc := 23) (dget kX0_go 15 rfl) ic_0 ?_
      refine wr_istore (pc := 24) (lv' := [(5, .int (0 : Int32)), (4, .int (0 : Int32)), (3, .int x3_4), (0, .ref (G.1 a0)), (1, .int x1), (2, .int x2)]) (dget kX0_go 16 rfl) (by decide) rfl ?_
      refine wr_iconst (pc := 26) (dget kX0_go 17 rfl) ic_0 ?_
      refine wr_istore (pc := 27) (lv' := [(6, .int (0 : Int32)), (5, .int (0 : Int32)), (4, .int (0 : Int32)), (3, .int x3_4), (0, .ref (G.1 a0)), (1, .int x1), (2, .int x2)]) (dget kX0_go 18 rfl) (by decide) rfl ?_
      refine wr_iload_n (pc := 29) (dget kX0_go 19 rfl) 3 rfl ?_
      refine wr_if_eq (pc := 30) (tgt := 66) (dget kX0_go 20 rfl) (by decide) (fun c_5 => ?_) (fun c_5 => ?_)
      · have h := h.1 c_5
        refine wr_sub [4, 5, 6, 2, 1, 0] rfl ?_
        exact tX0_go_66 hex ih h
      · have h := h.2 c_5
        refine wr_aload_n (pc := 33) (dget kX0_go 21 rfl) 4 rfl ?_
        refine wr_getRl (pc := 34) fl_X0_25 q_2 fk_0_1 (rtu_0_1 q_2) (dget kX0_go 22 rfl) ?_
        refine wr_iload_n (pc := 37) (dget kX0_go 23 rfl) 3 rfl ?_
        refine wr_iconst (pc := 38) (dget kX0_go 24 rfl) ic_0 ?_
        refine wr_callVi (pc := 39) (Mc := mX1_numbers) (o := 10) (rest := []) cf_X0_34 cv_X1_numbers kd_10 rfl ⟨Nat.le_of_ble_eq_true rfl, Nat.le_of_ble_eq_true rfl⟩ rfl rfl (Nat.le_of_ble_eq_true rfl) (dget kX0_go 25 rfl) (tX1_numbers h) (fun r_7 σ_6 h => ?_)
        refine wr_istore (pc := 42) (lv' := [(4, .int r_7), (6, .int (0 : Int32)), (5, .int (0 : Int32)), (3, .int x3_4), (0, .ref (G.1 a0)), (1, .int x1), (2, .int x2)]) (dget kX0_go 26 rfl) (by decide) rfl ?_
        refine wr_aload_n (pc := 44) (dget kX0_go 27 rfl) 4 rfl ?_
        refine wr_getRl (pc := 45) fl_X0_25 q_2 fk_0_1 (rtu_0_1 q_2) (dget kX0_go 28 rfl) ?_
        refine wr_iload_n (pc := 48) (dget kX0_go 29 rfl) 3 rfl ?_
        refine wr_iconst (pc := 49) (dget kX0_go 30 rfl) ic_2 ?_
        refine wr_callVi (pc := 50) (Mc := mX1_numbers) (o := 10) (rest := []) cf_X0_34 cv_X1_numbers kd_10 rfl ⟨Nat.le_of_ble_eq_true rfl, Nat.le_of_ble_eq_true rfl⟩ rfl rfl (Nat.le_of_ble_eq_true rfl) (dget kX0_go 31 rfl) (tX1_numbers h) (fun r_9 σ_8 h => ?_)
        refine wr_istore (pc := 53) (lv' := [(5, .int r_9), (4, .int r_7), (6, .int (0 : Int32)), (3, .int x3_4), (0, .ref (G.1 a0)), (1, .int x1), (2, .int x2)]) (dget kX0_go 32 rfl) (by decide) rfl ?_
        refine wr_aload_n (pc := 55) (dget kX0_go 33 rfl) 4 rfl ?_
        refine wr_getRl (pc := 56) fl_X0_25 q_2 fk_0_1 (rtu_0_1 q_2) (dget kX0_go 34 rfl) ?_
        refine wr_iload_n (pc := 59) (dget kX0_go 35 rfl) 3 rfl ?_
        refine wr_iconst (pc := 60) (dget kX0_go 36 rfl) ic_1 ?_
        refine wr_callVi (pc := 61) (Mc := mX1_numbers) (o := 10) (rest := []) cf_X0_34 cv_X1_numbers kd_10 rfl ⟨Nat.le_of_ble_eq_true rfl, Nat.le_of_ble_eq_true rfl⟩ rfl rfl (Nat.le_of_ble_eq_true rfl) (dget kX0_go 37 rfl) (tX1_numbers h) (fun r_11 σ_10 h => ?_)
        refine wr_istore (pc := 64) (lv' := [(6, .int r_11), (5, .int r_9), (4, .int r_7), (3, .int x3_4), (0, .ref (G.1 a0)), (1, .int x1), (2, .int x2)]) (dget kX0_go 38 rfl) (by decide) rfl ?_
        refine wr_sub [4, 5, 6, 2, 1, 0] rfl ?_
        exact tX0_go_66 hex ih h
def vX0_go (o : Nat) (p1 : Int32) (σ : Hp) (post : Hp → Prop) : Prop := (∃ fu : Nat, vX0_go_2 post (fun σ_1 => post σ_1) o p1 fu (0 : Int32) σ)
set_option maxHeartbeats 4000000 in
set_option maxRecDepth 100000 in
theorem tX0_go {G : GT} {o : Nat} {p1 : Int32} {σ : Hp} {post : Hp → Prop} (h : vX0_go o p1 σ post) : CT G mX0_go [.ref (G.1 o), .int p1] σ (LV post) := by
  refine CT.of (by decide +kernel) (Nat.le_of_ble_eq_true rfl) ?_
  show WP G mX0_go 0 [(0, .ref (G.1 o)), (1, .int p1)] [] σ (LV post)
  unfold vX0_go at h
  refine wr_iconst (pc := 0) (dget kX0_go 0 rfl) ic_0 ?_
  refine wr_istore_n (pc := 1) (lv' := [(2, .int (0 : Int32)), (0, .ref (G.1 o)), (1, .int p1)]) (dget kX0_go 1 rfl) (by decide) rfl ?_
  obtain ⟨fu, h⟩ := h
  refine wr_sub [1, 2, 0] rfl ?_
  refine tX0_go_2 (fun σ_1 h => ?_) fu _ _ h
  exact wr_vret (pc := 104) rfl (dget kX0_go 60 rfl) ⟨rfl, h⟩
def vX0_placeBehind (o : Nat) (p1 : Int32) (p2 : Int32) (σ : Hp) (post : Int32 → Hp → Prop) : Prop := (kd o = 0 ∧ (vp_in p2 12 ∧ (vp_in p2 12 ∧ (vp_in ((p1 * (3 : Int32)) + (σ.1 4 p2.toNatClampNeg)) (iln (rt o 2)) ∧ post (((σ.1 5 p2.toNatClampNeg) + (σ.1 (rt o 2) (((p1 * (3 : Int32)) + (σ.1 4 p2.toNatClampNeg))).toNatClampNeg)) - ((σ.1 5 p2.toNatClampNeg) + (σ.1 (rt o 2) (((p1 * (3 : Int32)) + (σ.1 4 p2.toNatClampNeg))).toNatClampNeg)) / (12 : Int32) * (12 : Int32)) σ))))
set_option maxHeartbeats 4000000 in
set_option maxRecDepth 100000 in
theorem tX0_placeBehind {G : GT} {o : Nat} {p1 : Int32} {p2 : Int32} {σ : Hp} {post : Int32 → Hp → Prop} (h : vX0_placeBehind o p1 p2 σ post) : CT G mX0_placeBehind [.ref (G.1 o), .int p1, .int p2] σ (LI post) := by
  refine CT.of (by decide +kernel) (Nat.le_of_ble_eq_true rfl) ?_
  show WP G mX0_placeBehind 0 [(0, .ref (G.1 o)), (1, .int p1), (2, .int p2)] [] σ (LI post)
  unfold vX0_placeBehind at h
  refine wr_aload_n (pc := 0) (dget kX0_placeBehind 0 rfl) 0 rfl ?_
  obtain ⟨q_1, h⟩ := h
  refine wr_getRl (pc := 1) fl_X0_21 q_1 fk_0_0 (rtu_0_0 q_1) (dget kX0_placeBehind 1 rfl) ?_
  refine wr_getRl (pc := 4) fl_X0_58 kd_2 fk_6_2 rt_2_2 (dget kX0_placeBehind 2 rfl) ?_
  refine wr_iload_n (pc := 7) (dget kX0_placeBehind 3 rfl) 2 rfl ?_
  obtain ⟨q_2, h⟩ := h
  refine wr_ialdl (pc := 8) (σ := σ) il_5 q_2 (dget kX0_placeBehind 4 rfl) ?_
  refine wr_aload_n (pc := 9) (dget kX0_placeBehind 5 rfl) 0 rfl ?_
  refine wr_getR (pc := 10) fl_X0_9 q_1 fk_0_2 (dget kX0_placeBehind 6 rfl) ?_
  refine wr_iload_n (pc := 13) (dget kX0_placeBehind 7 rfl) 1 rfl ?_
  refine wr_iconst (pc := 14) (dget kX0_placeBehind 8 rfl) ic_3 ?_
  refine wr_imul (pc := 15) (dget kX0_placeBehind 9 rfl) ?_
  refine wr_aload_n (pc := 16) (dget kX0_placeBehind 10 rfl) 0 rfl ?_
  refine wr_getRl (pc := 17) fl_X0_21 q_1 fk_0_0 (rtu_0_0 q_1) (dget kX0_placeBehind 11 rfl) ?_
  refine wr_getRl (pc := 20) fl_X0_61 kd_2 fk_6_1 rt_2_1 (dget kX0_placeBehind 12 rfl) ?_
  refine wr_iload_n (pc := 23) (dget kX0_placeBehind 13 rfl) 2 rfl ?_
  obtain ⟨q_3, h⟩ := h
  refine wr_ialdl (pc := 24) (σ := σ) il_4 q_3 (dget kX0_placeBehind 14 rfl) ?_
  refine wr_iadd (pc := 25) (dget kX0_placeBehind 15 rfl) ?_
  obtain ⟨q_4, h⟩ := h
  refine wr_ialdl (pc := 26) (σ := σ) rfl q_4 (dget kX0_placeBehind 16 rfl) ?_
  refine wr_iadd (pc := 27) (dget kX0_placeBehind 17 rfl) ?_
  refine wr_bipush (pc := 28) (dget kX0_placeBehind 18 rfl) bp_12 ?_
  refine wr_irem (pc := 30) (dget kX0_placeBehind 19 rfl) (by decide) ?_
  exact wr_iret (pc := 31) rfl (dget kX0_placeBehind 20 rfl) ⟨_, rfl, h⟩
def vX0_duckAt (o : Nat) (p1 : Int32) (p2 : Int32) (p3 : Int32) (σ : Hp) (post : Int32 → Hp → Prop) : Prop := (kd o = 0 ∧ (vp_in ((p1 * (3 : Int32)) + p2) (iln (rt o 2)) ∧ (∀ x4_3 : Int32, x4_3 = (((p3 + (12 : Int32)) - (σ.1 (rt o 2) (((p1 * (3 : Int32)) + p2)).toNatClampNeg)) - ((p3 + (12 : Int32)) - (σ.1 (rt o 2) (((p1 * (3 : Int32)) + p2)).toNatClampNeg)) / (12 : Int32) * (12 : Int32)) → (vp_in ((p2 * (12 : Int32)) + x4_3) 36 ∧ post (σ.1 8 (((p2 * (12 : Int32)) + x4_3)).toNatClampNeg) σ))))
set_option maxHeartbeats 4000000 in
set_option maxRecDepth 100000 in
theorem tX0_duckAt {G : GT} {o : Nat} {p1 : Int32} {p2 : Int32} {p3 : Int32} {σ : Hp} {post : Int32 → Hp → Prop} (h : vX0_duckAt o p1 p2 p3 σ post) : CT G mX0_duckAt [.ref (G.1 o), .int p1, .int p2, .int p3] σ (LI post) := by
  refine CT.of (by decide +kernel) (Nat.le_of_ble_eq_true rfl) ?_
  show WP G mX0_duckAt 0 [(0, .ref (G.1 o)), (1, .int p1), (2, .int p2), (3, .int p3)] [] σ (LI post)
  unfold vX0_duckAt at h
  refine wr_iload_n (pc := 0) (dget kX0_duckAt 0 rfl) 3 rfl ?_
  refine wr_bipush (pc := 1) (dget kX0_duckAt 1 rfl) bp_12 ?_
  refine wr_iadd (pc := 3) (dget kX0_duckAt 2 rfl) ?_
  refine wr_aload_n (pc := 4) (dget kX0_duckAt 3 rfl) 0 rfl ?_
  obtain ⟨q_1, h⟩ := h
  refine wr_getR (pc := 5) fl_X0_9 q_1 fk_0_2 (dget kX0_duckAt 4 rfl) ?_
  refine wr_iload_n (pc := 8) (dget kX0_duckAt 5 rfl) 1 rfl ?_
  refine wr_iconst (pc := 9) (dget kX0_duckAt 6 rfl) ic_3 ?_
  refine wr_imul (pc := 10) (dget kX0_duckAt 7 rfl) ?_
  refine wr_iload_n (pc := 11) (dget kX0_duckAt 8 rfl) 2 rfl ?_
  refine wr_iadd (pc := 12) (dget kX0_duckAt 9 rfl) ?_
  obtain ⟨q_2, h⟩ := h
  refine wr_ialdl (pc := 13) (σ := σ) rfl q_2 (dget kX0_duckAt 10 rfl) ?_
  refine wr_isub (pc := 14) (dget kX0_duckAt 11 rfl) ?_
  refine wr_bipush (pc := 15) (dget kX0_duckAt 12 rfl) bp_12 ?_
  refine wr_irem (pc := 17) (dget kX0_duckAt 13 rfl) (by decide) ?_
  refine wr_topi (fun x4_3 e_x4_3 => ?_)
  have h := h x4_3 e_x4_3
  refine wr_istore (pc := 18) (lv' := [(4, .int x4_3), (0, .ref (G.1 o)), (1, .int p1), (2, .int p2), (3, .int p3)]) (dget kX0_duckAt 14 rfl) (by decide) rfl ?_
  refine wr_aload_n (pc := 20) (dget kX0_duckAt 15 rfl) 1 rfl ?_
  refine wr_getRl (pc := 21) fl_X0_21 q_1 fk_0_0 (rtu_0_0 q_1) (dget kX0_duckAt 16 rfl) ?_
  refine wr_getRl (pc := 24) fl_X0_64 kd_2 fk_6_6 rt_2_6 (dget kX0_duckAt 17 rfl) ?_
  refine wr_iload_n (pc := 27) (dget kX0_duckAt 18 rfl) 3 rfl ?_
  refine wr_bipush (pc := 28) (dget kX0_duckAt 19 rfl) bp_12 ?_
  refine wr_imul (pc := 30) (dget kX0_duckAt 20 rfl) ?_
  refine wr_iload (pc := 31) (dget kX0_duckAt 21 rfl) 0 rfl ?_
  refine wr_iadd (pc := 33) (dget kX0_duckAt 22 rfl) ?_
  obtain ⟨q_4, h⟩ := h
  refine wr_ialdl (pc := 34) (σ := σ) il_8 q_4 (dget kX0_duckAt 23 rfl) ?_
  exact wr_iret (pc := 35) rfl (dget kX0_duckAt 24 rfl) ⟨_, rfl, h⟩
