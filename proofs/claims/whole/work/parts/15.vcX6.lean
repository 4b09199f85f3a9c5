def vX6_noteHidden_2 (post : Hp → Prop) (ex : Hp → Prop) (x1 : Int32) : Nat → Int32 → Hp → Prop
  | 0 => fun _ _ => False
  | n + 1 => fun x2 σ => (((12 : Int32) ≤ x2 → (ex σ)) ∧ (¬ (12 : Int32) ≤ x2 → (vp_in x1 12 ∧ (((((σ.1 5 x1.toNatClampNeg) + x2) - ((σ.1 5 x1.toNatClampNeg) + x2) / (12 : Int32) * (12 : Int32)) < (6 : Int32) → (∀ x2_4 : Int32, x2_4 = x2 + (1 : Int32) → vX6_noteHidden_2 post ex x1 n x2_4 σ)) ∧ (¬ (((σ.1 5 x1.toNatClampNeg) + x2) - ((σ.1 5 x1.toNatClampNeg) + x2) / (12 : Int32) * (12 : Int32)) < (6 : Int32) → (vp_in x1 12 ∧ (vp_in (((σ.1 4 x1.toNatClampNeg) * (12 : Int32)) + x2) 36 ∧ (vp_in (((σ.1 4 x1.toNatClampNeg) * (12 : Int32)) + x2) 36 ∧ ∀ σ_8 : Hp, σ_8 = wI σ 9 ((((σ.1 4 x1.toNatClampNeg) * (12 : Int32)) + x2)).toNatClampNeg ((σ.1 9 ((((σ.1 4 x1.toNatClampNeg) * (12 : Int32)) + x2)).toNatClampNeg) ||| ((1 : Int32) <<< (x1 &&& 31))) → (∀ x2_9 : Int32, x2_9 = x2 + (1 : Int32) → vX6_noteHidden_2 post ex x1 n x2_9 σ_8)))))))))
set_option maxHeartbeats 4000000 in
set_option maxRecDepth 100000 in
theorem tX6_noteHidden_2 {G : GT} {post : Hp → Prop} {ex : Hp → Prop} {x1 : Int32} (hex : ∀  (τ : Hp), ex  τ → WP G mX6_noteHidden 52 [] [] τ (LV post)) : ∀ (n : Nat) (x2 : Int32) (σ : Hp), vX6_noteHidden_2 post ex x1 n x2 σ → WP G mX6_noteHidden 2 [(0, .ref (G.1 2)), (1, .int x1), (2, .int x2)] [] σ (LV post) := by
  intro n
  induction n with
  | zero => intro x2 σ h; exact False.elim h
  | succ n ih =>
    intro x2 σ h
    simp only [vX6_noteHidden_2] at h
    refine wr_iload_n (pc := 2) (dget kX6_noteHidden 2 rfl) 2 rfl ?_
    refine wr_bipush (pc := 3) (dget kX6_noteHidden 3 rfl) bp_12 ?_
    refine wr_icmp_ge (pc := 5) (tgt := 52) (dget kX6_noteHidden 4 rfl) (by decide) (fun c_1 => ?_) (fun c_1 => ?_)
    · have h := h.1 c_1
      refine wr_sub [] rfl ?_
      exact hex  _ h
    · have h := h.2 c_1
      refine wr_aload_n (pc := 8) (dget kX6_noteHidden 5 rfl) 0 rfl ?_
      refine wr_getRl (pc := 9) fl_X6_18 kd_2 fk_6_2 rt_2_2 (dget kX6_noteHidden 6 rfl) ?_
      refine wr_iload_n (pc := 12) (dget kX6_noteHidden 7 rfl) 1 rfl ?_
      obtain ⟨q_2, h⟩ := h
      refine wr_ialdl (pc := 13) (σ := σ) il_5 q_2 (dget kX6_noteHidden 8 rfl) ?_
      refine wr_iload_n (pc := 14) (dget kX6_noteHidden 9 rfl) 2 rfl ?_
      refine wr_iadd (pc := 15) (dget kX6_noteHidden 10 rfl) ?_
      refine wr_bipush (pc := 16) (dget kX6_noteHidden 11 rfl) bp_12 ?_
      refine wr_irem (pc := 18) (dget kX6_noteHidden 12 rfl) (by decide) ?_
      refine wr_bipush (pc := 19) (dget kX6_noteHidden 13 rfl) bp_6 ?_
      refine wr_icmp_lt (pc := 21) (tgt := 46) (dget kX6_noteHidden 14 rfl) (by decide) (fun c_3 => ?_) (fun c_3 => ?_)
      · have h := h.1 c_3
        obtain ⟨x2_4, e_x2_4⟩ : ∃ y : Int32, y = x2 + (1 : Int32) := ⟨_, rfl⟩
        have h := h x2_4 e_x2_4
        refine wr_iinc (pc := 46) (v := x2_4) (lv' := [(2, .int x2_4), (0, .ref (G.1 2)), (1, .int x1)]) (dget kX6_noteHidden 32 rfl) 2 rfl (by rw [e_x2_4, ic_1]) (by decide) rfl ?_
        refine wr_goto (pc := 49) (tgt := 2) (dget kX6_noteHidden 33 rfl) (by decide) ?_
        refine wr_sub [1, 2, 0] rfl ?_
        exact ih _ _ h
      · have h := h.2 c_3
        refine wr_aload_n (pc := 24) (dget kX6_noteHidden 15 rfl) 0 rfl ?_
        refine wr_getRl (pc := 25) fl_X6_30 kd_2 fk_6_7 rt_2_7 (dget kX6_noteHidden 16 rfl) ?_
        refine wr_aload_n (pc := 28) (dget kX6_noteHidden 17 rfl) 0 rfl ?_
        refine wr_getRl (pc := 29) fl_X6_15 kd_2 fk_6_1 rt_2_1 (dget kX6_noteHidden 18 rfl) ?_
        refine wr_iload_n (pc := 32) (dget kX6_noteHidden 19 rfl) 1 rfl ?_
        obtain ⟨q_5, h⟩ := h
        refine wr_ialdl (pc := 33) (σ := σ) il_4 q_5 (dget kX6_noteHidden 20 rfl) ?_
        refine wr_bipush (pc := 34) (dget kX6_noteHidden 21 rfl) bp_12 ?_
        refine wr_imul (pc := 36) (dget kX6_noteHidden 22 rfl) ?_
        refine wr_iload_n (pc := 37) (dget kX6_noteHidden 23 rfl) 2 rfl ?_
        refine wr_iadd (pc := 38) (dget kX6_noteHidden 24 rfl) ?_
        refine wr_dup2_11 (pc := 39) (dget kX6_noteHidden 25 rfl) rfl rfl ?_
        obtain ⟨q_6, h⟩ := h
        refine wr_ialdl (pc := 40) (σ := σ) il_9 q_6 (dget kX6_noteHidden 26 rfl) ?_
        refine wr_iconst (pc := 41) (dget kX6_noteHidden 27 rfl) ic_1 ?_
        refine wr_iload_n (pc := 42) (dget kX6_noteHidden 28 rfl) 1 rfl ?_
        refine wr_ishl (pc := 43) (dget kX6_noteHidden 29 rfl) ?_
        refine wr_ior (pc := 44) (dget kX6_noteHidden 30 rfl) ?_
        obtain ⟨q_7, h⟩ := h
        refine wr_iastl (pc := 45) il_9 q_7 (dget kX6_noteHidden 31 rfl) ?_
        refine wr_tops (fun σ_8 e_σ_8 => ?_)
        have h := h σ_8 e_σ_8
        obtain ⟨x2_9, e_x2_9⟩ : ∃ y : Int32, y = x2 + (1 : Int32) := ⟨_, rfl⟩
        have h := h x2_9 e_x2_9
        refine wr_iinc (pc := 46) (v := x2_9) (lv' := [(2, .int x2_9), (0, .ref (G.1 2)), (1, .int x1)]) (dget kX6_noteHidden 32 rfl) 2 rfl (by rw [e_x2_9, ic_1]) (by decide) rfl ?_
        refine wr_goto (pc := 49) (tgt := 2) (dget kX6_noteHidden 33 rfl) (by decide) ?_
        refine wr_sub [1, 2, 0] rfl ?_
        exact ih _ _ h
def vX6_noteHidden (p1 : Int32) (σ : Hp) (post : Hp → Prop) : Prop := (∃ fu : Nat, vX6_noteHidden_2 post (fun σ_1 => post σ_1) p1 fu (0 : Int32) σ)
set_option maxHeartbeats 4000000 in
set_option maxRecDepth 100000 in
theorem tX6_noteHidden {G : GT} {p1 : Int32} {σ : Hp} {post : Hp → Prop} (h : vX6_noteHidden p1 σ post) : CT G mX6_noteHidden [.ref (G.1 2), .int p1] σ (LV post) := by
  refine CT.of (by decide +kernel) (Nat.le_of_ble_eq_true rfl) ?_
  show WP G mX6_noteHidden 0 [(0, .ref (G.1 2)), (1, .int p1)] [] σ (LV post)
  unfold vX6_noteHidden at h
  refine wr_iconst (pc := 0) (dget kX6_noteHidden 0 rfl) ic_0 ?_
  refine wr_istore_n (pc := 1) (lv' := [(2, .int (0 : Int32)), (0, .ref (G.1 2)), (1, .int p1)]) (dget kX6_noteHidden 1 rfl) (by decide) rfl ?_
  obtain ⟨fu, h⟩ := h
  refine wr_sub [1, 2, 0] rfl ?_
  refine tX6_noteHidden_2 (fun σ_1 h => ?_) fu _ _ h
  exact wr_vret (pc := 52) rfl (dget kX6_noteHidden 34 rfl) ⟨rfl, h⟩
def vX6_speedTold (a1 : Nat) (p2 : Int32) (σ : Hp) (post : Int32 → Hp → Prop) : Prop := (kd a1 = 7 ∧ (vX7_value a1 p2 (1 : Int32) σ (fun r_3 σ_2 => (vX7_value a1 p2 (0 : Int32) σ_2 (fun r_5 σ_4 => ((r_5 = 0 → post r_3 σ_4) ∧ (¬ r_5 = 0 → post (-r_3) σ_4)))))))
set_option maxHeartbeats 4000000 in
set_option maxRecDepth 100000 in
theorem tX6_speedTold {G : GT} {a1 : Nat} {p2 : Int32} {σ : Hp} {post : Int32 → Hp → Prop} (h : vX6_speedTold a1 p2 σ post) : CT G mX6_speedTold [.ref (G.1 a1), .int p2] σ (LI post) := by
  refine CT.of (by decide +kernel) (Nat.le_of_ble_eq_true rfl) ?_
  show WP G mX6_speedTold 0 [(0, .ref (G.1 a1)), (1, .int p2)] [] σ (LI post)
  unfold vX6_speedTold at h
  refine wr_aload_n (pc := 0) (dget kX6_speedTold 0 rfl) 0 rfl ?_
  refine wr_iload_n (pc := 1) (dget kX6_speedTold 1 rfl) 1 rfl ?_
  refine wr_iconst (pc := 2) (dget kX6_speedTold 2 rfl) ic_1 ?_
  obtain ⟨q_1, h⟩ := h
  refine wr_callVi (pc := 3) (Mc := mX7_value) (o := a1) (rest := []) cf_X6_52 cv_X7_value q_1 rfl ⟨Nat.le_of_ble_eq_true rfl, Nat.le_of_ble_eq_true rfl⟩ rfl rfl (Nat.le_of_ble_eq_true rfl) (dget kX6_speedTold 3 rfl) (tX7_value h) (fun r_3 σ_2 h => ?_)
  refine wr_istore_n (pc := 6) (lv' := [(2, .int r_3), (0, .ref (G.1 a1)), (1, .int p2)]) (dget kX6_speedTold 4 rfl) (by decide) rfl ?_
  refine wr_aload_n (pc := 7) (dget kX6_speedTold 5 rfl) 1 rfl ?_
  refine wr_iload_n (pc := 8) (dget kX6_speedTold 6 rfl) 2 rfl ?_
  refine wr_iconst (pc := 9) (dget kX6_speedTold 7 rfl) ic_0 ?_
  refine wr_callVi (pc := 10) (Mc := mX7_value) (o := a1) (rest := []) cf_X6_52 cv_X7_value q_1 rfl ⟨Nat.le_of_ble_eq_true rfl, Nat.le_of_ble_eq_true rfl⟩ rfl rfl (Nat.le_of_ble_eq_true rfl) (dget kX6_speedTold 8 rfl) (tX7_value h) (fun r_5 σ_4 h => ?_)
  refine wr_if_ne (pc := 13) (tgt := 20) (dget kX6_speedTold 9 rfl) (by decide) (fun c_6 => ?_) (fun c_6 => ?_)
  · have h := h.2 c_6
    refine wr_iload_n (pc := 20) (dget kX6_speedTold 12 rfl) 0 rfl ?_
    refine wr_ineg (pc := 21) (dget kX6_speedTold 13 rfl) ?_
    exact wr_iret (pc := 22) rfl (dget kX6_speedTold 14 rfl) ⟨_, rfl, h⟩
  · have h := h.1 c_6
    refine wr_iload_n (pc := 16) (dget kX6_speedTold 10 rfl) 0 rfl ?_
    refine wr_goto (pc := 17) (tgt := 22) (dget kX6_speedTold 11 rfl) (by decide) ?_
    exact wr_iret (pc := 22) rfl (dget kX6_speedTold 14 rfl) ⟨_, rfl, h⟩
def vX6_arrange_62 (post : Hp → Prop) (ex : Hp → Prop) (a2 : Nat) : Nat → Int32 → Hp → Prop
  | 0 => fun _ _ => False
  | n + 1 => fun x3 σ => (((σ.1 2 5) ≤ x3 → (ex σ)) ∧ (¬ (σ.1 2 5) ≤ x3 → (kd a2 = 7 ∧ (vX7_value a2 x3 (0 : Int32) σ (fun r_4 σ_3 => (vp_in x3 12 ∧ ∀ σ_6 : Hp, σ_6 = wI σ_3 4 x3.toNatClampNeg r_4 → (vX7_value a2 x3 (1 : Int32) σ_6 (fun r_8 σ_7 => (vp_in x3 12 ∧ ∀ σ_10 : Hp, σ_10 = wI σ_7 5 x3.toNatClampNeg r_8 → (vX7_value a2 x3 (2 : Int32) σ_10 (fun r_12 σ_11 => (vp_in x3 12 ∧ ∀ σ_14 : Hp, σ_14 = wI σ_11 6 x3.toNatClampNeg r_12 → (vX7_value a2 x3 (3 : Int32) σ_14 (fun r_16 σ_15 => (vp_in x3 12 ∧ ∀ σ_18 : Hp, σ_18 = wI σ_15 7 x3.toNatClampNeg (r_16 + (1 : Int32)) → (vp_in x3 12 ∧ (vp_in x3 12 ∧ (vp_in (((σ_18.1 4 x3.toNatClampNeg) * (12 : Int32)) + (σ_18.1 5 x3.toNatClampNeg)) 36 ∧ ∀ σ_22 : Hp, σ_22 = wI σ_18 8 ((((σ_18.1 4 x3.toNatClampNeg) * (12 : Int32)) + (σ_18.1 5 x3.toNatClampNeg))).toNatClampNeg x3 → (vX6_noteHidden x3 σ_22 (fun σ_23 => (∀ x3_25 : Int32, x3_25 = x3 + (1 : Int32) → vX6_arrange_62 post ex a2 n x3_25 σ_23)))))))))))))))))))))
set_option maxHeartbeats 4000000 in
set_option maxRecDepth 100000 in
theorem tX6_arrange_62 {G : GT} {post : Hp → Prop} {ex : Hp → Prop} {a2 : Nat} (hex : ∀  (τ : Hp), ex  τ → WP G mX6_arrange 153 [] [] τ (LV post)) : ∀ (n : Nat) (x3 : Int32) (σ : Hp), vX6_arrange_62 post ex a2 n x3 σ → WP G mX6_arrange 62 [(0, .ref (G.1 2)), (2, .ref (G.1 a2)), (3, .int x3)] [] σ (LV post) := by
  intro n
  induction n with
  | zero => intro x3 σ h; exact False.elim h
  | succ n ih =>
    intro x3 σ h
    simp only [vX6_arrange_62] at h
    refine wr_iload_n (pc := 62) (dget kX6_arrange 34 rfl) 2 rfl ?_
    refine wr_aload_n (pc := 63) (dget kX6_arrange 35 rfl) 0 rfl ?_
    refine wr_getI (pc := 64) (σ := σ) fl_X6_49 kd_2 fk_6_5 (dget kX6_arrange 36 rfl) ?_
    refine wr_icmp_ge (pc := 67) (tgt := 153) (dget kX6_arrange 37 rfl) (by decide) (fun c_1 => ?_) (fun c_1 => ?_)
    · have h := h.1 c_1
      refine wr_sub [] rfl ?_
      exact hex  _ h
    · have h := h.2 c_1
      refine wr_aload_n (pc := 70) (dget kX6_arrange 38 rfl) 0 rfl ?_
      refine wr_getRl (pc := 71) fl_X6_15 kd_2 fk_6_1 rt_2_1 (dget kX6_arrange 39 rfl) ?_
      refine wr_iload_n (pc := 74) (dget kX6_arrange 40 rfl) 2 rfl ?_
      refine wr_aload_n (pc := 75) (dget kX6_arrange 41 rfl) 1 rfl ?_
      refine wr_iload_n (pc := 76) (dget kX6_arrange 42 rfl) 2 rfl ?_
      refine wr_iconst (pc := 77) (dget kX6_arrange 43 rfl) ic_0 ?_
      obtain ⟨q_2, h⟩ := h
      refine wr_callVi (pc := 78) (Mc := mX7_value) (o := a2) (rest := [.int x3, .ref (G.1 4)]) cf_X6_52 cv_X7_value q_2 rfl ⟨Nat.le_of_ble_eq_true rfl, Nat.le_of_ble_eq_true rfl⟩ rfl rfl (Nat.le_of_ble_eq_true rfl) (dget kX6_arrange 44 rfl) (tX7_value h) (fun r_4 σ_3 h => ?_)
      obtain ⟨q_5, h⟩ := h
      refine wr_iastl (pc := 81) il_4 q_5 (dget kX6_arrange 45 rfl) ?_
      refine wr_tops (fun σ_6 e_σ_6 => ?_)
      have h := h σ_6 e_σ_6
      refine wr_aload_n (pc := 82) (dget kX6_arrange 46 rfl) 0 rfl ?_
      refine wr_getRl (pc := 83) fl_X6_18 kd_2 fk_6_2 rt_2_2 (dget kX6_arrange 47 rfl) ?_
      refine wr_iload_n (pc := 86) (dget kX6_arrange 48 rfl) 2 rfl ?_
      refine wr_aload_n (pc := 87) (dget kX6_arrange 49 rfl) 1 rfl ?_
      refine wr_iload_n (pc := 88) (dget kX6_arrange 50 rfl) 2 rfl ?_
      refine wr_iconst (pc := 89) (dget kX6_arrange 51 rfl) ic_1 ?_
      refine wr_callVi (pc := 90) (Mc := mX7_value) (o := a2) (rest := [.int x3, .ref (G.1 5)]) cf_X6_52 cv_X7_value q_2 rfl ⟨Nat.le_of_ble_eq_true rfl, Nat.le_of_ble_eq_true rfl⟩ rfl rfl (Nat.le_of_ble_eq_true rfl) (dget kX6_arrange 52 rfl) (tX7_value h) (fun r_8 σ_7 h => ?_)
      obtain ⟨q_9, h⟩ := h
      refine wr_iastl (pc := 93) il_5 q_9 (dget kX6_arrange 53 rfl) ?_
      refine wr_tops (fun σ_10 e_σ_10 => ?_)
      have h := h σ_10 e_σ_10
      refine wr_aload_n (pc := 94) (dget kX6_arrange 54 rfl) 0 rfl ?_
      refine wr_getRl (pc := 95) fl_X6_21 kd_2 fk_6_3 rt_2_3 (dget kX6_arrange 55 rfl) ?_
      refine wr_iload_n (pc := 98) (dget kX6_arrange 56 rfl) 2 rfl ?_
      refine wr_aload_n (pc := 99) (dget kX6_arrange 57 rfl) 1 rfl ?_
      refine wr_iload_n (pc := 100) (dget kX6_arrange 58 rfl) 2 rfl ?_
      refine wr_iconst (pc := 101) (dget kX6_arrange 59 rfl) ic_2 ?_
      refine wr_callVi (pc := 102) (Mc := mX7_value) (o := a2) (rest := [.int x3, .ref (G.1 6)]) cf_X6_52 cv_X7_value q_2 rfl ⟨Nat.le_of_ble_eq_true rfl, Nat.le_of_ble_eq_true rfl⟩ rfl rfl (Nat.le_of_ble_eq_true rfl) (dget kX6_arrange 60 rfl) (tX7_value h) (fun r_12 σ_11 h => ?_)
      obtain ⟨q_13, h⟩ := h
      refine wr_iastl (pc := 105) il_6 q_13 (dget kX6_arrange 61 rfl) ?_
      refine wr_tops (fun σ_14 e_σ_14 => ?_)
      have h := h σ_14 e_σ_14
      refine wr_aload_n (pc := 106) (dget kX6_arrange 62 rfl) 0 rfl ?_
      refine wr_getRl (pc := 107) fl_X6_24 kd_2 fk_6_4 rt_2_4 (dget kX6_arrange 63 rfl) ?_
      refine wr_iload_n (pc := 110) (dget kX6_arrange 64 rfl) 2 rfl ?_
      refine wr_aload_n (pc := 111) (dget kX6_arrange 65 rfl) 1 rfl ?_
      refine wr_iload_n (pc := 112) (dget kX6_arrange 66 rfl) 2 rfl ?_
      refine wr_iconst (pc := 113) (dget kX6_arrange 67 rfl) ic_3 ?_
      refine wr_callVi (pc := 114) (Mc := mX7_value) (o := a2) (rest := [.int x3, .ref (G.1 7)]) cf_X6_52 cv_X7_value q_2 rfl ⟨Nat.le_of_ble_eq_true rfl, Nat.le_of_ble_eq_true rfl⟩ rfl rfl (Nat.le_of_ble_eq_true rfl) (dget kX6_arrange 68 rfl) (tX7_value h) (fun r_16 σ_15 h => ?_)
      refine wr_iconst (pc := 117) (dget kX6_arrange 69 rfl) ic_1 ?_
      refine wr_iadd (pc := 118) (dget kX6_arrange 70 rfl) ?_
      obtain ⟨q_17, h⟩ := h
      refine wr_iastl (pc := 119) il_7 q_17 (dget kX6_arrange 71 rfl) ?_
      refine wr_tops (fun σ_18 e_σ_18 => ?_)
      have h := h σ_18 e_σ_18
      refine wr_aload_n (pc := 120) (dget kX6_arrange 72 rfl) 0 rfl ?_
      refine wr_getRl (pc := 121) fl_X6_27 kd_2 fk_6_6 rt_2_6 (dget kX6_arrange 73 rfl) ?_
      refine wr_aload_n (pc := 124) (dget kX6_arrange 74 rfl) 0 rfl ?_
      refine wr_getRl (pc := 125) fl_X6_15 kd_2 fk_6_1 rt_2_1 (dget kX6_arrange 75 rfl) ?_
      refine wr_iload_n (pc := 128) (dget kX6_arrange 76 rfl) 2 rfl ?_
      obtain ⟨q_19, h⟩ := h
      refine wr_ialdl (pc := 129) (σ := σ_18) il_4 q_19 (dget kX6_arrange 77 rfl) ?_
      refine wr_bipush (pc := 130) (dget kX6_arrange 78 rfl) bp_12 ?_
      refine wr_imul (pc := 132) (dget kX6_arrange 79 rfl) ?_
      refine wr_aload_n (pc := 133) (dget kX6_arrange 80 rfl) 0 rfl ?_
      refine wr_getRl (pc := 134) fl_X6_18 kd_2 fk_6_2 rt_2_2 (dget kX6_arrange 81 rfl) ?_
      refine wr_iload_n (pc := 137) (dget kX6_arrange 82 rfl) 2 rfl ?_
      obtain ⟨q_20, h⟩ := h
      refine wr_ialdl (pc := 138) (σ := σ_18) il_5 q_20 (dget kX6_arrange 83 rfl) ?_
      refine wr_iadd (pc := 139) (dget kX6_arrange 84 rfl) ?_
      refine wr_iload_n (pc := 140) (dget kX6_arrange 85 rfl) 2 rfl ?_
      obtain ⟨q_21, h⟩ := h
      refine wr_iastl (pc := 141) il_8 q_21 (dget kX6_arrange 86 rfl) ?_
      refine wr_tops (fun σ_22 e_σ_22 => ?_)
      have h := h σ_22 e_σ_22
      refine wr_aload_n (pc := 142) (dget kX6_arrange 87 rfl) 0 rfl ?_
      refine wr_iload_n (pc := 143) (dget kX6_arrange 88 rfl) 2 rfl ?_
      refine wr_callVv (pc := 144) (Mc := mX6_noteHidden) (o := 2) (rest := []) cf_X6_56 cv_X6_noteHidden kd_2 rfl ⟨Nat.le_of_ble_eq_true rfl, Nat.le_of_ble_eq_true rfl⟩ rfl rfl (Nat.le_of_ble_eq_true rfl) (dget kX6_arrange 89 rfl) (tX6_noteHidden h) (fun σ_23 h => ?_)
      obtain ⟨x3_25, e_x3_25⟩ : ∃ y : Int32, y = x3 + (1 : Int32) := ⟨_, rfl⟩
      have h := h x3_25 e_x3_25
      refine wr_iinc (pc := 147) (v := x3_25) (lv' := [(3, .int x3_25), (0, .ref (G.1 2)), (2, .ref (G.1 a2))]) (dget kX6_arrange 90 rfl) 2 rfl (by rw [e_x3_25, ic_1]) (by decide) rfl ?_
      refine wr_goto (pc := 150) (tgt := 62) (dget kX6_arrange 91 rfl) (by decide) ?_
      refine wr_sub [1, 2, 0] rfl ?_
      exact ih _ _ h
def vX6_arrange_2 (post : Hp → Prop) (ex : Hp → Prop) (a1 : Nat) (a2 : Nat) : Nat → Int32 → Hp → Prop
  | 0 => fun _ _ => False
  | n + 1 => fun x3 σ => (((3 : Int32) ≤ x3 → (ex σ)) ∧ (¬ (3 : Int32) ≤ x3 → (kd a1 = 7 ∧ (((σ.1 a1 6) ≤ x3 → (vp_in x3 3 ∧ ∀ σ_5 : Hp, σ_5 = wI σ 3 x3.toNatClampNeg (1 : Int32) → (∀ x3_6 : Int32, x3_6 = x3 + (1 : Int32) → vX6_arrange_2 post ex a1 a2 n x3_6 σ_5))) ∧ (¬ (σ.1 a1 6) ≤ x3 → (vX6_speedTold a1 x3 σ (fun r_8 σ_7 => (vp_in x3 3 ∧ ∀ σ_10 : Hp, σ_10 = wI σ_7 3 x3.toNatClampNeg r_8 → (∀ x3_11 : Int32, x3_11 = x3 + (1 : Int32) → vX6_arrange_2 post ex a1 a2 n x3_11 σ_10)))))))))
set_option maxHeartbeats 4000000 in
set_option maxRecDepth 100000 in
theorem tX6_arrange_2 {G : GT} {post : Hp → Prop} {ex : Hp → Prop} {a1 : Nat} {a2 : Nat} (hex : ∀  (τ : Hp), ex  τ → WP G mX6_arrange 36 [(0, .ref (G.1 2)), (2, .ref (G.1 a2))] [] τ (LV post)) : ∀ (n : Nat) (x3 : Int32) (σ : Hp), vX6_arrange_2 post ex a1 a2 n x3 σ → WP G mX6_arrange 2 [(0, .ref (G.1 2)), (1, .ref (G.1 a1)), (2, .ref (G.1 a2)), (3, .int x3)] [] σ (LV post) := by
  intro n
  induction n with
  | zero => intro x3 σ h; exact False.elim h
  | succ n ih =>
    intro x3 σ h
    simp only [vX6_arrange_2] at h
    refine wr_iload_n (pc := 2) (dget kX6_arrange 2 rfl) 3 rfl ?_
    refine wr_iconst (pc := 3) (dget kX6_arrange 3 rfl) ic_3 ?_
    refine wr_icmp_ge (pc := 4) (tgt := 36) (dget kX6_arrange 4 rfl) (by decide) (fun c_1 => ?_) (fun c_1 => ?_)
    · have h := h.1 c_1
      refine wr_sub [0, 2] rfl ?_
      exact hex  _ h
    · have h := h.2 c_1
      refine wr_aload_n (pc := 7) (dget kX6_arrange 5 rfl) 0 rfl ?_
      refine wr_getRl (pc := 8) fl_X6_9 kd_2 fk_6_0 rt_2_0 (dget kX6_arrange 6 rfl) ?_
      refine wr_iload_n (pc := 11) (dget kX6_arrange 7 rfl) 3 rfl ?_
      refine wr_iload_n (pc := 12) (dget kX6_arrange 8 rfl) 3 rfl ?_
      refine wr_aload_n (pc := 13) (dget kX6_arrange 9 rfl) 1 rfl ?_
      obtain ⟨q_2, h⟩ := h
      refine wr_getI (pc := 14) (σ := σ) fl_X6_33 q_2 fk_7_6 (dget kX6_arrange 10 rfl) ?_
      refine wr_icmp_ge (pc := 17) (tgt := 28) (dget kX6_arrange 11 rfl) (by decide) (fun c_3 => ?_) (fun c_3 => ?_)
      · have h := h.1 c_3
        refine wr_iconst (pc := 28) (dget kX6_arrange 16 rfl) ic_1 ?_
        obtain ⟨q_4, h⟩ := h
        refine wr_iastl (pc := 29) il_3 q_4 (dget kX6_arrange 17 rfl) ?_
        refine wr_tops (fun σ_5 e_σ_5 => ?_)
        have h := h σ_5 e_σ_5
        obtain ⟨x3_6, e_x3_6⟩ : ∃ y : Int32, y = x3 + (1 : Int32) := ⟨_, rfl⟩
        have h := h x3_6 e_x3_6
        refine wr_iinc (pc := 30) (v := x3_6) (lv' := [(3, .int x3_6), (0, .ref (G.1 2)), (1, .ref (G.1 a1)), (2, .ref (G.1 a2))]) (dget kX6_arrange 18 rfl) 3 rfl (by rw [e_x3_6, ic_1]) (by decide) rfl ?_
        refine wr_goto (pc := 33) (tgt := 2) (dget kX6_arrange 19 rfl) (by decide) ?_
        refine wr_sub [1, 2, 3, 0] rfl ?_
        exact ih _ _ h
      · have h := h.2 c_3
        refine wr_aload_n (pc := 20) (dget kX6_arrange 12 rfl) 1 rfl ?_
        refine wr_iload_n (pc := 21) (dget kX6_arrange 13 rfl) 3 rfl ?_
        refine wr_callSi (pc := 22) (Mc := mX6_speedTold) (rest := [.int x3, .ref (G.1 3)]) cf_X6_39 cs_X6_speedTold ⟨Nat.le_of_ble_eq_true rfl, Nat.le_of_ble_eq_true rfl⟩ rfl rfl (Nat.le_of_ble_eq_true rfl) (dget kX6_arrange 14 rfl) (tX6_speedTold h) (fun r_8 σ_7 h => ?_)
        refine wr_goto (pc := 25) (tgt := 29) (dget kX6_arrange 15 rfl) (by decide) ?_
        obtain ⟨q_9, h⟩ := h
        refine wr_iastl (pc := 29) il_3 q_9 (dget kX6_arrange 17 rfl) ?_
        refine wr_tops (fun σ_10 e_σ_10 => ?_)
        have h := h σ_10 e_σ_10
        obtain ⟨x3_11, e_x3_11⟩ : ∃ y : Int32, y = x3 + (1 : Int32) := ⟨_, rfl⟩
        have h := h x3_11 e_x3_11
        refine wr_iinc (pc := 30) (v := x3_11) (lv' := [(3, .int x3_11), (0, .ref (G.1 2)), (1, .ref (G.1 a1)), (2, .ref (G.1 a2))]) (dget kX6_arrange 18 rfl) 3 rfl (by rw [e_x3_11, ic_1]) (by decide) rfl ?_
        refine wr_goto (pc := 33) (tgt := 2) (dget kX6_arrange 19 rfl) (by decide) ?_
        refine wr_sub [1, 2, 3, 0] rfl ?_
        exact ih _ _ h
def vX6_arrange (a1 : Nat) (a2 : Nat) (σ : Hp) (post : Hp → Prop) : Prop := (∃ fu : Nat, vX6_arrange_2 post (fun σ_1 => (vJ7_fill_53178 8 (-1 : Int32) σ_1 (fun σ_2 => (vJ7_fill_53178 9 (0 : Int32) σ_2 (fun σ_4 => (kd a2 = 7 ∧ (∀ σ_7 : Hp, σ_7 = wI σ_4 2 5 (σ_4.1 a2 6) → (∃ fu : Nat, vX6_arrange_62 post (fun σ_8 => post σ_8) a2 fu (0 : Int32) σ_7)))))))) a1 a2 fu (0 : Int32) σ)
set_option maxHeartbeats 4000000 in
set_option maxRecDepth 100000 in
theorem tX6_arrange {G : GT} {a1 : Nat} {a2 : Nat} {σ : Hp} {post : Hp → Prop} (h : vX6_arrange a1 a2 σ post) : CT G mX6_arrange [.ref (G.1 2), .ref (G.1 a1), .ref (G.1 a2)] σ (LV post) := by
  refine CT.of (by decide +kernel) (Nat.le_of_ble_eq_true rfl) ?_
  show WP G mX6_arrange 0 [(0, .ref (G.1 2)), (1, .ref (G.1 a1)), (2, .ref (G.1 a2))] [] σ (LV post)
  unfold vX6_arrange at h
  refine wr_iconst (pc := 0) (dget kX6_arrange 0 rfl) ic_0 ?_
  refine wr_istore_n (pc := 1) (lv' := [(3, .int (0 : Int32)), (0, .ref (G.1 2)), (1, .ref (G.1 a1)), (2, .ref (G.1 a2))]) (dget kX6_arrange 1 rfl) (by decide) rfl ?_
  obtain ⟨fu, h⟩ := h
  refine wr_sub [1, 2, 3, 0] rfl ?_
  refine tX6_arrange_2 (fun σ_1 h => ?_) fu _ _ h
  refine wr_aload_n (pc := 36) (dget kX6_arrange 20 rfl) 0 rfl ?_
  refine wr_getRl (pc := 37) fl_X6_27 kd_2 fk_6_6 rt_2_6 (dget kX6_arrange 21 rfl) ?_
  refine wr_iconst (pc := 40) (dget kX6_arrange 22 rfl) ic_m1 ?_
  refine wr_callSv (pc := 41) (Mc := mJ7_fill_53178) (rest := []) cf_X6_43 cs_J7_fill_53178 ⟨Nat.le_of_ble_eq_true rfl, Nat.le_of_ble_eq_true rfl⟩ rfl rfl (Nat.le_of_ble_eq_true rfl) (dget kX6_arrange 23 rfl) (tJ7_fill_53178 h) (fun σ_2 h => ?_)
  refine wr_aload_n (pc := 44) (dget kX6_arrange 24 rfl) 0 rfl ?_
  refine wr_getRl (pc := 45) fl_X6_30 kd_2 fk_6_7 rt_2_7 (dget kX6_arrange 25 rfl) ?_
  refine wr_iconst (pc := 48) (dget kX6_arrange 26 rfl) ic_0 ?_
  refine wr_callSv (pc := 49) (Mc := mJ7_fill_53178) (rest := []) cf_X6_43 cs_J7_fill_53178 ⟨Nat.le_of_ble_eq_true rfl, Nat.le_of_ble_eq_true rfl⟩ rfl rfl (Nat.le_of_ble_eq_true rfl) (dget kX6_arrange 27 rfl) (tJ7_fill_53178 h) (fun σ_4 h => ?_)
  refine wr_aload_n (pc := 52) (dget kX6_arrange 28 rfl) 0 rfl ?_
  refine wr_aload_n (pc := 53) (dget kX6_arrange 29 rfl) 1 rfl ?_
  obtain ⟨q_6, h⟩ := h
  refine wr_getI (pc := 54) (σ := σ_4) fl_X6_33 q_6 fk_7_6 (dget kX6_arrange 30 rfl) ?_
  refine wr_putI (pc := 57) fl_X6_49 kd_2 fk_6_5 (vp_nar_int _) rfl (dget kX6_arrange 31 rfl) ?_
  refine wr_tops (fun σ_7 e_σ_7 => ?_)
  have h := h σ_7 e_σ_7
  refine wr_iconst (pc := 60) (dget kX6_arrange 32 rfl) ic_0 ?_
  refine wr_istore_n (pc := 61) (lv' := [(3, .int (0 : Int32)), (0, .ref (G.1 2)), (2, .ref (G.1 a2))]) (dget kX6_arrange 33 rfl) (by decide) rfl ?_
  obtain ⟨fu, h⟩ := h
  refine wr_sub [1, 2, 0] rfl ?_
  refine tX6_arrange_62 (fun σ_8 h => ?_) fu _ _ h
  exact wr_vret (pc := 153) rfl (dget kX6_arrange 92 rfl) ⟨rfl, h⟩
def vX6_tellDuck (p1 : Int32) (p2 : Int32) (σ : Hp) (post : Int32 → Hp → Prop) : Prop := ((p2 = (0 : Int32) → (vp_in p1 12 ∧ post (σ.1 4 p1.toNatClampNeg) σ)) ∧ (¬ p2 = (0 : Int32) → ((p2 = (1 : Int32) → (vp_in p1 12 ∧ post (σ.1 5 p1.toNatClampNeg) σ)) ∧ (¬ p2 = (1 : Int32) → ((p2 = (2 : Int32) → (vp_in p1 12 ∧ post (σ.1 6 p1.toNatClampNeg) σ)) ∧ (¬ p2 = (2 : Int32) → (vp_in p1 12 ∧ post (σ.1 7 p1.toNatClampNeg) σ)))))))
set_option maxHeartbeats 4000000 in
set_option maxRecDepth 100000 in
theorem tX6_tellDuck {G : GT} {p1 : Int32} {p2 : Int32} {σ : Hp} {post : Int32 → Hp → Prop} (h : vX6_tellDuck p1 p2 σ post) : CT G mX6_tellDuck [.ref (G.1 2), .int p1, .int p2] σ (LI post) := by
  refine CT.of (by decide +kernel) (Nat.le_of_ble_eq_true rfl) ?_
  show WP G mX6_tellDuck 0 [(0, .ref (G.1 2)), (1, .int p1), (2, .int p2)] [] σ (LI post)
  unfold vX6_tellDuck at h
  refine wr_iload_n (pc := 0) (dget kX6_tellDuck 0 rfl) 2 rfl ?_
  rcases Decidable.em (p2 = (0 : Int32)) with c_1 | c_1
  · have h := h.1 c_1
    refine wr_tabIn (pc := 1) (tgt := 28) (off := 27) (dget kX6_tellDuck 1 rfl) (by rw [c_1]; decide) (by rw [c_1]; decide) (by rw [c_1]; rfl) (by decide) ?_
    refine wr_aload_n (pc := 28) (dget kX6_tellDuck 2 rfl) 0 rfl ?_
    refine wr_getRl (pc := 29) fl_X6_15 kd_2 fk_6_1 rt_2_1 (dget kX6_tellDuck 3 rfl) ?_
    refine wr_iload_n (pc := 32) (dget kX6_tellDuck 4 rfl) 1 rfl ?_
    obtain ⟨q_2, h⟩ := h
    refine wr_ialdl (pc := 33) (σ := σ) il_4 q_2 (dget kX6_tellDuck 5 rfl) ?_
    exact wr_iret (pc := 34) rfl (dget kX6_tellDuck 6 rfl) ⟨_, rfl, h⟩
  · have h := h.2 c_1
    rcases Decidable.em (p2 = (1 : Int32)) with c_3 | c_3
    · have h := h.1 c_3
      refine wr_tabIn (pc := 1) (tgt := 35) (off := 34) (dget kX6_tellDuck 1 rfl) (by rw [c_3]; decide) (by rw [c_3]; decide) (by rw [c_3]; rfl) (by decide) ?_
      refine wr_aload_n (pc := 35) (dget kX6_tellDuck 7 rfl) 0 rfl ?_
      refine wr_getRl (pc := 36) fl_X6_18 kd_2 fk_6_2 rt_2_2 (dget kX6_tellDuck 8 rfl) ?_
      refine wr_iload_n (pc := 39) (dget kX6_tellDuck 9 rfl) 1 rfl ?_
      obtain ⟨q_4, h⟩ := h
      refine wr_ialdl (pc := 40) (σ := σ) il_5 q_4 (dget kX6_tellDuck 10 rfl) ?_
      exact wr_iret (pc := 41) rfl (dget kX6_tellDuck 11 rfl) ⟨_, rfl, h⟩
    · have h := h.2 c_3
      rcases Decidable.em (p2 = (2 : Int32)) with c_5 | c_5
      · have h := h.1 c_5
        refine wr_tabIn (pc := 1) (tgt := 42) (off := 41) (dget kX6_tellDuck 1 rfl) (by rw [c_5]; decide) (by rw [c_5]; decide) (by rw [c_5]; rfl) (by decide) ?_
        refine wr_aload_n (pc := 42) (dget kX6_tellDuck 12 rfl) 0 rfl ?_
        refine wr_getRl (pc := 43) fl_X6_21 kd_2 fk_6_3 rt_2_3 (dget kX6_tellDuck 13 rfl) ?_
        refine wr_iload_n (pc := 46) (dget kX6_tellDuck 14 rfl) 1 rfl ?_
        obtain ⟨q_6, h⟩ := h
        refine wr_ialdl (pc := 47) (σ := σ) il_6 q_6 (dget kX6_tellDuck 15 rfl) ?_
        exact wr_iret (pc := 48) rfl (dget kX6_tellDuck 16 rfl) ⟨_, rfl, h⟩
      · have h := h.2 c_5
        refine wr_tabOut (pc := 1) (tgt := 49) (dget kX6_tellDuck 1 rfl) (by have := sw_ne c_1 (by decide : ((0 : Int32)).toInt = 0); have := sw_ne c_3 (by decide : ((1 : Int32)).toInt = 1); have := sw_ne c_5 (by decide : ((2 : Int32)).toInt = 2); omega) (by decide) ?_
        refine wr_aload_n (pc := 49) (dget kX6_tellDuck 17 rfl) 0 rfl ?_
        refine wr_getRl (pc := 50) fl_X6_24 kd_2 fk_6_4 rt_2_4 (dget kX6_tellDuck 18 rfl) ?_
        refine wr_iload_n (pc := 53) (dget kX6_tellDuck 19 rfl) 1 rfl ?_
        obtain ⟨q_7, h⟩ := h
        refine wr_ialdl (pc := 54) (σ := σ) il_7 q_7 (dget kX6_tellDuck 20 rfl) ?_
        exact wr_iret (pc := 55) rfl (dget kX6_tellDuck 21 rfl) ⟨_, rfl, h⟩
