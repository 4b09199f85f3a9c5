def vX9_back (σ : Hp) (post : Int32 → Hp → Prop) : Prop := (((σ.1 71 13) = 0 → post (-3 : Int32) σ) ∧ (¬ (σ.1 71 13) = 0 → (∀ σ_2 : Hp, σ_2 = wI σ 71 13 ((σ.1 71 13) - (1 : Int32)) → post (σ_2.1 71 13) σ_2)))
set_option maxHeartbeats 4000000 in
set_option maxRecDepth 100000 in
theorem tX9_back {G : GT} {σ : Hp} {post : Int32 → Hp → Prop} (h : vX9_back  σ post) : CT G mX9_back [.ref (G.1 71)] σ (LI post) := by
  refine CT.of (by decide +kernel) (Nat.le_of_ble_eq_true rfl) ?_
  show WP G mX9_back 0 [(0, .ref (G.1 71))] [] σ (LI post)
  unfold vX9_back at h
  refine wr_aload_n (pc := 0) (dget kX9_back 0 rfl) 0 rfl ?_
  refine wr_getI (pc := 1) (σ := σ) fl_X9_172 kd_71 fk_9_13 (dget kX9_back 1 rfl) ?_
  refine wr_if_ne (pc := 4) (tgt := 10) (dget kX9_back 2 rfl) (by decide) (fun c_1 => ?_) (fun c_1 => ?_)
  · have h := h.2 c_1
    refine wr_aload_n (pc := 10) (dget kX9_back 5 rfl) 0 rfl ?_
    refine wr_dup (pc := 11) (dget kX9_back 6 rfl) rfl ?_
    refine wr_getI (pc := 12) (σ := σ) fl_X9_172 kd_71 fk_9_13 (dget kX9_back 7 rfl) ?_
    refine wr_iconst (pc := 15) (dget kX9_back 8 rfl) ic_1 ?_
    refine wr_isub (pc := 16) (dget kX9_back 9 rfl) ?_
    refine wr_putI (pc := 17) fl_X9_172 kd_71 fk_9_13 (vp_nar_int _) rfl (dget kX9_back 10 rfl) ?_
    refine wr_tops (fun σ_2 e_σ_2 => ?_)
    have h := h σ_2 e_σ_2
    refine wr_aload_n (pc := 20) (dget kX9_back 11 rfl) 0 rfl ?_
    refine wr_getI (pc := 21) (σ := σ_2) fl_X9_172 kd_71 fk_9_13 (dget kX9_back 12 rfl) ?_
    exact wr_iret (pc := 24) rfl (dget kX9_back 13 rfl) ⟨_, rfl, h⟩
  · have h := h.1 c_1
    refine wr_bipush (pc := 7) (dget kX9_back 3 rfl) bp_m3 ?_
    exact wr_iret (pc := 9) rfl (dget kX9_back 4 rfl) ⟨_, rfl, h⟩
def vX9_read_94 (post : Int32 → Hp → Prop) (ex : Int32 → Hp → Prop) (rc : Int32 → Int32 → Hp → Prop) (x1 : Int32) (x2 : Int32) (y0 : Int32) (σ : Hp) : Prop := ((y0 = 0 → (∀ x2_2 : Int32, x2_2 = (x2 + (0 : Int32)) → (rc x2_2 y0 σ))) ∧ (¬ y0 = 0 → (∀ x2_3 : Int32, x2_3 = (x2 + (1 : Int32)) → (rc x2_3 y0 σ))))
set_option maxHeartbeats 4000000 in
set_option maxRecDepth 100000 in
theorem tX9_read_94 {G : GT} {post : Int32 → Hp → Prop} {ex : Int32 → Hp → Prop} {rc : Int32 → Int32 → Hp → Prop} {x1 : Int32} {x2 : Int32} {y0 : Int32} {σ : Hp} (hex : ∀ (z2 : Int32) (τ : Hp), ex z2 τ → WP G mX9_read 110 [(2, .int z2)] [] τ (LI post)) (hrc : ∀ (z2 : Int32) (z3 : Int32) (τ : Hp), rc z2 z3 τ → WP G mX9_read 29 [(0, .ref (G.1 71)), (1, .int x1), (2, .int z2), (3, .int z3)] [] τ (LI post)) (h : vX9_read_94 post ex rc x1 x2 y0 σ) : WP G mX9_read 94 [(0, .ref (G.1 71)), (1, .int x1), (2, .int x2)] [.int y0] σ (LI post) := by
  unfold vX9_read_94 at h
  refine wr_istore_n (pc := 94) (lv' := [(3, .int y0), (0, .ref (G.1 71)), (1, .int x1), (2, .int x2)]) (dget kX9_read 60 rfl) (by decide) rfl ?_
  refine wr_iload_n (pc := 95) (dget kX9_read 61 rfl) 3 rfl ?_
  refine wr_iload_n (pc := 96) (dget kX9_read 62 rfl) 0 rfl ?_
  refine wr_if_eq (pc := 97) (tgt := 104) (dget kX9_read 63 rfl) (by decide) (fun c_1 => ?_) (fun c_1 => ?_)
  · have h := h.1 c_1
    refine wr_iconst (pc := 104) (dget kX9_read 66 rfl) ic_0 ?_
    refine wr_iadd (pc := 105) (dget kX9_read 67 rfl) ?_
    refine wr_topi (fun x2_2 e_x2_2 => ?_)
    have h := h x2_2 e_x2_2
    refine wr_istore_n (pc := 106) (lv' := [(2, .int x2_2), (3, .int y0), (0, .ref (G.1 71)), (1, .int x1)]) (dget kX9_read 68 rfl) (by decide) rfl ?_
    refine wr_goto (pc := 107) (tgt := 29) (dget kX9_read 69 rfl) (by decide) ?_
    refine wr_sub [2, 3, 0, 1] rfl ?_
    exact hrc _ _ _ h
  · have h := h.2 c_1
    refine wr_iconst (pc := 100) (dget kX9_read 64 rfl) ic_1 ?_
    refine wr_goto (pc := 101) (tgt := 105) (dget kX9_read 65 rfl) (by decide) ?_
    refine wr_iadd (pc := 105) (dget kX9_read 67 rfl) ?_
    refine wr_topi (fun x2_3 e_x2_3 => ?_)
    have h := h x2_3 e_x2_3
    refine wr_istore_n (pc := 106) (lv' := [(2, .int x2_3), (3, .int y0), (0, .ref (G.1 71)), (1, .int x1)]) (dget kX9_read 68 rfl) (by decide) rfl ?_
    refine wr_goto (pc := 107) (tgt := 29) (dget kX9_read 69 rfl) (by decide) ?_
    refine wr_sub [2, 3, 0, 1] rfl ?_
    exact hrc _ _ _ h
def vX9_read_29 (post : Int32 → Hp → Prop) (ex : Int32 → Hp → Prop) (x1 : Int32) : Nat → Int32 → Int32 → Hp → Prop
  | 0 => fun _ _ _ => False
  | n + 1 => fun x2 x3 σ => ((x3 = 0 → (ex x2 σ)) ∧ (¬ x3 = 0 → (vp_in x1 4 ∧ (((σ.1 73 x1.toNatClampNeg) < (((3 : Int32) * x2) + (3 : Int32)) → (ex x2 σ)) ∧ (¬ (σ.1 73 x1.toNatClampNeg) < (((3 : Int32) * x2) + (3 : Int32)) → (∀ x4_4 : Int32, x4_4 = (((60 : Int32) * x1) + ((3 : Int32) * x2)) → (vp_in x4_4 240 ∧ (vp_in (x4_4 + (1 : Int32)) 240 ∧ (vp_in (x4_4 + (2 : Int32)) 240 ∧ (vX9_event (σ.1 74 x4_4.toNatClampNeg) (σ.1 74 ((x4_4 + (1 : Int32))).toNatClampNeg) (σ.1 74 ((x4_4 + (2 : Int32))).toNatClampNeg) σ (fun r_9 σ_8 => ((r_9 < 0 → vX9_read_94 post ex (vX9_read_29 post ex x1 n) x1 x2 (0 : Int32) σ_8) ∧ (¬ r_9 < 0 → vX9_read_94 post ex (vX9_read_29 post ex x1 n) x1 x2 (1 : Int32) σ_8)))))))))))))
set_option maxHeartbeats 4000000 in
set_option maxRecDepth 100000 in
theorem tX9_read_29 {G : GT} {post : Int32 → Hp → Prop} {ex : Int32 → Hp → Prop} {x1 : Int32} (hex : ∀ (z2 : Int32) (τ : Hp), ex z2 τ → WP G mX9_read 110 [(2, .int z2)] [] τ (LI post)) : ∀ (n : Nat) (x2 : Int32) (x3 : Int32) (σ : Hp), vX9_read_29 post ex x1 n x2 x3 σ → WP G mX9_read 29 [(0, .ref (G.1 71)), (1, .int x1), (2, .int x2), (3, .int x3)] [] σ (LI post) := by
  intro n
  induction n with
  | zero => intro x2 x3 σ h; exact False.elim h
  | succ n ih =>
    intro x2 x3 σ h
    simp only [vX9_read_29] at h
    refine wr_iload_n (pc := 29) (dget kX9_read 18 rfl) 3 rfl ?_
    refine wr_if_eq (pc := 30) (tgt := 110) (dget kX9_read 19 rfl) (by decide) (fun c_1 => ?_) (fun c_1 => ?_)
    · have h := h.1 c_1
      refine wr_sub [2] rfl ?_
      exact hex _ _ h
    · have h := h.2 c_1
      refine wr_iconst (pc := 33) (dget kX9_read 20 rfl) ic_3 ?_
      refine wr_iload_n (pc := 34) (dget kX9_read 21 rfl) 2 rfl ?_
      refine wr_imul (pc := 35) (dget kX9_read 22 rfl) ?_
      refine wr_iconst (pc := 36) (dget kX9_read 23 rfl) ic_3 ?_
      refine wr_iadd (pc := 37) (dget kX9_read 24 rfl) ?_
      refine wr_aload_n (pc := 38) (dget kX9_read 25 rfl) 0 rfl ?_
      refine wr_getRl (pc := 39) fl_X9_13 kd_71 fk_9_1 rt_71_1 (dget kX9_read 26 rfl) ?_
      refine wr_iload_n (pc := 42) (dget kX9_read 27 rfl) 1 rfl ?_
      obtain ⟨q_2, h⟩ := h
      refine wr_ialdl (pc := 43) (σ := σ) il_73 q_2 (dget kX9_read 28 rfl) ?_
      refine wr_icmp_gt (pc := 44) (tgt := 110) (dget kX9_read 29 rfl) (by decide) (fun c_3 => ?_) (fun c_3 => ?_)
      · have h := h.1 c_3
        refine wr_sub [2] rfl ?_
        exact hex _ _ h
      · have h := h.2 c_3
        refine wr_bipush (pc := 47) (dget kX9_read 30 rfl) bp_60 ?_
        refine wr_iload_n (pc := 49) (dget kX9_read 31 rfl) 1 rfl ?_
        refine wr_imul (pc := 50) (dget kX9_read 32 rfl) ?_
        refine wr_iconst (pc := 51) (dget kX9_read 33 rfl) ic_3 ?_
        refine wr_iload_n (pc := 52) (dget kX9_read 34 rfl) 2 rfl ?_
        refine wr_imul (pc := 53) (dget kX9_read 35 rfl) ?_
        refine wr_iadd (pc := 54) (dget kX9_read 36 rfl) ?_
        refine wr_topi (fun x4_4 e_x4_4 => ?_)
        have h := h x4_4 e_x4_4
        refine wr_istore (pc := 55) (lv' := [(4, .int x4_4), (0, .ref (G.1 71)), (1, .int x1), (2, .int x2), (3, .int x3)]) (dget kX9_read 37 rfl) (by decide) rfl ?_
        refine wr_aload_n (pc := 57) (dget kX9_read 38 rfl) 1 rfl ?_
        refine wr_aload_n (pc := 58) (dget kX9_read 39 rfl) 1 rfl ?_
        refine wr_getRl (pc := 59) fl_X9_16 kd_71 fk_9_2 rt_71_2 (dget kX9_read 40 rfl) ?_
        refine wr_iload (pc := 62) (dget kX9_read 41 rfl) 0 rfl ?_
        obtain ⟨q_5, h⟩ := h
        refine wr_ialdl (pc := 64) (σ := σ) il_74 q_5 (dget kX9_read 42 rfl) ?_
        refine wr_aload_n (pc := 65) (dget kX9_read 43 rfl) 1 rfl ?_
        refine wr_getRl (pc := 66) fl_X9_16 kd_71 fk_9_2 rt_71_2 (dget kX9_read 44 rfl) ?_
        refine wr_iload (pc := 69) (dget kX9_read 45 rfl) 0 rfl ?_
        refine wr_iconst (pc := 71) (dget kX9_read 46 rfl) ic_1 ?_
        refine wr_iadd (pc := 72) (dget kX9_read 47 rfl) ?_
        obtain ⟨q_6, h⟩ := h
        refine wr_ialdl (pc := 73) (σ := σ) il_74 q_6 (dget kX9_read 48 rfl) ?_
        refine wr_aload_n (pc := 74) (dget kX9_read 49 rfl) 1 rfl ?_
        refine wr_getRl (pc := 75) fl_X9_16 kd_71 fk_9_2 rt_71_2 (dget kX9_read 50 rfl) ?_
        refine wr_iload (pc := 78) (dget kX9_read 51 rfl) 0 rfl ?_
        refine wr_iconst (pc := 80) (dget kX9_read 52 rfl) ic_2 ?_
        refine wr_iadd (pc := 81) (dget kX9_read 53 rfl) ?_
        obtain ⟨q_7, h⟩ := h
        refine wr_ialdl (pc := 82) (σ := σ) il_74 q_7 (dget kX9_read 54 rfl) ?_
        refine wr_callVi (pc := 83) (Mc := mX9_event) (o := 71) (rest := []) cf_X9_175 cv_X9_event kd_71 rfl ⟨Nat.le_of_ble_eq_true rfl, Nat.le_of_ble_eq_true rfl⟩ rfl rfl (Nat.le_of_ble_eq_true rfl) (dget kX9_read 55 rfl) (tX9_event h) (fun r_9 σ_8 h => ?_)
        refine wr_if_lt (pc := 86) (tgt := 93) (dget kX9_read 56 rfl) (by decide) (fun c_10 => ?_) (fun c_10 => ?_)
        · have h := h.1 c_10
          refine wr_iconst (pc := 93) (dget kX9_read 59 rfl) ic_0 ?_
          refine wr_sub [1, 2, 3] rfl ?_
          exact tX9_read_94 hex ih h
        · have h := h.2 c_10
          refine wr_iconst (pc := 89) (dget kX9_read 57 rfl) ic_1 ?_
          refine wr_goto (pc := 90) (tgt := 94) (dget kX9_read 58 rfl) (by decide) ?_
          refine wr_sub [1, 2, 3] rfl ?_
          exact tX9_read_94 hex ih h
def vX9_read (p1 : Int32) (σ : Hp) (post : Int32 → Hp → Prop) : Prop := (vX9_isSheet p1 σ (fun r_2 σ_1 => ((r_2 = 0 → post (-2 : Int32) σ_1) ∧ (¬ r_2 = 0 → (vp_in p1 4 ∧ ((0 ≤ (σ_1.1 72 p1.toNatClampNeg) → (∃ fu : Nat, vX9_read_29 post (fun z2_6 σ_7 => post z2_6 σ_7) p1 fu (0 : Int32) (1 : Int32) σ_1)) ∧ (¬ 0 ≤ (σ_1.1 72 p1.toNatClampNeg) → (vX9_finds (1 : Int32) σ_1 (fun r_9 σ_8 => post r_9 σ_8)))))))))
set_option maxHeartbeats 4000000 in
set_option maxRecDepth 100000 in
theorem tX9_read {G : GT} {p1 : Int32} {σ : Hp} {post : Int32 → Hp → Prop} (h : vX9_read p1 σ post) : CT G mX9_read [.ref (G.1 71), .int p1] σ (LI post) := by
  refine CT.of (by decide +kernel) (Nat.le_of_ble_eq_true rfl) ?_
  show WP G mX9_read 0 [(0, .ref (G.1 71)), (1, .int p1)] [] σ (LI post)
  unfold vX9_read at h
  refine wr_iload_n (pc := 0) (dget kX9_read 0 rfl) 1 rfl ?_
  refine wr_callSi (pc := 1) (Mc := mX9_isSheet) (rest := []) cf_X9_85 cs_X9_isSheet ⟨Nat.le_of_ble_eq_true rfl, Nat.le_of_ble_eq_true rfl⟩ rfl rfl (Nat.le_of_ble_eq_true rfl) (dget kX9_read 1 rfl) (tX9_isSheet h) (fun r_2 σ_1 h => ?_)
  refine wr_if_ne (pc := 4) (tgt := 10) (dget kX9_read 2 rfl) (by decide) (fun c_3 => ?_) (fun c_3 => ?_)
  · have h := h.2 c_3
    refine wr_aload_n (pc := 10) (dget kX9_read 5 rfl) 0 rfl ?_
    refine wr_getRl (pc := 11) fl_X9_7 kd_71 fk_9_0 rt_71_0 (dget kX9_read 6 rfl) ?_
    refine wr_iload_n (pc := 14) (dget kX9_read 7 rfl) 1 rfl ?_
    obtain ⟨q_4, h⟩ := h
    refine wr_ialdl (pc := 15) (σ := σ_1) il_72 q_4 (dget kX9_read 8 rfl) ?_
    refine wr_if_ge (pc := 16) (tgt := 25) (dget kX9_read 9 rfl) (by decide) (fun c_5 => ?_) (fun c_5 => ?_)
    · have h := h.1 c_5
      refine wr_iconst (pc := 25) (dget kX9_read 14 rfl) ic_0 ?_
      refine wr_istore_n (pc := 26) (lv' := [(2, .int (0 : Int32)), (0, .ref (G.1 71)), (1, .int p1)]) (dget kX9_read 15 rfl) (by decide) rfl ?_
      refine wr_iconst (pc := 27) (dget kX9_read 16 rfl) ic_1 ?_
      refine wr_istore_n (pc := 28) (lv' := [(3, .int (1 : Int32)), (2, .int (0 : Int32)), (0, .ref (G.1 71)), (1, .int p1)]) (dget kX9_read 17 rfl) (by decide) rfl ?_
      obtain ⟨fu, h⟩ := h
      refine wr_sub [2, 3, 1, 0] rfl ?_
      refine tX9_read_29 (fun z2_6 σ_7 h => ?_) fu _ _ _ h
      refine wr_iload_n (pc := 110) (dget kX9_read 70 rfl) 0 rfl ?_
      exact wr_iret (pc := 111) rfl (dget kX9_read 71 rfl) ⟨_, rfl, h⟩
    · have h := h.2 c_5
      refine wr_aload_n (pc := 19) (dget kX9_read 10 rfl) 0 rfl ?_
      refine wr_iconst (pc := 20) (dget kX9_read 11 rfl) ic_1 ?_
      refine wr_callVi (pc := 21) (Mc := mX9_finds) (o := 71) (rest := []) cf_X9_91 cv_X9_finds kd_71 rfl ⟨Nat.le_of_ble_eq_true rfl, Nat.le_of_ble_eq_true rfl⟩ rfl rfl (Nat.le_of_ble_eq_true rfl) (dget kX9_read 12 rfl) (tX9_finds h) (fun r_9 σ_8 h => ?_)
      exact wr_iret (pc := 24) rfl (dget kX9_read 13 rfl) ⟨_, rfl, h⟩
  · have h := h.1 c_3
    refine wr_bipush (pc := 7) (dget kX9_read 3 rfl) bp_m2 ?_
    exact wr_iret (pc := 9) rfl (dget kX9_read 4 rfl) ⟨_, rfl, h⟩
def vX9_toldIn_5 (post : Int32 → Hp → Prop) (ex : Int32 → Hp → Prop) (x1 : Int32) (x2 : Int32) : Nat → Int32 → Int32 → Hp → Prop
  | 0 => fun _ _ _ => False
  | n + 1 => fun x3 x4 σ => (((σ.1 71 13) ≤ x4 → (ex x3 σ)) ∧ (¬ (σ.1 71 13) ≤ x4 → (vp_in ((3 : Int32) * x4) 24 ∧ (((σ.1 82 (((3 : Int32) * x4)).toNatClampNeg) = x1 → (vp_in (((3 : Int32) * x4) + (1 : Int32)) 24 ∧ (((σ.1 82 ((((3 : Int32) * x4) + (1 : Int32))).toNatClampNeg) = x2 → (vX9_isIn (σ.1 71 15) x4 σ (fun r_11 σ_10 => ((r_11 = 0 → (vp_in (((3 : Int32) * x4) + (2 : Int32)) 24 ∧ (∀ x3_16 : Int32, x3_16 = (x3 ||| ((1 : Int32) <<< ((σ_10.1 82 ((((3 : Int32) * x4) + (2 : Int32))).toNatClampNeg) &&& 31))) → (∀ x4_17 : Int32, x4_17 = x4 + (1 : Int32) → vX9_toldIn_5 post ex x1 x2 n x3_16 x4_17 σ_10)))) ∧ (¬ r_11 = 0 → (∀ x3_13 : Int32, x3_13 = (x3 ||| (0 : Int32)) → (∀ x4_14 : Int32, x4_14 = x4 + (1 : Int32) → vX9_toldIn_5 post ex x1 x2 n x3_13 x4_14 σ_10))))))) ∧ (¬ (σ.1 82 ((((3 : Int32) * x4) + (1 : Int32))).toNatClampNeg) = x2 → (∀ x3_8 : Int32, x3_8 = (x3 ||| (0 : Int32)) → (∀ x4_9 : Int32, x4_9 = x4 + (1 : Int32) → vX9_toldIn_5 post ex x1 x2 n x3_8 x4_9 σ)))))) ∧ (¬ (σ.1 82 (((3 : Int32) * x4)).toNatClampNeg) = x1 → (∀ x3_4 : Int32, x3_4 = (x3 ||| (0 : Int32)) → (∀ x4_5 : Int32, x4_5 = x4 + (1 : Int32) → vX9_toldIn_5 post ex x1 x2 n x3_4 x4_5 σ)))))))
set_option maxHeartbeats 4000000 in
set_option maxRecDepth 100000 in
theorem tX9_toldIn_5 {G : GT} {post : Int32 → Hp → Prop} {ex : Int32 → Hp → Prop} {x1 : Int32} {x2 : Int32} (hex : ∀ (z3 : Int32) (τ : Hp), ex z3 τ → WP G mX9_toldIn 80 [(3, .int z3)] [] τ (LI post)) : ∀ (n : Nat) (x3 : Int32) (x4 : Int32) (σ : Hp), vX9_toldIn_5 post ex x1 x2 n x3 x4 σ → WP G mX9_toldIn 5 [(0, .ref (G.1 71)), (1, .int x1), (2, .int x2), (3, .int x3), (4, .int x4)] [] σ (LI post) := by
  intro n
  induction n with
  | zero => intro x3 x4 σ h; exact False.elim h
  | succ n ih =>
    intro x3 x4 σ h
    simp only [vX9_toldIn_5] at h
    refine wr_iload (pc := 5) (dget kX9_toldIn 4 rfl) 4 rfl ?_
    refine wr_aload_n (pc := 7) (dget kX9_toldIn 5 rfl) 0 rfl ?_
    refine wr_getI (pc := 8) (σ := σ) fl_X9_172 kd_71 fk_9_13 (dget kX9_toldIn 6 rfl) ?_
    refine wr_icmp_ge (pc := 11) (tgt := 80) (dget kX9_toldIn 7 rfl) (by decide) (fun c_1 => ?_) (fun c_1 => ?_)
    · have h := h.1 c_1
      refine wr_sub [3] rfl ?_
      exact hex _ _ h
    · have h := h.2 c_1
      refine wr_iload_n (pc := 14) (dget kX9_toldIn 8 rfl) 3 rfl ?_
      refine wr_aload_n (pc := 15) (dget kX9_toldIn 9 rfl) 0 rfl ?_
      refine wr_getRl (pc := 16) fl_X9_40 kd_71 fk_9_14 rt_71_14 (dget kX9_toldIn 10 rfl) ?_
      refine wr_iconst (pc := 19) (dget kX9_toldIn 11 rfl) ic_3 ?_
      refine wr_iload (pc := 20) (dget kX9_toldIn 12 rfl) 4 rfl ?_
      refine wr_imul (pc := 22) (dget kX9_toldIn 13 rfl) ?_
      obtain ⟨q_2, h⟩ := h
      refine wr_ialdl (pc := 23) (σ := σ) il_82 q_2 (dget kX9_toldIn 14 rfl) ?_
      refine wr_iload_n (pc := 24) (dget kX9_toldIn 15 rfl) 1 rfl ?_
      refine wr_icmp_ne (pc := 25) (tgt := 71) (dget kX9_toldIn 16 rfl) (by decide) (fun c_3 => ?_) (fun c_3 => ?_)
      · have h := h.2 c_3
        refine wr_iconst (pc := 71) (dget kX9_toldIn 43 rfl) ic_0 ?_
        refine wr_ior (pc := 72) (dget kX9_toldIn 44 rfl) ?_
        refine wr_topi (fun x3_4 e_x3_4 => ?_)
        have h := h x3_4 e_x3_4
        refine wr_istore_n (pc := 73) (lv' := [(3, .int x3_4), (0, .ref (G.1 71)), (1, .int x1), (2, .int x2), (4, .int x4)]) (dget kX9_toldIn 45 rfl) (by decide) rfl ?_
        obtain ⟨x4_5, e_x4_5⟩ : ∃ y : Int32, y = x4 + (1 : Int32) := ⟨_, rfl⟩
        have h := h x4_5 e_x4_5
        refine wr_iinc (pc := 74) (v := x4_5) (lv' := [(4, .int x4_5), (3, .int x3_4), (0, .ref (G.1 71)), (1, .int x1), (2, .int x2)]) (dget kX9_toldIn 46 rfl) 4 rfl (by rw [e_x4_5, ic_1]) (by decide) rfl ?_
        refine wr_goto (pc := 77) (tgt := 5) (dget kX9_toldIn 47 rfl) (by decide) ?_
        refine wr_sub [2, 3, 4, 1, 0] rfl ?_
        exact ih _ _ _ h
      · have h := h.1 c_3
        refine wr_aload_n (pc := 28) (dget kX9_toldIn 17 rfl) 0 rfl ?_
        refine wr_getRl (pc := 29) fl_X9_40 kd_71 fk_9_14 rt_71_14 (dget kX9_toldIn 18 rfl) ?_
        refine wr_iconst (pc := 32) (dget kX9_toldIn 19 rfl) ic_3 ?_
        refine wr_iload (pc := 33) (dget kX9_toldIn 20 rfl) 4 rfl ?_
        refine wr_imul (pc := 35) (dget kX9_toldIn 21 rfl) ?_
        refine wr_iconst (pc := 36) (dget kX9_toldIn 22 rfl) ic_1 ?_
        refine wr_iadd (pc := 37) (dget kX9_toldIn 23 rfl) ?_
        obtain ⟨q_6, h⟩ := h
        refine wr_ialdl (pc := 38) (σ := σ) il_82 q_6 (dget kX9_toldIn 24 rfl) ?_
        refine wr_iload_n (pc := 39) (dget kX9_toldIn 25 rfl) 2 rfl ?_
        refine wr_icmp_ne (pc := 40) (tgt := 71) (dget kX9_toldIn 26 rfl) (by decide) (fun c_7 => ?_) (fun c_7 => ?_)
        · have h := h.2 c_7
          refine wr_iconst (pc := 71) (dget kX9_toldIn 43 rfl) ic_0 ?_
          refine wr_ior (pc := 72) (dget kX9_toldIn 44 rfl) ?_
          refine wr_topi (fun x3_8 e_x3_8 => ?_)
          have h := h x3_8 e_x3_8
          refine wr_istore_n (pc := 73) (lv' := [(3, .int x3_8), (0, .ref (G.1 71)), (1, .int x1), (2, .int x2), (4, .int x4)]) (dget kX9_toldIn 45 rfl) (by decide) rfl ?_
          obtain ⟨x4_9, e_x4_9⟩ : ∃ y : Int32, y = x4 + (1 : Int32) := ⟨_, rfl⟩
          have h := h x4_9 e_x4_9
          refine wr_iinc (pc := 74) (v := x4_9) (lv' := [(4, .int x4_9), (3, .int x3_8), (0, .ref (G.1 71)), (1, .int x1), (2, .int x2)]) (dget kX9_toldIn 46 rfl) 4 rfl (by rw [e_x4_9, ic_1]) (by decide) rfl ?_
          refine wr_goto (pc := 77) (tgt := 5) (dget kX9_toldIn 47 rfl) (by decide) ?_
          refine wr_sub [2, 3, 4, 1, 0] rfl ?_
          exact ih _ _ _ h
        · have h := h.1 c_7
          refine wr_aload_n (pc := 43) (dget kX9_toldIn 27 rfl) 0 rfl ?_
          refine wr_getI (pc := 44) (σ := σ) fl_X9_177 kd_71 fk_9_15 (dget kX9_toldIn 28 rfl) ?_
          refine wr_iload (pc := 47) (dget kX9_toldIn 29 rfl) 4 rfl ?_
          refine wr_callSi (pc := 49) (Mc := mX9_isIn) (rest := [.int x3]) cf_X9_180 cs_X9_isIn ⟨Nat.le_of_ble_eq_true rfl, Nat.le_of_ble_eq_true rfl⟩ rfl rfl (Nat.le_of_ble_eq_true rfl) (dget kX9_toldIn 30 rfl) (tX9_isIn h) (fun r_11 σ_10 h => ?_)
          refine wr_if_ne (pc := 52) (tgt := 71) (dget kX9_toldIn 31 rfl) (by decide) (fun c_12 => ?_) (fun c_12 => ?_)
          · have h := h.2 c_12
            refine wr_iconst (pc := 71) (dget kX9_toldIn 43 rfl) ic_0 ?_
            refine wr_ior (pc := 72) (dget kX9_toldIn 44 rfl) ?_
            refine wr_topi (fun x3_13 e_x3_13 => ?_)
            have h := h x3_13 e_x3_13
            refine wr_istore_n (pc := 73) (lv' := [(3, .int x3_13), (0, .ref (G.1 71)), (1, .int x1), (2, .int x2), (4, .int x4)]) (dget kX9_toldIn 45 rfl) (by decide) rfl ?_
            obtain ⟨x4_14, e_x4_14⟩ : ∃ y : Int32, y = x4 + (1 : Int32) := ⟨_, rfl⟩
            have h := h x4_14 e_x4_14
            refine wr_iinc (pc := 74) (v := x4_14) (lv' := [(4, .int x4_14), (3, .int x3_13), (0, .ref (G.1 71)), (1, .int x1), (2, .int x2)]) (dget kX9_toldIn 46 rfl) 4 rfl (by rw [e_x4_14, ic_1]) (by decide) rfl ?_
            refine wr_goto (pc := 77) (tgt := 5) (dget kX9_toldIn 47 rfl) (by decide) ?_
            refine wr_sub [2, 3, 4, 1, 0] rfl ?_
            exact ih _ _ _ h
          · have h := h.1 c_12
            refine wr_iconst (pc := 55) (dget kX9_toldIn 32 rfl) ic_1 ?_
            refine wr_aload_n (pc := 56) (dget kX9_toldIn 33 rfl) 0 rfl ?_
            refine wr_getRl (pc := 57) fl_X9_40 kd_71 fk_9_14 rt_71_14 (dget kX9_toldIn 34 rfl) ?_
            refine wr_iconst (pc := 60) (dget kX9_toldIn 35 rfl) ic_3 ?_
            refine wr_iload (pc := 61) (dget kX9_toldIn 36 rfl) 4 rfl ?_
            refine wr_imul (pc := 63) (dget kX9_toldIn 37 rfl) ?_
            refine wr_iconst (pc := 64) (dget kX9_toldIn 38 rfl) ic_2 ?_
            refine wr_iadd (pc := 65) (dget kX9_toldIn 39 rfl) ?_
            obtain ⟨q_15, h⟩ := h
            refine wr_ialdl (pc := 66) (σ := σ_10) il_82 q_15 (dget kX9_toldIn 40 rfl) ?_
            refine wr_ishl (pc := 67) (dget kX9_toldIn 41 rfl) ?_
            refine wr_goto (pc := 68) (tgt := 72) (dget kX9_toldIn 42 rfl) (by decide) ?_
            refine wr_ior (pc := 72) (dget kX9_toldIn 44 rfl) ?_
            refine wr_topi (fun x3_16 e_x3_16 => ?_)
            have h := h x3_16 e_x3_16
            refine wr_istore_n (pc := 73) (lv' := [(3, .int x3_16), (0, .ref (G.1 71)), (1, .int x1), (2, .int x2), (4, .int x4)]) (dget kX9_toldIn 45 rfl) (by decide) rfl ?_
            obtain ⟨x4_17, e_x4_17⟩ : ∃ y : Int32, y = x4 + (1 : Int32) := ⟨_, rfl⟩
            have h := h x4_17 e_x4_17
            refine wr_iinc (pc := 74) (v := x4_17) (lv' := [(4, .int x4_17), (3, .int x3_16), (0, .ref (G.1 71)), (1, .int x1), (2, .int x2)]) (dget kX9_toldIn 46 rfl) 4 rfl (by rw [e_x4_17, ic_1]) (by decide) rfl ?_
            refine wr_goto (pc := 77) (tgt := 5) (dget kX9_toldIn 47 rfl) (by decide) ?_
            refine wr_sub [2, 3, 4, 1, 0] rfl ?_
            exact ih _ _ _ h
def vX9_toldIn (p1 : Int32) (p2 : Int32) (σ : Hp) (post : Int32 → Hp → Prop) : Prop := (∃ fu : Nat, vX9_toldIn_5 post (fun z3_1 σ_2 => post z3_1 σ_2) p1 p2 fu (0 : Int32) (0 : Int32) σ)
set_option maxHeartbeats 4000000 in
set_option maxRecDepth 100000 in
theorem tX9_toldIn {G : GT} {p1 : Int32} {p2 : Int32} {σ : Hp} {post : Int32 → Hp → Prop} (h : vX9_toldIn p1 p2 σ post) : CT G mX9_toldIn [.ref (G.1 71), .int p1, .int p2] σ (LI post) := by
  refine CT.of (by decide +kernel) (Nat.le_of_ble_eq_true rfl) ?_
  show WP G mX9_toldIn 0 [(0, .ref (G.1 71)), (1, .int p1), (2, .int p2)] [] σ (LI post)
  unfold vX9_toldIn at h
  refine wr_iconst (pc := 0) (dget kX9_toldIn 0 rfl) ic_0 ?_
  refine wr_istore_n (pc := 1) (lv' := [(3, .int (0 : Int32)), (0, .ref (G.1 71)), (1, .int p1), (2, .int p2)]) (dget kX9_toldIn 1 rfl) (by decide) rfl ?_
  refine wr_iconst (pc := 2) (dget kX9_toldIn 2 rfl) ic_0 ?_
  refine wr_istore (pc := 3) (lv' := [(4, .int (0 : Int32)), (3, .int (0 : Int32)), (0, .ref (G.1 71)), (1, .int p1), (2, .int p2)]) (dget kX9_toldIn 3 rfl) (by decide) rfl ?_
  obtain ⟨fu, h⟩ := h
  refine wr_sub [2, 3, 4, 1, 0] rfl ?_
  refine tX9_toldIn_5 (fun z3_1 σ_2 h => ?_) fu _ _ _ h
  refine wr_iload_n (pc := 80) (dget kX9_toldIn 48 rfl) 0 rfl ?_
  exact wr_iret (pc := 81) rfl (dget kX9_toldIn 49 rfl) ⟨_, rfl, h⟩
def vX9_turns_83 (post : Hp → Prop) (ex : Hp → Prop) (rc : Int32 → Hp → Prop) (x2 : Int32) (x3 : Int32) (x4 : Int32) (y0 : Int32) (y1 : Int32) (σ : Hp) : Prop := (vp_in y1 12 ∧ ∀ σ_2 : Hp, σ_2 = wI σ 83 y1.toNatClampNeg y0 → (vp_in x4 12 ∧ (((5 : Int32) < (σ_2.1 83 x4.toNatClampNeg) → (vp_in x4 12 ∧ ∀ σ_6 : Hp, σ_6 = wI σ_2 84 x4.toNatClampNeg (0 : Int32) → (∀ x4_7 : Int32, x4_7 = x4 + (1 : Int32) → (rc x4_7 σ_6)))) ∧ (¬ (5 : Int32) < (σ_2.1 83 x4.toNatClampNeg) → (vX9_isIn x3 x4 σ_2 (fun r_9 σ_8 => ((r_9 = 0 → (vp_in x4 12 ∧ (vp_in x4 12 ∧ ∀ σ_13 : Hp, σ_13 = wI σ_8 84 x4.toNatClampNeg (σ_8.1 84 x4.toNatClampNeg) → (∀ x4_14 : Int32, x4_14 = x4 + (1 : Int32) → (rc x4_14 σ_13))))) ∧ (¬ r_9 = 0 → (vp_in x4 12 ∧ ∀ σ_16 : Hp, σ_16 = wI σ_8 84 x4.toNatClampNeg (0 : Int32) → (∀ x4_17 : Int32, x4_17 = x4 + (1 : Int32) → (rc x4_17 σ_16)))))))))))
set_option maxHeartbeats 4000000 in
set_option maxRecDepth 100000 in
theorem tX9_turns_83 {G : GT} {post : Hp → Prop} {ex : Hp → Prop} {rc : Int32 → Hp → Prop} {x2 : Int32} {x3 : Int32} {x4 : Int32} {y0 : Int32} {y1 : Int32} {σ : Hp} (hex : ∀  (τ : Hp), ex  τ → WP G mX9_turns 128 [] [] τ (LV post)) (hrc : ∀ (z4 : Int32) (τ : Hp), rc z4 τ → WP G mX9_turns 17 [(0, .ref (G.1 71)), (2, .int x2), (3, .int x3), (4, .int z4)] [] τ (LV post)) (h : vX9_turns_83 post ex rc x2 x3 x4 y0 y1 σ) : WP G mX9_turns 83 [(0, .ref (G.1 71)), (2, .int x2), (3, .int x3), (4, .int x4)] [.int y0, .int y1, .ref (G.1 83)] σ (LV post) := by
  unfold vX9_turns_83 at h
  obtain ⟨q_1, h⟩ := h
  refine wr_iastl (pc := 83) il_83 q_1 (dget kX9_turns 48 rfl) ?_
  refine wr_tops (fun σ_2 e_σ_2 => ?_)
  have h := h σ_2 e_σ_2
  refine wr_aload_n (pc := 84) (dget kX9_turns 49 rfl) 0 rfl ?_
  refine wr_getRl (pc := 85) fl_X9_46 kd_71 fk_9_17 rt_71_17 (dget kX9_turns 50 rfl) ?_
  refine wr_iload (pc := 88) (dget kX9_turns 51 rfl) 3 rfl ?_
  refine wr_aload_n (pc := 90) (dget kX9_turns 52 rfl) 0 rfl ?_
  refine wr_getRl (pc := 91) fl_X9_43 kd_71 fk_9_16 rt_71_16 (dget kX9_turns 53 rfl) ?_
  refine wr_iload (pc := 94) (dget kX9_turns 54 rfl) 3 rfl ?_
  obtain ⟨q_3, h⟩ := h
  refine wr_ialdl (pc := 96) (σ := σ_2) il_83 q_3 (dget kX9_turns 55 rfl) ?_
  refine wr_iconst (pc := 97) (dget kX9_turns 56 rfl) ic_5 ?_
  refine wr_icmp_gt (pc := 98) (tgt := 110) (dget kX9_turns 57 rfl) (by decide) (fun c_4 => ?_) (fun c_4 => ?_)
  · have h := h.1 c_4
    refine wr_iconst (pc := 110) (dget kX9_turns 62 rfl) ic_0 ?_
    refine wr_goto (pc := 111) (tgt := 121) (dget kX9_turns 63 rfl) (by decide) ?_
    obtain ⟨q_5, h⟩ := h
    refine wr_iastl (pc := 121) il_84 q_5 (dget kX9_turns 68 rfl) ?_
    refine wr_tops (fun σ_6 e_σ_6 => ?_)
    have h := h σ_6 e_σ_6
    obtain ⟨x4_7, e_x4_7⟩ : ∃ y : Int32, y = x4 + (1 : Int32) := ⟨_, rfl⟩
    have h := h x4_7 e_x4_7
    refine wr_iinc (pc := 122) (v := x4_7) (lv' := [(4, .int x4_7), (0, .ref (G.1 71)), (2, .int x2), (3, .int x3)]) (dget kX9_turns 69 rfl) 3 rfl (by rw [e_x4_7, ic_1]) (by decide) rfl ?_
    refine wr_goto (pc := 125) (tgt := 17) (dget kX9_turns 70 rfl) (by decide) ?_
    refine wr_sub [1, 2, 3, 0] rfl ?_
    exact hrc _ _ h
  · have h := h.2 c_4
    refine wr_iload_n (pc := 101) (dget kX9_turns 58 rfl) 2 rfl ?_
    refine wr_iload (pc := 102) (dget kX9_turns 59 rfl) 3 rfl ?_
    refine wr_callSi (pc := 104) (Mc := mX9_isIn) (rest := [.int x4, .ref (G.1 84)]) cf_X9_180 cs_X9_isIn ⟨Nat.le_of_ble_eq_true rfl, Nat.le_of_ble_eq_true rfl⟩ rfl rfl (Nat.le_of_ble_eq_true rfl) (dget kX9_turns 60 rfl) (tX9_isIn h) (fun r_9 σ_8 h => ?_)
    refine wr_if_eq (pc := 107) (tgt := 114) (dget kX9_turns 61 rfl) (by decide) (fun c_10 => ?_) (fun c_10 => ?_)
    · have h := h.1 c_10
      refine wr_aload_n (pc := 114) (dget kX9_turns 64 rfl) 0 rfl ?_
      refine wr_getRl (pc := 115) fl_X9_46 kd_71 fk_9_17 rt_71_17 (dget kX9_turns 65 rfl) ?_
      refine wr_iload (pc := 118) (dget kX9_turns 66 rfl) 3 rfl ?_
      obtain ⟨q_11, h⟩ := h
      refine wr_ialdl (pc := 120) (σ := σ_8) il_84 q_11 (dget kX9_turns 67 rfl) ?_
      obtain ⟨q_12, h⟩ := h
      refine wr_iastl (pc := 121) il_84 q_12 (dget kX9_turns 68 rfl) ?_
      refine wr_tops (fun σ_13 e_σ_13 => ?_)
      have h := h σ_13 e_σ_13
      obtain ⟨x4_14, e_x4_14⟩ : ∃ y : Int32, y = x4 + (1 : Int32) := ⟨_, rfl⟩
      have h := h x4_14 e_x4_14
      refine wr_iinc (pc := 122) (v := x4_14) (lv' := [(4, .int x4_14), (0, .ref (G.1 71)), (2, .int x2), (3, .int x3)]) (dget kX9_turns 69 rfl) 3 rfl (by rw [e_x4_14, ic_1]) (by decide) rfl ?_
      refine wr_goto (pc := 125) (tgt := 17) (dget kX9_turns 70 rfl) (by decide) ?_
      refine wr_sub [1, 2, 3, 0] rfl ?_
      exact hrc _ _ h
    · have h := h.2 c_10
      refine wr_iconst (pc := 110) (dget kX9_turns 62 rfl) ic_0 ?_
      refine wr_goto (pc := 111) (tgt := 121) (dget kX9_turns 63 rfl) (by decide) ?_
      obtain ⟨q_15, h⟩ := h
      refine wr_iastl (pc := 121) il_84 q_15 (dget kX9_turns 68 rfl) ?_
      refine wr_tops (fun σ_16 e_σ_16 => ?_)
      have h := h σ_16 e_σ_16
      obtain ⟨x4_17, e_x4_17⟩ : ∃ y : Int32, y = x4 + (1 : Int32) := ⟨_, rfl⟩
      have h := h x4_17 e_x4_17
      refine wr_iinc (pc := 122) (v := x4_17) (lv' := [(4, .int x4_17), (0, .ref (G.1 71)), (2, .int x2), (3, .int x3)]) (dget kX9_turns 69 rfl) 3 rfl (by rw [e_x4_17, ic_1]) (by decide) rfl ?_
      refine wr_goto (pc := 125) (tgt := 17) (dget kX9_turns 70 rfl) (by decide) ?_
      refine wr_sub [1, 2, 3, 0] rfl ?_
      exact hrc _ _ h
def vX9_turns_17 (post : Hp → Prop) (ex : Hp → Prop) (x2 : Int32) (x3 : Int32) : Nat → Int32 → Hp → Prop
  | 0 => fun _ _ => False
  | n + 1 => fun x4 σ => (((σ.1 71 8) ≤ x4 → (ex σ)) ∧ (¬ (σ.1 71 8) ≤ x4 → (vp_in ((4 : Int32) * x4) 48 ∧ (∀ x5_3 : Int32, x5_3 = (σ.1 79 (((4 : Int32) * x4)).toNatClampNeg) → (vX9_isIn x2 x5_3 σ (fun r_5 σ_4 => ((r_5 = 0 → (vp_in x4 12 ∧ (vp_in x5_3 3 ∧ vX9_turns_83 post ex (vX9_turns_17 post ex x2 x3 n) x2 x3 x4 ((((σ_4.1 83 x4.toNatClampNeg) + (σ_4.1 78 x5_3.toNatClampNeg)) + (12 : Int32)) - (((σ_4.1 83 x4.toNatClampNeg) + (σ_4.1 78 x5_3.toNatClampNeg)) + (12 : Int32)) / (12 : Int32) * (12 : Int32)) x4 σ_4))) ∧ (¬ r_5 = 0 → (vp_in x4 12 ∧ vX9_turns_83 post ex (vX9_turns_17 post ex x2 x3 n) x2 x3 x4 (σ_4.1 83 x4.toNatClampNeg) x4 σ_4)))))))))
set_option maxHeartbeats 4000000 in
set_option maxRecDepth 100000 in
theorem tX9_turns_17 {G : GT} {post : Hp → Prop} {ex : Hp → Prop} {x2 : Int32} {x3 : Int32} (hex : ∀  (τ : Hp), ex  τ → WP G mX9_turns 128 [] [] τ (LV post)) : ∀ (n : Nat) (x4 : Int32) (σ : Hp), vX9_turns_17 post ex x2 x3 n x4 σ → WP G mX9_turns 17 [(0, .ref (G.1 71)), (2, .int x2), (3, .int x3), (4, .int x4)] [] σ (LV post) := by
  intro n
  induction n with
  | zero => intro x4 σ h; exact False.elim h
  | succ n ih =>
    intro x4 σ h
    simp only [vX9_turns_17] at h
    refine wr_iload (pc := 17) (dget kX9_turns 12 rfl) 3 rfl ?_
    refine wr_aload_n (pc := 19) (dget kX9_turns 13 rfl) 0 rfl ?_
    refine wr_getI (pc := 20) (σ := σ) fl_X9_123 kd_71 fk_9_8 (dget kX9_turns 14 rfl) ?_
    refine wr_icmp_ge (pc := 23) (tgt := 128) (dget kX9_turns 15 rfl) (by decide) (fun c_1 => ?_) (fun c_1 => ?_)
    · have h := h.1 c_1
      refine wr_sub [] rfl ?_
      exact hex  _ h
    · have h := h.2 c_1
      refine wr_aload_n (pc := 26) (dget kX9_turns 16 rfl) 0 rfl ?_
      refine wr_getRl (pc := 27) fl_X9_31 kd_71 fk_9_9 rt_71_9 (dget kX9_turns 17 rfl) ?_
      refine wr_iconst (pc := 30) (dget kX9_turns 18 rfl) ic_4 ?_
      refine wr_iload (pc := 31) (dget kX9_turns 19 rfl) 3 rfl ?_
      refine wr_imul (pc := 33) (dget kX9_turns 20 rfl) ?_
      obtain ⟨q_2, h⟩ := h
      refine wr_ialdl (pc := 34) (σ := σ) il_79 q_2 (dget kX9_turns 21 rfl) ?_
      refine wr_topi (fun x5_3 e_x5_3 => ?_)
      have h := h x5_3 e_x5_3
      refine wr_istore (pc := 35) (lv' := [(5, .int x5_3), (0, .ref (G.1 71)), (2, .int x2), (3, .int x3), (4, .int x4)]) (dget kX9_turns 22 rfl) (by decide) rfl ?_
      refine wr_aload_n (pc := 37) (dget kX9_turns 23 rfl) 1 rfl ?_
      refine wr_getRl (pc := 38) fl_X9_43 kd_71 fk_9_16 rt_71_16 (dget kX9_turns 24 rfl) ?_
      refine wr_iload (pc := 41) (dget kX9_turns 25 rfl) 4 rfl ?_
      refine wr_iload_n (pc := 43) (dget kX9_turns 26 rfl) 2 rfl ?_
      refine wr_iload (pc := 44) (dget kX9_turns 27 rfl) 0 rfl ?_
      refine wr_callSi (pc := 46) (Mc := mX9_isIn) (rest := [.int x4, .ref (G.1 83)]) cf_X9_180 cs_X9_isIn ⟨Nat.le_of_ble_eq_true rfl, Nat.le_of_ble_eq_true rfl⟩ rfl rfl (Nat.le_of_ble_eq_true rfl) (dget kX9_turns 28 rfl) (tX9_isIn h) (fun r_5 σ_4 h => ?_)
      refine wr_if_eq (pc := 49) (tgt := 62) (dget kX9_turns 29 rfl) (by decide) (fun c_6 => ?_) (fun c_6 => ?_)
      · have h := h.1 c_6
        refine wr_aload_n (pc := 62) (dget kX9_turns 35 rfl) 1 rfl ?_
        refine wr_getRl (pc := 63) fl_X9_43 kd_71 fk_9_16 rt_71_16 (dget kX9_turns 36 rfl) ?_
        refine wr_iload (pc := 66) (dget kX9_turns 37 rfl) 4 rfl ?_
        obtain ⟨q_7, h⟩ := h
        refine wr_ialdl (pc := 68) (σ := σ_4) il_83 q_7 (dget kX9_turns 38 rfl) ?_
        refine wr_aload_n (pc := 69) (dget kX9_turns 39 rfl) 1 rfl ?_
        refine wr_getRl (pc := 70) fl_X9_28 kd_71 fk_9_7 rt_71_7 (dget kX9_turns 40 rfl) ?_
        refine wr_iload (pc := 73) (dget kX9_turns 41 rfl) 0 rfl ?_
        obtain ⟨q_8, h⟩ := h
        refine wr_ialdl (pc := 75) (σ := σ_4) il_78 q_8 (dget kX9_turns 42 rfl) ?_
        refine wr_iadd (pc := 76) (dget kX9_turns 43 rfl) ?_
        refine wr_bipush (pc := 77) (dget kX9_turns 44 rfl) bp_12 ?_
        refine wr_iadd (pc := 79) (dget kX9_turns 45 rfl) ?_
        refine wr_bipush (pc := 80) (dget kX9_turns 46 rfl) bp_12 ?_
        refine wr_irem (pc := 82) (dget kX9_turns 47 rfl) (by decide) ?_
        refine wr_sub [1, 2, 3, 4] rfl ?_
        exact tX9_turns_83 hex ih h
      · have h := h.2 c_6
        refine wr_aload_n (pc := 52) (dget kX9_turns 30 rfl) 1 rfl ?_
        refine wr_getRl (pc := 53) fl_X9_43 kd_71 fk_9_16 rt_71_16 (dget kX9_turns 31 rfl) ?_
        refine wr_iload (pc := 56) (dget kX9_turns 32 rfl) 4 rfl ?_
        obtain ⟨q_9, h⟩ := h
        refine wr_ialdl (pc := 58) (σ := σ_4) il_83 q_9 (dget kX9_turns 33 rfl) ?_
        refine wr_goto (pc := 59) (tgt := 83) (dget kX9_turns 34 rfl) (by decide) ?_
        refine wr_sub [1, 2, 3, 4] rfl ?_
        exact tX9_turns_83 hex ih h
def vX9_turns (p1 : Int32) (σ : Hp) (post : Hp → Prop) : Prop := (vX9_toldIn (0 : Int32) p1 σ (fun r_2 σ_1 => (vX9_toldIn (2 : Int32) p1 σ_1 (fun r_4 σ_3 => (∃ fu : Nat, vX9_turns_17 post (fun σ_5 => post σ_5) r_2 r_4 fu (0 : Int32) σ_3)))))
set_option maxHeartbeats 4000000 in
set_option maxRecDepth 100000 in
theorem tX9_turns {G : GT} {p1 : Int32} {σ : Hp} {post : Hp → Prop} (h : vX9_turns p1 σ post) : CT G mX9_turns [.ref (G.1 71), .int p1] σ (LV post) := by
  refine CT.of (by decide +kernel) (Nat.le_of_ble_eq_true rfl) ?_
  show WP G mX9_turns 0 [(0, .ref (G.1 71)), (1, .int p1)] [] σ (LV post)
  unfold vX9_turns at h
  refine wr_aload_n (pc := 0) (dget kX9_turns 0 rfl) 0 rfl ?_
  refine wr_iconst (pc := 1) (dget kX9_turns 1 rfl) ic_0 ?_
  refine wr_iload_n (pc := 2) (dget kX9_turns 2 rfl) 1 rfl ?_
  refine wr_callVi (pc := 3) (Mc := mX9_toldIn) (o := 71) (rest := []) cf_X9_184 cv_X9_toldIn kd_71 rfl ⟨Nat.le_of_ble_eq_true rfl, Nat.le_of_ble_eq_true rfl⟩ rfl rfl (Nat.le_of_ble_eq_true rfl) (dget kX9_turns 3 rfl) (tX9_toldIn h) (fun r_2 σ_1 h => ?_)
  refine wr_istore_n (pc := 6) (lv' := [(2, .int r_2), (0, .ref (G.1 71)), (1, .int p1)]) (dget kX9_turns 4 rfl) (by decide) rfl ?_
  refine wr_aload_n (pc := 7) (dget kX9_turns 5 rfl) 1 rfl ?_
  refine wr_iconst (pc := 8) (dget kX9_turns 6 rfl) ic_2 ?_
  refine wr_iload_n (pc := 9) (dget kX9_turns 7 rfl) 2 rfl ?_
  refine wr_callVi (pc := 10) (Mc := mX9_toldIn) (o := 71) (rest := []) cf_X9_184 cv_X9_toldIn kd_71 rfl ⟨Nat.le_of_ble_eq_true rfl, Nat.le_of_ble_eq_true rfl⟩ rfl rfl (Nat.le_of_ble_eq_true rfl) (dget kX9_turns 8 rfl) (tX9_toldIn h) (fun r_4 σ_3 h => ?_)
  refine wr_istore_n (pc := 13) (lv' := [(3, .int r_4), (2, .int r_2), (0, .ref (G.1 71)), (1, .int p1)]) (dget kX9_turns 9 rfl) (by decide) rfl ?_
  refine wr_iconst (pc := 14) (dget kX9_turns 10 rfl) ic_0 ?_
  refine wr_istore (pc := 15) (lv' := [(4, .int (0 : Int32)), (3, .int r_4), (2, .int r_2), (0, .ref (G.1 71)), (1, .int p1)]) (dget kX9_turns 11 rfl) (by decide) rfl ?_
  obtain ⟨fu, h⟩ := h
  refine wr_sub [3, 2, 1, 0] rfl ?_
  refine tX9_turns_17 (fun σ_5 h => ?_) fu _ _ h
  exact wr_vret (pc := 128) rfl (dget kX9_turns 71 rfl) ⟨rfl, h⟩
def vX9_target_5 (post : Int32 → Hp → Prop) (ex : Int32 → Hp → Prop) (x1 : Int32) (x2 : Int32) : Nat → Int32 → Int32 → Hp → Prop
  | 0 => fun _ _ _ => False
  | n + 1 => fun x3 x4 σ => (((σ.1 71 8) ≤ x4 → (ex x3 σ)) ∧ (¬ (σ.1 71 8) ≤ x4 → (vp_in ((4 : Int32) * x4) 48 ∧ (((σ.1 79 (((4 : Int32) * x4)).toNatClampNeg) = x1 → (vp_in x4 12 ∧ (((σ.1 83 x4.toNatClampNeg) = x2 → (vp_in x4 12 ∧ (((σ.1 84 x4.toNatClampNeg) = (2 : Int32) → (∀ x4_10 : Int32, x4_10 = x4 + (1 : Int32) → vX9_target_5 post ex x1 x2 n x3 x4_10 σ)) ∧ (¬ (σ.1 84 x4.toNatClampNeg) = (2 : Int32) → (∀ x4_11 : Int32, x4_11 = x4 + (1 : Int32) → vX9_target_5 post ex x1 x2 n x4 x4_11 σ))))) ∧ (¬ (σ.1 83 x4.toNatClampNeg) = x2 → (∀ x4_7 : Int32, x4_7 = x4 + (1 : Int32) → vX9_target_5 post ex x1 x2 n x3 x4_7 σ))))) ∧ (¬ (σ.1 79 (((4 : Int32) * x4)).toNatClampNeg) = x1 → (∀ x4_4 : Int32, x4_4 = x4 + (1 : Int32) → vX9_target_5 post ex x1 x2 n x3 x4_4 σ))))))
set_option maxHeartbeats 4000000 in
set_option maxRecDepth 100000 in
theorem tX9_target_5 {G : GT} {post : Int32 → Hp → Prop} {ex : Int32 → Hp → Prop} {x1 : Int32} {x2 : Int32} (hex : ∀ (z3 : Int32) (τ : Hp), ex z3 τ → WP G mX9_target 62 [(3, .int z3)] [] τ (LI post)) : ∀ (n : Nat) (x3 : Int32) (x4 : Int32) (σ : Hp), vX9_target_5 post ex x1 x2 n x3 x4 σ → WP G mX9_target 5 [(0, .ref (G.1 71)), (1, .int x1), (2, .int x2), (3, .int x3), (4, .int x4)] [] σ (LI post) := by
  intro n
  induction n with
  | zero => intro x3 x4 σ h; exact False.elim h
  | succ n ih =>
    intro x3 x4 σ h
    simp only [vX9_target_5] at h
    refine wr_iload (pc := 5) (dget kX9_target 4 rfl) 4 rfl ?_
    refine wr_aload_n (pc := 7) (dget kX9_target 5 rfl) 0 rfl ?_
    refine wr_getI (pc := 8) (σ := σ) fl_X9_123 kd_71 fk_9_8 (dget kX9_target 6 rfl) ?_
    refine wr_icmp_ge (pc := 11) (tgt := 62) (dget kX9_target 7 rfl) (by decide) (fun c_1 => ?_) (fun c_1 => ?_)
    · have h := h.1 c_1
      refine wr_sub [3] rfl ?_
      exact hex _ _ h
    · have h := h.2 c_1
      refine wr_aload_n (pc := 14) (dget kX9_target 8 rfl) 0 rfl ?_
      refine wr_getRl (pc := 15) fl_X9_31 kd_71 fk_9_9 rt_71_9 (dget kX9_target 9 rfl) ?_
      refine wr_iconst (pc := 18) (dget kX9_target 10 rfl) ic_4 ?_
      refine wr_iload (pc := 19) (dget kX9_target 11 rfl) 4 rfl ?_
      refine wr_imul (pc := 21) (dget kX9_target 12 rfl) ?_
      obtain ⟨q_2, h⟩ := h
      refine wr_ialdl (pc := 22) (σ := σ) il_79 q_2 (dget kX9_target 13 rfl) ?_
      refine wr_iload_n (pc := 23) (dget kX9_target 14 rfl) 1 rfl ?_
      refine wr_icmp_ne (pc := 24) (tgt := 54) (dget kX9_target 15 rfl) (by decide) (fun c_3 => ?_) (fun c_3 => ?_)
      · have h := h.2 c_3
        refine wr_iload_n (pc := 54) (dget kX9_target 30 rfl) 3 rfl ?_
        refine wr_istore_n (pc := 55) (lv' := [(3, .int x3), (0, .ref (G.1 71)), (1, .int x1), (2, .int x2), (4, .int x4)]) (dget kX9_target 31 rfl) (by decide) rfl ?_
        obtain ⟨x4_4, e_x4_4⟩ : ∃ y : Int32, y = x4 + (1 : Int32) := ⟨_, rfl⟩
        have h := h x4_4 e_x4_4
        refine wr_iinc (pc := 56) (v := x4_4) (lv' := [(4, .int x4_4), (3, .int x3), (0, .ref (G.1 71)), (1, .int x1), (2, .int x2)]) (dget kX9_target 32 rfl) 4 rfl (by rw [e_x4_4, ic_1]) (by decide) rfl ?_
        refine wr_goto (pc := 59) (tgt := 5) (dget kX9_target 33 rfl) (by decide) ?_
        refine wr_sub [2, 3, 4, 1, 0] rfl ?_
        exact ih _ _ _ h
      · have h := h.1 c_3
        refine wr_aload_n (pc := 27) (dget kX9_target 16 rfl) 0 rfl ?_
        refine wr_getRl (pc := 28) fl_X9_43 kd_71 fk_9_16 rt_71_16 (dget kX9_target 17 rfl) ?_
        refine wr_iload (pc := 31) (dget kX9_target 18 rfl) 4 rfl ?_
        obtain ⟨q_5, h⟩ := h
        refine wr_ialdl (pc := 33) (σ := σ) il_83 q_5 (dget kX9_target 19 rfl) ?_
        refine wr_iload_n (pc := 34) (dget kX9_target 20 rfl) 2 rfl ?_
        refine wr_icmp_ne (pc := 35) (tgt := 54) (dget kX9_target 21 rfl) (by decide) (fun c_6 => ?_) (fun c_6 => ?_)
        · have h := h.2 c_6
          refine wr_iload_n (pc := 54) (dget kX9_target 30 rfl) 3 rfl ?_
          refine wr_istore_n (pc := 55) (lv' := [(3, .int x3), (0, .ref (G.1 71)), (1, .int x1), (2, .int x2), (4, .int x4)]) (dget kX9_target 31 rfl) (by decide) rfl ?_
          obtain ⟨x4_7, e_x4_7⟩ : ∃ y : Int32, y = x4 + (1 : Int32) := ⟨_, rfl⟩
          have h := h x4_7 e_x4_7
          refine wr_iinc (pc := 56) (v := x4_7) (lv' := [(4, .int x4_7), (3, .int x3), (0, .ref (G.1 71)), (1, .int x1), (2, .int x2)]) (dget kX9_target 32 rfl) 4 rfl (by rw [e_x4_7, ic_1]) (by decide) rfl ?_
          refine wr_goto (pc := 59) (tgt := 5) (dget kX9_target 33 rfl) (by decide) ?_
          refine wr_sub [2, 3, 4, 1, 0] rfl ?_
          exact ih _ _ _ h
        · have h := h.1 c_6
          refine wr_aload_n (pc := 38) (dget kX9_target 22 rfl) 0 rfl ?_
          refine wr_getRl (pc := 39) fl_X9_46 kd_71 fk_9_17 rt_71_17 (dget kX9_target 23 rfl) ?_
          refine wr_iload (pc := 42) (dget kX9_target 24 rfl) 4 rfl ?_
          obtain ⟨q_8, h⟩ := h
          refine wr_ialdl (pc := 44) (σ := σ) il_84 q_8 (dget kX9_target 25 rfl) ?_
          refine wr_iconst (pc := 45) (dget kX9_target 26 rfl) ic_2 ?_
          refine wr_icmp_eq (pc := 46) (tgt := 54) (dget kX9_target 27 rfl) (by decide) (fun c_9 => ?_) (fun c_9 => ?_)
          · have h := h.1 c_9
            refine wr_iload_n (pc := 54) (dget kX9_target 30 rfl) 3 rfl ?_
            refine wr_istore_n (pc := 55) (lv' := [(3, .int x3), (0, .ref (G.1 71)), (1, .int x1), (2, .int x2), (4, .int x4)]) (dget kX9_target 31 rfl) (by decide) rfl ?_
            obtain ⟨x4_10, e_x4_10⟩ : ∃ y : Int32, y = x4 + (1 : Int32) := ⟨_, rfl⟩
            have h := h x4_10 e_x4_10
            refine wr_iinc (pc := 56) (v := x4_10) (lv' := [(4, .int x4_10), (3, .int x3), (0, .ref (G.1 71)), (1, .int x1), (2, .int x2)]) (dget kX9_target 32 rfl) 4 rfl (by rw [e_x4_10, ic_1]) (by decide) rfl ?_
            refine wr_goto (pc := 59) (tgt := 5) (dget kX9_target 33 rfl) (by decide) ?_
            refine wr_sub [2, 3, 4, 1, 0] rfl ?_
            exact ih _ _ _ h
          · have h := h.2 c_9
            refine wr_iload (pc := 49) (dget kX9_target 28 rfl) 4 rfl ?_
            refine wr_goto (pc := 51) (tgt := 55) (dget kX9_target 29 rfl) (by decide) ?_
            refine wr_istore_n (pc := 55) (lv' := [(3, .int x4), (0, .ref (G.1 71)), (1, .int x1), (2, .int x2), (4, .int x4)]) (dget kX9_target 31 rfl) (by decide) rfl ?_
            obtain ⟨x4_11, e_x4_11⟩ : ∃ y : Int32, y = x4 + (1 : Int32) := ⟨_, rfl⟩
            have h := h x4_11 e_x4_11
            refine wr_iinc (pc := 56) (v := x4_11) (lv' := [(4, .int x4_11), (3, .int x4), (0, .ref (G.1 71)), (1, .int x1), (2, .int x2)]) (dget kX9_target 32 rfl) 4 rfl (by rw [e_x4_11, ic_1]) (by decide) rfl ?_
            refine wr_goto (pc := 59) (tgt := 5) (dget kX9_target 33 rfl) (by decide) ?_
            refine wr_sub [2, 3, 4, 1, 0] rfl ?_
            exact ih _ _ _ h
def vX9_target (p1 : Int32) (p2 : Int32) (σ : Hp) (post : Int32 → Hp → Prop) : Prop := (∃ fu : Nat, vX9_target_5 post (fun z3_1 σ_2 => post z3_1 σ_2) p1 p2 fu (-1 : Int32) (0 : Int32) σ)
set_option maxHeartbeats 4000000 in
set_option maxRecDepth 100000 in
theorem tX9_target {G : GT} {p1 : Int32} {p2 : Int32} {σ : Hp} {post : Int32 → Hp → Prop} (h : vX9_target p1 p2 σ post) : CT G mX9_target [.ref (G.1 71), .int p1, .int p2] σ (LI post) := by
  refine CT.of (by decide +kernel) (Nat.le_of_ble_eq_true rfl) ?_
  show WP G mX9_target 0 [(0, .ref (G.1 71)), (1, .int p1), (2, .int p2)] [] σ (LI post)
  unfold vX9_target at h
  refine wr_iconst (pc := 0) (dget kX9_target 0 rfl) ic_m1 ?_
  refine wr_istore_n (pc := 1) (lv' := [(3, .int (-1 : Int32)), (0, .ref (G.1 71)), (1, .int p1), (2, .int p2)]) (dget kX9_target 1 rfl) (by decide) rfl ?_
  refine wr_iconst (pc := 2) (dget kX9_target 2 rfl) ic_0 ?_
  refine wr_istore (pc := 3) (lv' := [(4, .int (0 : Int32)), (3, .int (-1 : Int32)), (0, .ref (G.1 71)), (1, .int p1), (2, .int p2)]) (dget kX9_target 3 rfl) (by decide) rfl ?_
  obtain ⟨fu, h⟩ := h
  refine wr_sub [2, 3, 4, 1, 0] rfl ?_
  refine tX9_target_5 (fun z3_1 σ_2 h => ?_) fu _ _ _ h
  refine wr_iload_n (pc := 62) (dget kX9_target 34 rfl) 0 rfl ?_
  exact wr_iret (pc := 63) rfl (dget kX9_target 35 rfl) ⟨_, rfl, h⟩
def vX9_comes_134 (post : Hp → Prop) (ex : Hp → Prop) (rc : Int32 → Int32 → Hp → Prop) (x1 : Int32) (x2 : Int32) (x3 : Int32) (x5 : Int32) (y0 : Int32) (y1 : Int32) (y2 : Int32) (σ : Hp) : Prop := (vp_in y2 12 ∧ ∀ σ_2 : Hp, σ_2 = wI σ 87 y2.toNatClampNeg (y1 + y0) → (∀ x3_3 : Int32, x3_3 = x3 + (1 : Int32) → ((x5 = (2 : Int32) → (vX9_target x3_3 x2 σ_2 (fun r_6 σ_5 => (rc x3_3 r_6 σ_5)))) ∧ (¬ x5 = (2 : Int32) → (rc x3_3 (-1 : Int32) σ_2)))))
set_option maxHeartbeats 4000000 in
set_option maxRecDepth 100000 in
theorem tX9_comes_134 {G : GT} {post : Hp → Prop} {ex : Hp → Prop} {rc : Int32 → Int32 → Hp → Prop} {x1 : Int32} {x2 : Int32} {x3 : Int32} {x5 : Int32} {y0 : Int32} {y1 : Int32} {y2 : Int32} {σ : Hp} (hex : ∀  (τ : Hp), ex  τ → WP G mX9_comes 160 [] [] τ (LV post)) (hrc : ∀ (z3 : Int32) (z4 : Int32) (τ : Hp), rc z3 z4 τ → WP G mX9_comes 43 [(0, .ref (G.1 71)), (1, .int x1), (2, .int x2), (3, .int z3), (4, .int z4)] [] τ (LV post)) (h : vX9_comes_134 post ex rc x1 x2 x3 x5 y0 y1 y2 σ) : WP G mX9_comes 134 [(0, .ref (G.1 71)), (1, .int x1), (2, .int x2), (3, .int x3), (5, .int x5)] [.int y0, .int y1, .int y2, .ref (G.1 87)] σ (LV post) := by
  unfold vX9_comes_134 at h
  refine wr_iadd (pc := 134) (dget kX9_comes 83 rfl) ?_
  obtain ⟨q_1, h⟩ := h
  refine wr_iastl (pc := 135) il_87 q_1 (dget kX9_comes 84 rfl) ?_
  refine wr_tops (fun σ_2 e_σ_2 => ?_)
  have h := h σ_2 e_σ_2
  obtain ⟨x3_3, e_x3_3⟩ : ∃ y : Int32, y = x3 + (1 : Int32) := ⟨_, rfl⟩
  have h := h x3_3 e_x3_3
  refine wr_iinc (pc := 136) (v := x3_3) (lv' := [(3, .int x3_3), (0, .ref (G.1 71)), (1, .int x1), (2, .int x2), (5, .int x5)]) (dget kX9_comes 85 rfl) 3 rfl (by rw [e_x3_3, ic_1]) (by decide) rfl ?_
  refine wr_iload (pc := 139) (dget kX9_comes 86 rfl) 4 rfl ?_
  refine wr_iconst (pc := 141) (dget kX9_comes 87 rfl) ic_2 ?_
  refine wr_icmp_ne (pc := 142) (tgt := 154) (dget kX9_comes 88 rfl) (by decide) (fun c_4 => ?_) (fun c_4 => ?_)
  · have h := h.2 c_4
    refine wr_iconst (pc := 154) (dget kX9_comes 94 rfl) ic_m1 ?_
    refine wr_istore (pc := 155) (lv' := [(4, .int (-1 : Int32)), (3, .int x3_3), (0, .ref (G.1 71)), (1, .int x1), (2, .int x2), (5, .int x5)]) (dget kX9_comes 95 rfl) (by decide) rfl ?_
    refine wr_goto (pc := 157) (tgt := 43) (dget kX9_comes 96 rfl) (by decide) ?_
    refine wr_sub [2, 3, 4, 1, 0] rfl ?_
    exact hrc _ _ _ h
  · have h := h.1 c_4
    refine wr_aload_n (pc := 145) (dget kX9_comes 89 rfl) 1 rfl ?_
    refine wr_iload_n (pc := 146) (dget kX9_comes 90 rfl) 0 rfl ?_
    refine wr_iload_n (pc := 147) (dget kX9_comes 91 rfl) 3 rfl ?_
    refine wr_callVi (pc := 148) (Mc := mX9_target) (o := 71) (rest := []) cf_X9_189 cv_X9_target kd_71 rfl ⟨Nat.le_of_ble_eq_true rfl, Nat.le_of_ble_eq_true rfl⟩ rfl rfl (Nat.le_of_ble_eq_true rfl) (dget kX9_comes 92 rfl) (tX9_target h) (fun r_6 σ_5 h => ?_)
    refine wr_goto (pc := 151) (tgt := 155) (dget kX9_comes 93 rfl) (by decide) ?_
    refine wr_istore (pc := 155) (lv' := [(4, .int r_6), (3, .int x3_3), (0, .ref (G.1 71)), (1, .int x1), (2, .int x2), (5, .int x5)]) (dget kX9_comes 95 rfl) (by decide) rfl ?_
    refine wr_goto (pc := 157) (tgt := 43) (dget kX9_comes 96 rfl) (by decide) ?_
    refine wr_sub [2, 3, 4, 1, 0] rfl ?_
    exact hrc _ _ _ h
def vX9_comes_100 (post : Hp → Prop) (ex : Hp → Prop) (rc : Int32 → Int32 → Hp → Prop) (x1 : Int32) (x2 : Int32) (x3 : Int32) (x4 : Int32) (x5 : Int32) (y0 : Int32) (y1 : Int32) (σ : Hp) : Prop := (vp_in y1 12 ∧ ∀ σ_2 : Hp, σ_2 = wI σ 84 y1.toNatClampNeg y0 → (vp_in x1 12 ∧ (vp_in x4 12 ∧ (((σ_2.1 84 x4.toNatClampNeg) = (2 : Int32) → (vp_in (((4 : Int32) * x4) + (3 : Int32)) 48 ∧ vX9_comes_134 post ex rc x1 x2 x3 x5 (σ_2.1 79 ((((4 : Int32) * x4) + (3 : Int32))).toNatClampNeg) (σ_2.1 87 x1.toNatClampNeg) x1 σ_2)) ∧ (¬ (σ_2.1 84 x4.toNatClampNeg) = (2 : Int32) → vX9_comes_134 post ex rc x1 x2 x3 x5 (0 : Int32) (σ_2.1 87 x1.toNatClampNeg) x1 σ_2)))))
set_option maxHeartbeats 4000000 in
set_option maxRecDepth 100000 in
theorem tX9_comes_100 {G : GT} {post : Hp → Prop} {ex : Hp → Prop} {rc : Int32 → Int32 → Hp → Prop} {x1 : Int32} {x2 : Int32} {x3 : Int32} {x4 : Int32} {x5 : Int32} {y0 : Int32} {y1 : Int32} {σ : Hp} (hex : ∀  (τ : Hp), ex  τ → WP G mX9_comes 160 [] [] τ (LV post)) (hrc : ∀ (z3 : Int32) (z4 : Int32) (τ : Hp), rc z3 z4 τ → WP G mX9_comes 43 [(0, .ref (G.1 71)), (1, .int x1), (2, .int x2), (3, .int z3), (4, .int z4)] [] τ (LV post)) (h : vX9_comes_100 post ex rc x1 x2 x3 x4 x5 y0 y1 σ) : WP G mX9_comes 100 [(0, .ref (G.1 71)), (1, .int x1), (2, .int x2), (3, .int x3), (4, .int x4), (5, .int x5)] [.int y0, .int y1, .ref (G.1 84)] σ (LV post) := by
  unfold vX9_comes_100 at h
  obtain ⟨q_1, h⟩ := h
  refine wr_iastl (pc := 100) il_84 q_1 (dget kX9_comes 61 rfl) ?_
  refine wr_tops (fun σ_2 e_σ_2 => ?_)
  have h := h σ_2 e_σ_2
  refine wr_aload_n (pc := 101) (dget kX9_comes 62 rfl) 0 rfl ?_
  refine wr_getRl (pc := 102) fl_X9_55 kd_71 fk_9_20 rt_71_20 (dget kX9_comes 63 rfl) ?_
  refine wr_iload_n (pc := 105) (dget kX9_comes 64 rfl) 1 rfl ?_
  refine wr_dup2_11 (pc := 106) (dget kX9_comes 65 rfl) rfl rfl ?_
  obtain ⟨q_3, h⟩ := h
  refine wr_ialdl (pc := 107) (σ := σ_2) il_87 q_3 (dget kX9_comes 66 rfl) ?_
  refine wr_aload_n (pc := 108) (dget kX9_comes 67 rfl) 0 rfl ?_
  refine wr_getRl (pc := 109) fl_X9_46 kd_71 fk_9_17 rt_71_17 (dget kX9_comes 68 rfl) ?_
  refine wr_iload (pc := 112) (dget kX9_comes 69 rfl) 4 rfl ?_
  obtain ⟨q_4, h⟩ := h
  refine wr_ialdl (pc := 114) (σ := σ_2) il_84 q_4 (dget kX9_comes 70 rfl) ?_
  refine wr_iconst (pc := 115) (dget kX9_comes 71 rfl) ic_2 ?_
  refine wr_icmp_ne (pc := 116) (tgt := 133) (dget kX9_comes 72 rfl) (by decide) (fun c_5 => ?_) (fun c_5 => ?_)
  · have h := h.2 c_5
    refine wr_iconst (pc := 133) (dget kX9_comes 82 rfl) ic_0 ?_
    refine wr_sub [0, 1, 2, 3, 5] rfl ?_
    exact tX9_comes_134 hex hrc h
  · have h := h.1 c_5
    refine wr_aload_n (pc := 119) (dget kX9_comes 73 rfl) 0 rfl ?_
    refine wr_getRl (pc := 120) fl_X9_31 kd_71 fk_9_9 rt_71_9 (dget kX9_comes 74 rfl) ?_
    refine wr_iconst (pc := 123) (dget kX9_comes 75 rfl) ic_4 ?_
    refine wr_iload (pc := 124) (dget kX9_comes 76 rfl) 4 rfl ?_
    refine wr_imul (pc := 126) (dget kX9_comes 77 rfl) ?_
    refine wr_iconst (pc := 127) (dget kX9_comes 78 rfl) ic_3 ?_
    refine wr_iadd (pc := 128) (dget kX9_comes 79 rfl) ?_
    obtain ⟨q_6, h⟩ := h
    refine wr_ialdl (pc := 129) (σ := σ_2) il_79 q_6 (dget kX9_comes 80 rfl) ?_
    refine wr_goto (pc := 130) (tgt := 134) (dget kX9_comes 81 rfl) (by decide) ?_
    refine wr_sub [0, 1, 2, 3, 5] rfl ?_
    exact tX9_comes_134 hex hrc h
def vX9_comes_43 (post : Hp → Prop) (ex : Hp → Prop) (x1 : Int32) (x2 : Int32) : Nat → Int32 → Int32 → Hp → Prop
  | 0 => fun _ _ _ => False
  | n + 1 => fun x3 x4 σ => ((x4 = (-1 : Int32) → (ex σ)) ∧ (¬ x4 = (-1 : Int32) → (vp_in (((4 : Int32) * x4) + (2 : Int32)) 48 ∧ (∀ x5_3 : Int32, x5_3 = (σ.1 79 ((((4 : Int32) * x4) + (2 : Int32))).toNatClampNeg) → (vp_in x4 12 ∧ (vp_in x4 12 ∧ ∀ σ_6 : Hp, σ_6 = wI σ 85 x4.toNatClampNeg ((σ.1 85 x4.toNatClampNeg) + (1 : Int32)) → ((x5_3 = (1 : Int32) → (vp_in x4 12 ∧ (((σ_6.1 84 x4.toNatClampNeg) = 0 → vX9_comes_100 post ex (vX9_comes_43 post ex x1 x2 n) x1 x2 x3 x4 x5_3 (1 : Int32) x4 σ_6) ∧ (¬ (σ_6.1 84 x4.toNatClampNeg) = 0 → vX9_comes_100 post ex (vX9_comes_43 post ex x1 x2 n) x1 x2 x3 x4 x5_3 (2 : Int32) x4 σ_6)))) ∧ (¬ x5_3 = (1 : Int32) → vX9_comes_100 post ex (vX9_comes_43 post ex x1 x2 n) x1 x2 x3 x4 x5_3 (2 : Int32) x4 σ_6))))))))
set_option maxHeartbeats 4000000 in
set_option maxRecDepth 100000 in
theorem tX9_comes_43 {G : GT} {post : Hp → Prop} {ex : Hp → Prop} {x1 : Int32} {x2 : Int32} (hex : ∀  (τ : Hp), ex  τ → WP G mX9_comes 160 [] [] τ (LV post)) : ∀ (n : Nat) (x3 : Int32) (x4 : Int32) (σ : Hp), vX9_comes_43 post ex x1 x2 n x3 x4 σ → WP G mX9_comes 43 [(0, .ref (G.1 71)), (1, .int x1), (2, .int x2), (3, .int x3), (4, .int x4)] [] σ (LV post) := by
  intro n
  induction n with
  | zero => intro x3 x4 σ h; exact False.elim h
  | succ n ih =>
    intro x3 x4 σ h
    simp only [vX9_comes_43] at h
    refine wr_iload (pc := 43) (dget kX9_comes 27 rfl) 4 rfl ?_
    refine wr_iconst (pc := 45) (dget kX9_comes 28 rfl) ic_m1 ?_
    refine wr_icmp_eq (pc := 46) (tgt := 160) (dget kX9_comes 29 rfl) (by decide) (fun c_1 => ?_) (fun c_1 => ?_)
    · have h := h.1 c_1
      refine wr_sub [] rfl ?_
      exact hex  _ h
    · have h := h.2 c_1
      refine wr_aload_n (pc := 49) (dget kX9_comes 30 rfl) 0 rfl ?_
      refine wr_getRl (pc := 50) fl_X9_31 kd_71 fk_9_9 rt_71_9 (dget kX9_comes 31 rfl) ?_
      refine wr_iconst (pc := 53) (dget kX9_comes 32 rfl) ic_4 ?_
      refine wr_iload (pc := 54) (dget kX9_comes 33 rfl) 4 rfl ?_
      refine wr_imul (pc := 56) (dget kX9_comes 34 rfl) ?_
      refine wr_iconst (pc := 57) (dget kX9_comes 35 rfl) ic_2 ?_
      refine wr_iadd (pc := 58) (dget kX9_comes 36 rfl) ?_
      obtain ⟨q_2, h⟩ := h
      refine wr_ialdl (pc := 59) (σ := σ) il_79 q_2 (dget kX9_comes 37 rfl) ?_
      refine wr_topi (fun x5_3 e_x5_3 => ?_)
      have h := h x5_3 e_x5_3
      refine wr_istore (pc := 60) (lv' := [(5, .int x5_3), (0, .ref (G.1 71)), (1, .int x1), (2, .int x2), (3, .int x3), (4, .int x4)]) (dget kX9_comes 38 rfl) (by decide) rfl ?_
      refine wr_aload_n (pc := 62) (dget kX9_comes 39 rfl) 1 rfl ?_
      refine wr_getRl (pc := 63) fl_X9_49 kd_71 fk_9_18 rt_71_18 (dget kX9_comes 40 rfl) ?_
      refine wr_iload (pc := 66) (dget kX9_comes 41 rfl) 5 rfl ?_
      refine wr_dup2_11 (pc := 68) (dget kX9_comes 42 rfl) rfl rfl ?_
      obtain ⟨q_4, h⟩ := h
      refine wr_ialdl (pc := 69) (σ := σ) il_85 q_4 (dget kX9_comes 43 rfl) ?_
      refine wr_iconst (pc := 70) (dget kX9_comes 44 rfl) ic_1 ?_
      refine wr_iadd (pc := 71) (dget kX9_comes 45 rfl) ?_
      obtain ⟨q_5, h⟩ := h
      refine wr_iastl (pc := 72) il_85 q_5 (dget kX9_comes 46 rfl) ?_
      refine wr_tops (fun σ_6 e_σ_6 => ?_)
      have h := h σ_6 e_σ_6
      refine wr_aload_n (pc := 73) (dget kX9_comes 47 rfl) 1 rfl ?_
      refine wr_getRl (pc := 74) fl_X9_46 kd_71 fk_9_17 rt_71_17 (dget kX9_comes 48 rfl) ?_
      refine wr_iload (pc := 77) (dget kX9_comes 49 rfl) 5 rfl ?_
      refine wr_iload (pc := 79) (dget kX9_comes 50 rfl) 0 rfl ?_
      refine wr_iconst (pc := 81) (dget kX9_comes 51 rfl) ic_1 ?_
      refine wr_icmp_ne (pc := 82) (tgt := 99) (dget kX9_comes 52 rfl) (by decide) (fun c_7 => ?_) (fun c_7 => ?_)
      · have h := h.2 c_7
        refine wr_iconst (pc := 99) (dget kX9_comes 60 rfl) ic_2 ?_
        refine wr_sub [1, 2, 3, 4, 5, 0] rfl ?_
        exact tX9_comes_100 hex ih h
      · have h := h.1 c_7
        refine wr_aload_n (pc := 85) (dget kX9_comes 53 rfl) 1 rfl ?_
        refine wr_getRl (pc := 86) fl_X9_46 kd_71 fk_9_17 rt_71_17 (dget kX9_comes 54 rfl) ?_
        refine wr_iload (pc := 89) (dget kX9_comes 55 rfl) 5 rfl ?_
        obtain ⟨q_8, h⟩ := h
        refine wr_ialdl (pc := 91) (σ := σ_6) il_84 q_8 (dget kX9_comes 56 rfl) ?_
        refine wr_if_ne (pc := 92) (tgt := 99) (dget kX9_comes 57 rfl) (by decide) (fun c_9 => ?_) (fun c_9 => ?_)
        · have h := h.2 c_9
          refine wr_iconst (pc := 99) (dget kX9_comes 60 rfl) ic_2 ?_
          refine wr_sub [1, 2, 3, 4, 5, 0] rfl ?_
          exact tX9_comes_100 hex ih h
        · have h := h.1 c_9
          refine wr_iconst (pc := 95) (dget kX9_comes 58 rfl) ic_1 ?_
          refine wr_goto (pc := 96) (tgt := 100) (dget kX9_comes 59 rfl) (by decide) ?_
          refine wr_sub [1, 2, 3, 4, 5, 0] rfl ?_
          exact tX9_comes_100 hex ih h
def vX9_comes (p1 : Int32) (p2 : Int32) (σ : Hp) (post : Hp → Prop) : Prop := (vp_in (((3 : Int32) * p1) + (1 : Int32)) 36 ∧ (∀ x3_2 : Int32, x3_2 = (σ.1 80 ((((3 : Int32) * p1) + (1 : Int32))).toNatClampNeg) → (vX9_in p2.toInt64 (0 : Int64) (5 : Int64) σ (fun r_4 σ_3 => ((r_4 = 0 → (vp_in p1 12 ∧ ∀ σ_7 : Hp, σ_7 = wI σ_3 86 p1.toNatClampNeg (-1 : Int32) → (∃ fu : Nat, vX9_comes_43 post (fun σ_8 => post σ_8) p1 p2 fu x3_2 (-1 : Int32) σ_7))) ∧ (¬ r_4 = 0 → (vX9_target x3_2 p2 σ_3 (fun r_10 σ_9 => (vp_in p1 12 ∧ ∀ σ_12 : Hp, σ_12 = wI σ_9 86 p1.toNatClampNeg r_10 → (∃ fu : Nat, vX9_comes_43 post (fun σ_13 => post σ_13) p1 p2 fu x3_2 r_10 σ_12))))))))))
set_option maxHeartbeats 4000000 in
set_option maxRecDepth 100000 in
theorem tX9_comes {G : GT} {p1 : Int32} {p2 : Int32} {σ : Hp} {post : Hp → Prop} (h : vX9_comes p1 p2 σ post) : CT G mX9_comes [.ref (G.1 71), .int p1, .int p2] σ (LV post) := by
  refine CT.of (by decide +kernel) (Nat.le_of_ble_eq_true rfl) ?_
  show WP G mX9_comes 0 [(0, .ref (G.1 71)), (1, .int p1), (2, .int p2)] [] σ (LV post)
  unfold vX9_comes at h
  refine wr_aload_n (pc := 0) (dget kX9_comes 0 rfl) 0 rfl ?_
  refine wr_getRl (pc := 1) fl_X9_34 kd_71 fk_9_11 rt_71_11 (dget kX9_comes 1 rfl) ?_
  refine wr_iconst (pc := 4) (dget kX9_comes 2 rfl) ic_3 ?_
  refine wr_iload_n (pc := 5) (dget kX9_comes 3 rfl) 1 rfl ?_
  refine wr_imul (pc := 6) (dget kX9_comes 4 rfl) ?_
  refine wr_iconst (pc := 7) (dget kX9_comes 5 rfl) ic_1 ?_
  refine wr_iadd (pc := 8) (dget kX9_comes 6 rfl) ?_
  obtain ⟨q_1, h⟩ := h
  refine wr_ialdl (pc := 9) (σ := σ) il_80 q_1 (dget kX9_comes 7 rfl) ?_
  refine wr_topi (fun x3_2 e_x3_2 => ?_)
  have h := h x3_2 e_x3_2
  refine wr_istore_n (pc := 10) (lv' := [(3, .int x3_2), (0, .ref (G.1 71)), (1, .int p1), (2, .int p2)]) (dget kX9_comes 8 rfl) (by decide) rfl ?_
  refine wr_iload_n (pc := 11) (dget kX9_comes 9 rfl) 3 rfl ?_
  refine wr_i2l (pc := 12) (dget kX9_comes 10 rfl) rfl ?_
  refine wr_lconst (pc := 13) (dget kX9_comes 11 rfl) lc_0 ?_
  refine wr_ldc2 (pc := 14) kl_X9_187 (dget kX9_comes 12 rfl) ?_
  refine wr_callSi (pc := 17) (Mc := mX9_in) (rest := []) cf_X9_75 cs_X9_in ⟨Nat.le_of_ble_eq_true rfl, Nat.le_of_ble_eq_true rfl⟩ rfl rfl (Nat.le_of_ble_eq_true rfl) (dget kX9_comes 13 rfl) (tX9_in h) (fun r_4 σ_3 h => ?_)
  refine wr_if_eq (pc := 20) (tgt := 32) (dget kX9_comes 14 rfl) (by decide) (fun c_5 => ?_) (fun c_5 => ?_)
  · have h := h.1 c_5
    refine wr_iconst (pc := 32) (dget kX9_comes 20 rfl) ic_m1 ?_
    refine wr_istore (pc := 33) (lv' := [(4, .int (-1 : Int32)), (3, .int x3_2), (0, .ref (G.1 71)), (1, .int p1), (2, .int p2)]) (dget kX9_comes 21 rfl) (by decide) rfl ?_
    refine wr_aload_n (pc := 35) (dget kX9_comes 22 rfl) 2 rfl ?_
    refine wr_getRl (pc := 36) fl_X9_52 kd_71 fk_9_19 rt_71_19 (dget kX9_comes 23 rfl) ?_
    refine wr_iload_n (pc := 39) (dget kX9_comes 24 rfl) 3 rfl ?_
    refine wr_iload (pc := 40) (dget kX9_comes 25 rfl) 0 rfl ?_
    obtain ⟨q_6, h⟩ := h
    refine wr_iastl (pc := 42) il_86 q_6 (dget kX9_comes 26 rfl) ?_
    refine wr_tops (fun σ_7 e_σ_7 => ?_)
    have h := h σ_7 e_σ_7
    obtain ⟨fu, h⟩ := h
    refine wr_sub [2, 3, 4, 1, 0] rfl ?_
    refine tX9_comes_43 (fun σ_8 h => ?_) fu _ _ _ h
    exact wr_vret (pc := 160) rfl (dget kX9_comes 97 rfl) ⟨rfl, h⟩
  · have h := h.2 c_5
    refine wr_aload_n (pc := 23) (dget kX9_comes 15 rfl) 1 rfl ?_
    refine wr_iload_n (pc := 24) (dget kX9_comes 16 rfl) 0 rfl ?_
    refine wr_iload_n (pc := 25) (dget kX9_comes 17 rfl) 3 rfl ?_
    refine wr_callVi (pc := 26) (Mc := mX9_target) (o := 71) (rest := []) cf_X9_189 cv_X9_target kd_71 rfl ⟨Nat.le_of_ble_eq_true rfl, Nat.le_of_ble_eq_true rfl⟩ rfl rfl (Nat.le_of_ble_eq_true rfl) (dget kX9_comes 18 rfl) (tX9_target h) (fun r_10 σ_9 h => ?_)
    refine wr_goto (pc := 29) (tgt := 33) (dget kX9_comes 19 rfl) (by decide) ?_
    refine wr_istore (pc := 33) (lv' := [(4, .int r_10), (3, .int x3_2), (0, .ref (G.1 71)), (1, .int p1), (2, .int p2)]) (dget kX9_comes 21 rfl) (by decide) rfl ?_
    refine wr_aload_n (pc := 35) (dget kX9_comes 22 rfl) 2 rfl ?_
    refine wr_getRl (pc := 36) fl_X9_52 kd_71 fk_9_19 rt_71_19 (dget kX9_comes 23 rfl) ?_
    refine wr_iload_n (pc := 39) (dget kX9_comes 24 rfl) 3 rfl ?_
    refine wr_iload (pc := 40) (dget kX9_comes 25 rfl) 0 rfl ?_
    obtain ⟨q_11, h⟩ := h
    refine wr_iastl (pc := 42) il_86 q_11 (dget kX9_comes 26 rfl) ?_
    refine wr_tops (fun σ_12 e_σ_12 => ?_)
    have h := h σ_12 e_σ_12
    obtain ⟨fu, h⟩ := h
    refine wr_sub [2, 3, 4, 1, 0] rfl ?_
    refine tX9_comes_43 (fun σ_13 h => ?_) fu _ _ _ h
    exact wr_vret (pc := 160) rfl (dget kX9_comes 97 rfl) ⟨rfl, h⟩
def vX9_passes_83 (post : Hp → Prop) (ex : Hp → Prop) (x1 : Int32) : Nat → Int32 → Hp → Prop
  | 0 => fun _ _ => False
  | n + 1 => fun x3 σ => (((σ.1 71 8) ≤ x3 → (ex σ)) ∧ (¬ (σ.1 71 8) ≤ x3 → (vp_in x3 12 ∧ (vp_in (((12 : Int32) * x1) + x3) 288 ∧ ∀ σ_4 : Hp, σ_4 = wI σ 88 ((((12 : Int32) * x1) + x3)).toNatClampNeg (σ.1 83 x3.toNatClampNeg) → (vp_in x3 12 ∧ (vp_in (((12 : Int32) * x1) + x3) 288 ∧ ∀ σ_7 : Hp, σ_7 = wI σ_4 89 ((((12 : Int32) * x1) + x3)).toNatClampNeg (σ_4.1 84 x3.toNatClampNeg) → (vp_in x3 12 ∧ (vp_in (((12 : Int32) * x1) + x3) 288 ∧ ∀ σ_10 : Hp, σ_10 = wI σ_7 90 ((((12 : Int32) * x1) + x3)).toNatClampNeg (σ_7.1 85 x3.toNatClampNeg) → (∀ x3_11 : Int32, x3_11 = x3 + (1 : Int32) → vX9_passes_83 post ex x1 n x3_11 σ_10)))))))))
set_option maxHeartbeats 4000000 in
set_option maxRecDepth 100000 in
theorem tX9_passes_83 {G : GT} {post : Hp → Prop} {ex : Hp → Prop} {x1 : Int32} (hex : ∀  (τ : Hp), ex  τ → WP G mX9_passes 148 [] [] τ (LV post)) : ∀ (n : Nat) (x3 : Int32) (σ : Hp), vX9_passes_83 post ex x1 n x3 σ → WP G mX9_passes 83 [(0, .ref (G.1 71)), (1, .int x1), (3, .int x3)] [] σ (LV post) := by
  intro n
  induction n with
  | zero => intro x3 σ h; exact False.elim h
  | succ n ih =>
    intro x3 σ h
    simp only [vX9_passes_83] at h
    refine wr_iload_n (pc := 83) (dget kX9_passes 55 rfl) 2 rfl ?_
    refine wr_aload_n (pc := 84) (dget kX9_passes 56 rfl) 0 rfl ?_
    refine wr_getI (pc := 85) (σ := σ) fl_X9_123 kd_71 fk_9_8 (dget kX9_passes 57 rfl) ?_
    refine wr_icmp_ge (pc := 88) (tgt := 148) (dget kX9_passes 58 rfl) (by decide) (fun c_1 => ?_) (fun c_1 => ?_)
    · have h := h.1 c_1
      refine wr_sub [] rfl ?_
      exact hex  _ h
    · have h := h.2 c_1
      refine wr_aload_n (pc := 91) (dget kX9_passes 59 rfl) 0 rfl ?_
      refine wr_getRl (pc := 92) fl_X9_58 kd_71 fk_9_21 rt_71_21 (dget kX9_passes 60 rfl) ?_
      refine wr_bipush (pc := 95) (dget kX9_passes 61 rfl) bp_12 ?_
      refine wr_iload_n (pc := 97) (dget kX9_passes 62 rfl) 1 rfl ?_
      refine wr_imul (pc := 98) (dget kX9_passes 63 rfl) ?_
      refine wr_iload_n (pc := 99) (dget kX9_passes 64 rfl) 2 rfl ?_
      refine wr_iadd (pc := 100) (dget kX9_passes 65 rfl) ?_
      refine wr_aload_n (pc := 101) (dget kX9_passes 66 rfl) 0 rfl ?_
      refine wr_getRl (pc := 102) fl_X9_43 kd_71 fk_9_16 rt_71_16 (dget kX9_passes 67 rfl) ?_
      refine wr_iload_n (pc := 105) (dget kX9_passes 68 rfl) 2 rfl ?_
      obtain ⟨q_2, h⟩ := h
      refine wr_ialdl (pc := 106) (σ := σ) il_83 q_2 (dget kX9_passes 69 rfl) ?_
      obtain ⟨q_3, h⟩ := h
      refine wr_iastl (pc := 107) il_88 q_3 (dget kX9_passes 70 rfl) ?_
      refine wr_tops (fun σ_4 e_σ_4 => ?_)
      have h := h σ_4 e_σ_4
      refine wr_aload_n (pc := 108) (dget kX9_passes 71 rfl) 0 rfl ?_
      refine wr_getRl (pc := 109) fl_X9_61 kd_71 fk_9_22 rt_71_22 (dget kX9_passes 72 rfl) ?_
      refine wr_bipush (pc := 112) (dget kX9_passes 73 rfl) bp_12 ?_
      refine wr_iload_n (pc := 114) (dget kX9_passes 74 rfl) 1 rfl ?_
      refine wr_imul (pc := 115) (dget kX9_passes 75 rfl) ?_
      refine wr_iload_n (pc := 116) (dget kX9_passes 76 rfl) 2 rfl ?_
      refine wr_iadd (pc := 117) (dget kX9_passes 77 rfl) ?_
      refine wr_aload_n (pc := 118) (dget kX9_passes 78 rfl) 0 rfl ?_
      refine wr_getRl (pc := 119) fl_X9_46 kd_71 fk_9_17 rt_71_17 (dget kX9_passes 79 rfl) ?_
      refine wr_iload_n (pc := 122) (dget kX9_passes 80 rfl) 2 rfl ?_
      obtain ⟨q_5, h⟩ := h
      refine wr_ialdl (pc := 123) (σ := σ_4) il_84 q_5 (dget kX9_passes 81 rfl) ?_
      obtain ⟨q_6, h⟩ := h
      refine wr_iastl (pc := 124) il_89 q_6 (dget kX9_passes 82 rfl) ?_
      refine wr_tops (fun σ_7 e_σ_7 => ?_)
      have h := h σ_7 e_σ_7
      refine wr_aload_n (pc := 125) (dget kX9_passes 83 rfl) 0 rfl ?_
      refine wr_getRl (pc := 126) fl_X9_64 kd_71 fk_9_23 rt_71_23 (dget kX9_passes 84 rfl) ?_
      refine wr_bipush (pc := 129) (dget kX9_passes 85 rfl) bp_12 ?_
      refine wr_iload_n (pc := 131) (dget kX9_passes 86 rfl) 1 rfl ?_
      refine wr_imul (pc := 132) (dget kX9_passes 87 rfl) ?_
      refine wr_iload_n (pc := 133) (dget kX9_passes 88 rfl) 2 rfl ?_
      refine wr_iadd (pc := 134) (dget kX9_passes 89 rfl) ?_
      refine wr_aload_n (pc := 135) (dget kX9_passes 90 rfl) 0 rfl ?_
      refine wr_getRl (pc := 136) fl_X9_49 kd_71 fk_9_18 rt_71_18 (dget kX9_passes 91 rfl) ?_
      refine wr_iload_n (pc := 139) (dget kX9_passes 92 rfl) 2 rfl ?_
      obtain ⟨q_8, h⟩ := h
      refine wr_ialdl (pc := 140) (σ := σ_7) il_85 q_8 (dget kX9_passes 93 rfl) ?_
      obtain ⟨q_9, h⟩ := h
      refine wr_iastl (pc := 141) il_90 q_9 (dget kX9_passes 94 rfl) ?_
      refine wr_tops (fun σ_10 e_σ_10 => ?_)
      have h := h σ_10 e_σ_10
      obtain ⟨x3_11, e_x3_11⟩ : ∃ y : Int32, y = x3 + (1 : Int32) := ⟨_, rfl⟩
      have h := h x3_11 e_x3_11
      refine wr_iinc (pc := 142) (v := x3_11) (lv' := [(3, .int x3_11), (0, .ref (G.1 71)), (1, .int x1)]) (dget kX9_passes 95 rfl) 2 rfl (by rw [e_x3_11, ic_1]) (by decide) rfl ?_
      refine wr_goto (pc := 145) (tgt := 83) (dget kX9_passes 96 rfl) (by decide) ?_
      refine wr_sub [1, 2, 0] rfl ?_
      exact ih _ _ h
def vX9_passes_31 (post : Hp → Prop) (ex : Hp → Prop) (x1 : Int32) (x2 : Int32) : Nat → Int32 → Hp → Prop
  | 0 => fun _ _ => False
  | n + 1 => fun x3 σ => (((σ.1 71 10) ≤ x3 → (ex σ)) ∧ (¬ (σ.1 71 10) ≤ x3 → (vp_in ((3 : Int32) * x3) 36 ∧ (vp_in (1 : Int32) 2 ∧ ((((σ.1 80 (((3 : Int32) * x3)).toNatClampNeg) + (σ.1 81 (1 : Int32).toNatClampNeg)) = x1 → (vp_in (((3 : Int32) * x3) + (2 : Int32)) 36 ∧ (vX9_comes x3 ((σ.1 80 ((((3 : Int32) * x3) + (2 : Int32))).toNatClampNeg) + x2) σ (fun σ_7 => (∀ x3_9 : Int32, x3_9 = x3 + (1 : Int32) → vX9_passes_31 post ex x1 x2 n x3_9 σ_7))))) ∧ (¬ ((σ.1 80 (((3 : Int32) * x3)).toNatClampNeg) + (σ.1 81 (1 : Int32).toNatClampNeg)) = x1 → (∀ x3_5 : Int32, x3_5 = x3 + (1 : Int32) → vX9_passes_31 post ex x1 x2 n x3_5 σ)))))))
set_option maxHeartbeats 4000000 in
set_option maxRecDepth 100000 in
theorem tX9_passes_31 {G : GT} {post : Hp → Prop} {ex : Hp → Prop} {x1 : Int32} {x2 : Int32} (hex : ∀  (τ : Hp), ex  τ → WP G mX9_passes 81 [(0, .ref (G.1 71)), (1, .int x1)] [] τ (LV post)) : ∀ (n : Nat) (x3 : Int32) (σ : Hp), vX9_passes_31 post ex x1 x2 n x3 σ → WP G mX9_passes 31 [(0, .ref (G.1 71)), (1, .int x1), (2, .int x2), (3, .int x3)] [] σ (LV post) := by
  intro n
  induction n with
  | zero => intro x3 σ h; exact False.elim h
  | succ n ih =>
    intro x3 σ h
    simp only [vX9_passes_31] at h
    refine wr_iload_n (pc := 31) (dget kX9_passes 21 rfl) 3 rfl ?_
    refine wr_aload_n (pc := 32) (dget kX9_passes 22 rfl) 0 rfl ?_
    refine wr_getI (pc := 33) (σ := σ) fl_X9_132 kd_71 fk_9_10 (dget kX9_passes 23 rfl) ?_
    refine wr_icmp_ge (pc := 36) (tgt := 81) (dget kX9_passes 24 rfl) (by decide) (fun c_1 => ?_) (fun c_1 => ?_)
    · have h := h.1 c_1
      refine wr_sub [0, 1] rfl ?_
      exact hex  _ h
    · have h := h.2 c_1
      refine wr_aload_n (pc := 39) (dget kX9_passes 25 rfl) 0 rfl ?_
      refine wr_getRl (pc := 40) fl_X9_34 kd_71 fk_9_11 rt_71_11 (dget kX9_passes 26 rfl) ?_
      refine wr_iconst (pc := 43) (dget kX9_passes 27 rfl) ic_3 ?_
      refine wr_iload_n (pc := 44) (dget kX9_passes 28 rfl) 3 rfl ?_
      refine wr_imul (pc := 45) (dget kX9_passes 29 rfl) ?_
      obtain ⟨q_2, h⟩ := h
      refine wr_ialdl (pc := 46) (σ := σ) il_80 q_2 (dget kX9_passes 30 rfl) ?_
      refine wr_aload_n (pc := 47) (dget kX9_passes 31 rfl) 0 rfl ?_
      refine wr_getRl (pc := 48) fl_X9_37 kd_71 fk_9_12 rt_71_12 (dget kX9_passes 32 rfl) ?_
      refine wr_iconst (pc := 51) (dget kX9_passes 33 rfl) ic_1 ?_
      obtain ⟨q_3, h⟩ := h
      refine wr_ialdl (pc := 52) (σ := σ) il_81 q_3 (dget kX9_passes 34 rfl) ?_
      refine wr_iadd (pc := 53) (dget kX9_passes 35 rfl) ?_
      refine wr_iload_n (pc := 54) (dget kX9_passes 36 rfl) 1 rfl ?_
      refine wr_icmp_ne (pc := 55) (tgt := 75) (dget kX9_passes 37 rfl) (by decide) (fun c_4 => ?_) (fun c_4 => ?_)
      · have h := h.2 c_4
        obtain ⟨x3_5, e_x3_5⟩ : ∃ y : Int32, y = x3 + (1 : Int32) := ⟨_, rfl⟩
        have h := h x3_5 e_x3_5
        refine wr_iinc (pc := 75) (v := x3_5) (lv' := [(3, .int x3_5), (0, .ref (G.1 71)), (1, .int x1), (2, .int x2)]) (dget kX9_passes 51 rfl) 3 rfl (by rw [e_x3_5, ic_1]) (by decide) rfl ?_
        refine wr_goto (pc := 78) (tgt := 31) (dget kX9_passes 52 rfl) (by decide) ?_
        refine wr_sub [1, 2, 3, 0] rfl ?_
        exact ih _ _ h
      · have h := h.1 c_4
        refine wr_aload_n (pc := 58) (dget kX9_passes 38 rfl) 0 rfl ?_
        refine wr_iload_n (pc := 59) (dget kX9_passes 39 rfl) 3 rfl ?_
        refine wr_aload_n (pc := 60) (dget kX9_passes 40 rfl) 0 rfl ?_
        refine wr_getRl (pc := 61) fl_X9_34 kd_71 fk_9_11 rt_71_11 (dget kX9_passes 41 rfl) ?_
        refine wr_iconst (pc := 64) (dget kX9_passes 42 rfl) ic_3 ?_
        refine wr_iload_n (pc := 65) (dget kX9_passes 43 rfl) 3 rfl ?_
        refine wr_imul (pc := 66) (dget kX9_passes 44 rfl) ?_
        refine wr_iconst (pc := 67) (dget kX9_passes 45 rfl) ic_2 ?_
        refine wr_iadd (pc := 68) (dget kX9_passes 46 rfl) ?_
        obtain ⟨q_6, h⟩ := h
        refine wr_ialdl (pc := 69) (σ := σ) il_80 q_6 (dget kX9_passes 47 rfl) ?_
        refine wr_iload_n (pc := 70) (dget kX9_passes 48 rfl) 2 rfl ?_
        refine wr_iadd (pc := 71) (dget kX9_passes 49 rfl) ?_
        refine wr_callVv (pc := 72) (Mc := mX9_comes) (o := 71) (rest := []) cf_X9_196 cv_X9_comes kd_71 rfl ⟨Nat.le_of_ble_eq_true rfl, Nat.le_of_ble_eq_true rfl⟩ rfl rfl (Nat.le_of_ble_eq_true rfl) (dget kX9_passes 50 rfl) (tX9_comes h) (fun σ_7 h => ?_)
        obtain ⟨x3_9, e_x3_9⟩ : ∃ y : Int32, y = x3 + (1 : Int32) := ⟨_, rfl⟩
        have h := h x3_9 e_x3_9
        refine wr_iinc (pc := 75) (v := x3_9) (lv' := [(3, .int x3_9), (0, .ref (G.1 71)), (1, .int x1), (2, .int x2)]) (dget kX9_passes 51 rfl) 3 rfl (by rw [e_x3_9, ic_1]) (by decide) rfl ?_
        refine wr_goto (pc := 78) (tgt := 31) (dget kX9_passes 52 rfl) (by decide) ?_
        refine wr_sub [1, 2, 3, 0] rfl ?_
        exact ih _ _ h
def vX9_passes (p1 : Int32) (σ : Hp) (post : Hp → Prop) : Prop := (vX9_turns p1 σ (fun σ_1 => (vp_in (0 : Int32) 2 ∧ (vX9_toldIn (1 : Int32) p1 σ_1 (fun r_5 σ_4 => ((r_5 = 0 → (∀ x2_7 : Int32, x2_7 = (((σ_1.1 81 (0 : Int32).toNatClampNeg) - (2 : Int32)) + (0 : Int32)) → (∃ fu : Nat, vX9_passes_31 post (fun σ_8 => (∃ fu : Nat, vX9_passes_83 post (fun σ_9 => post σ_9) p1 fu (0 : Int32) σ_8)) p1 x2_7 fu (0 : Int32) σ_4))) ∧ (¬ r_5 = 0 → (∀ x2_10 : Int32, x2_10 = (((σ_1.1 81 (0 : Int32).toNatClampNeg) - (2 : Int32)) + (1 : Int32)) → (∃ fu : Nat, vX9_passes_31 post (fun σ_11 => (∃ fu : Nat, vX9_passes_83 post (fun σ_12 => post σ_12) p1 fu (0 : Int32) σ_11)) p1 x2_10 fu (0 : Int32) σ_4)))))))))
set_option maxHeartbeats 4000000 in
set_option maxRecDepth 100000 in
theorem tX9_passes {G : GT} {p1 : Int32} {σ : Hp} {post : Hp → Prop} (h : vX9_passes p1 σ post) : CT G mX9_passes [.ref (G.1 71), .int p1] σ (LV post) := by
  refine CT.of (by decide +kernel) (Nat.le_of_ble_eq_true rfl) ?_
  show WP G mX9_passes 0 [(0, .ref (G.1 71)), (1, .int p1)] [] σ (LV post)
  unfold vX9_passes at h
  refine wr_aload_n (pc := 0) (dget kX9_passes 0 rfl) 0 rfl ?_
  refine wr_iload_n (pc := 1) (dget kX9_passes 1 rfl) 1 rfl ?_
  refine wr_callVv (pc := 2) (Mc := mX9_turns) (o := 71) (rest := []) cf_X9_192 cv_X9_turns kd_71 rfl ⟨Nat.le_of_ble_eq_true rfl, Nat.le_of_ble_eq_true rfl⟩ rfl rfl (Nat.le_of_ble_eq_true rfl) (dget kX9_passes 2 rfl) (tX9_turns h) (fun σ_1 h => ?_)
  refine wr_aload_n (pc := 5) (dget kX9_passes 3 rfl) 0 rfl ?_
  refine wr_getRl (pc := 6) fl_X9_37 kd_71 fk_9_12 rt_71_12 (dget kX9_passes 4 rfl) ?_
  refine wr_iconst (pc := 9) (dget kX9_passes 5 rfl) ic_0 ?_
  obtain ⟨q_3, h⟩ := h
  refine wr_ialdl (pc := 10) (σ := σ_1) il_81 q_3 (dget kX9_passes 6 rfl) ?_
  refine wr_iconst (pc := 11) (dget kX9_passes 7 rfl) ic_2 ?_
  refine wr_isub (pc := 12) (dget kX9_passes 8 rfl) ?_
  refine wr_aload_n (pc := 13) (dget kX9_passes 9 rfl) 0 rfl ?_
  refine wr_iconst (pc := 14) (dget kX9_passes 10 rfl) ic_1 ?_
  refine wr_iload_n (pc := 15) (dget kX9_passes 11 rfl) 1 rfl ?_
  refine wr_callVi (pc := 16) (Mc := mX9_toldIn) (o := 71) (rest := [.int ((σ_1.1 81 (0 : Int32).toNatClampNeg) - (2 : Int32))]) cf_X9_184 cv_X9_toldIn kd_71 rfl ⟨Nat.le_of_ble_eq_true rfl, Nat.le_of_ble_eq_true rfl⟩ rfl rfl (Nat.le_of_ble_eq_true rfl) (dget kX9_passes 12 rfl) (tX9_toldIn h) (fun r_5 σ_4 h => ?_)
  refine wr_if_eq (pc := 19) (tgt := 26) (dget kX9_passes 13 rfl) (by decide) (fun c_6 => ?_) (fun c_6 => ?_)
  · have h := h.1 c_6
    refine wr_iconst (pc := 26) (dget kX9_passes 16 rfl) ic_0 ?_
    refine wr_iadd (pc := 27) (dget kX9_passes 17 rfl) ?_
    refine wr_topi (fun x2_7 e_x2_7 => ?_)
    have h := h x2_7 e_x2_7
    refine wr_istore_n (pc := 28) (lv' := [(2, .int x2_7), (0, .ref (G.1 71)), (1, .int p1)]) (dget kX9_passes 18 rfl) (by decide) rfl ?_
    refine wr_iconst (pc := 29) (dget kX9_passes 19 rfl) ic_0 ?_
    refine wr_istore_n (pc := 30) (lv' := [(3, .int (0 : Int32)), (2, .int x2_7), (0, .ref (G.1 71)), (1, .int p1)]) (dget kX9_passes 20 rfl) (by decide) rfl ?_
    obtain ⟨fu, h⟩ := h
    refine wr_sub [2, 3, 1, 0] rfl ?_
    refine tX9_passes_31 (fun σ_8 h => ?_) fu _ _ h
    refine wr_iconst (pc := 81) (dget kX9_passes 53 rfl) ic_0 ?_
    refine wr_istore_n (pc := 82) (lv' := [(3, .int (0 : Int32)), (0, .ref (G.1 71)), (1, .int p1)]) (dget kX9_passes 54 rfl) (by decide) rfl ?_
    obtain ⟨fu, h⟩ := h
    refine wr_sub [1, 2, 0] rfl ?_
    refine tX9_passes_83 (fun σ_9 h => ?_) fu _ _ h
    exact wr_vret (pc := 148) rfl (dget kX9_passes 97 rfl) ⟨rfl, h⟩
  · have h := h.2 c_6
    refine wr_iconst (pc := 22) (dget kX9_passes 14 rfl) ic_1 ?_
    refine wr_goto (pc := 23) (tgt := 27) (dget kX9_passes 15 rfl) (by decide) ?_
    refine wr_iadd (pc := 27) (dget kX9_passes 17 rfl) ?_
    refine wr_topi (fun x2_10 e_x2_10 => ?_)
    have h := h x2_10 e_x2_10
    refine wr_istore_n (pc := 28) (lv' := [(2, .int x2_10), (0, .ref (G.1 71)), (1, .int p1)]) (dget kX9_passes 18 rfl) (by decide) rfl ?_
    refine wr_iconst (pc := 29) (dget kX9_passes 19 rfl) ic_0 ?_
    refine wr_istore_n (pc := 30) (lv' := [(3, .int (0 : Int32)), (2, .int x2_10), (0, .ref (G.1 71)), (1, .int p1)]) (dget kX9_passes 20 rfl) (by decide) rfl ?_
    obtain ⟨fu, h⟩ := h
    refine wr_sub [2, 3, 1, 0] rfl ?_
    refine tX9_passes_31 (fun σ_11 h => ?_) fu _ _ h
    refine wr_iconst (pc := 81) (dget kX9_passes 53 rfl) ic_0 ?_
    refine wr_istore_n (pc := 82) (lv' := [(3, .int (0 : Int32)), (0, .ref (G.1 71)), (1, .int p1)]) (dget kX9_passes 54 rfl) (by decide) rfl ?_
    obtain ⟨fu, h⟩ := h
    refine wr_sub [1, 2, 0] rfl ?_
    refine tX9_passes_83 (fun σ_12 h => ?_) fu _ _ h
    exact wr_vret (pc := 148) rfl (dget kX9_passes 97 rfl) ⟨rfl, h⟩
def vX9_lives_76 (post : Hp → Prop) (ex : Hp → Prop) : Nat → Int32 → Hp → Prop
  | 0 => fun _ _ => False
  | n + 1 => fun x1 σ => (((24 : Int32) ≤ x1 → (ex σ)) ∧ (¬ (24 : Int32) ≤ x1 → (vX9_passes x1 σ (fun σ_2 => (∀ x1_4 : Int32, x1_4 = x1 + (1 : Int32) → vX9_lives_76 post ex  n x1_4 σ_2)))))
set_option maxHeartbeats 4000000 in
set_option maxRecDepth 100000 in
theorem tX9_lives_76 {G : GT} {post : Hp → Prop} {ex : Hp → Prop} (hex : ∀  (τ : Hp), ex  τ → WP G mX9_lives 93 [] [] τ (LV post)) : ∀ (n : Nat) (x1 : Int32) (σ : Hp), vX9_lives_76 post ex  n x1 σ → WP G mX9_lives 76 [(0, .ref (G.1 71)), (1, .int x1)] [] σ (LV post) := by
  intro n
  induction n with
  | zero => intro x1 σ h; exact False.elim h
  | succ n ih =>
    intro x1 σ h
    simp only [vX9_lives_76] at h
    refine wr_iload_n (pc := 76) (dget kX9_lives 49 rfl) 1 rfl ?_
    refine wr_bipush (pc := 77) (dget kX9_lives 50 rfl) bp_24 ?_
    refine wr_icmp_ge (pc := 79) (tgt := 93) (dget kX9_lives 51 rfl) (by decide) (fun c_1 => ?_) (fun c_1 => ?_)
    · have h := h.1 c_1
      refine wr_sub [] rfl ?_
      exact hex  _ h
    · have h := h.2 c_1
      refine wr_aload_n (pc := 82) (dget kX9_lives 52 rfl) 0 rfl ?_
      refine wr_iload_n (pc := 83) (dget kX9_lives 53 rfl) 1 rfl ?_
      refine wr_callVv (pc := 84) (Mc := mX9_passes) (o := 71) (rest := []) cf_X9_200 cv_X9_passes kd_71 rfl ⟨Nat.le_of_ble_eq_true rfl, Nat.le_of_ble_eq_true rfl⟩ rfl rfl (Nat.le_of_ble_eq_true rfl) (dget kX9_lives 54 rfl) (tX9_passes h) (fun σ_2 h => ?_)
      obtain ⟨x1_4, e_x1_4⟩ : ∃ y : Int32, y = x1 + (1 : Int32) := ⟨_, rfl⟩
      have h := h x1_4 e_x1_4
      refine wr_iinc (pc := 87) (v := x1_4) (lv' := [(1, .int x1_4), (0, .ref (G.1 71))]) (dget kX9_lives 55 rfl) 1 rfl (by rw [e_x1_4, ic_1]) (by decide) rfl ?_
      refine wr_goto (pc := 90) (tgt := 76) (dget kX9_lives 56 rfl) (by decide) ?_
      refine wr_sub [1, 0] rfl ?_
      exact ih _ _ h
def vX9_lives_48 (post : Hp → Prop) (ex : Hp → Prop) : Nat → Int32 → Hp → Prop
  | 0 => fun _ _ => False
  | n + 1 => fun x1 σ => (((12 : Int32) ≤ x1 → (ex σ)) ∧ (¬ (12 : Int32) ≤ x1 → (vp_in x1 12 ∧ ∀ σ_3 : Hp, σ_3 = wI σ 86 x1.toNatClampNeg (-1 : Int32) → (vp_in x1 12 ∧ ∀ σ_5 : Hp, σ_5 = wI σ_3 87 x1.toNatClampNeg (0 : Int32) → (∀ x1_6 : Int32, x1_6 = x1 + (1 : Int32) → vX9_lives_48 post ex  n x1_6 σ_5)))))
set_option maxHeartbeats 4000000 in
set_option maxRecDepth 100000 in
theorem tX9_lives_48 {G : GT} {post : Hp → Prop} {ex : Hp → Prop} (hex : ∀  (τ : Hp), ex  τ → WP G mX9_lives 74 [(0, .ref (G.1 71))] [] τ (LV post)) : ∀ (n : Nat) (x1 : Int32) (σ : Hp), vX9_lives_48 post ex  n x1 σ → WP G mX9_lives 48 [(0, .ref (G.1 71)), (1, .int x1)] [] σ (LV post) := by
  intro n
  induction n with
  | zero => intro x1 σ h; exact False.elim h
  | succ n ih =>
    intro x1 σ h
    simp only [vX9_lives_48] at h
    refine wr_iload_n (pc := 48) (dget kX9_lives 32 rfl) 1 rfl ?_
    refine wr_bipush (pc := 49) (dget kX9_lives 33 rfl) bp_12 ?_
    refine wr_icmp_ge (pc := 51) (tgt := 74) (dget kX9_lives 34 rfl) (by decide) (fun c_1 => ?_) (fun c_1 => ?_)
    · have h := h.1 c_1
      refine wr_sub [0] rfl ?_
      exact hex  _ h
    · have h := h.2 c_1
      refine wr_aload_n (pc := 54) (dget kX9_lives 35 rfl) 0 rfl ?_
      refine wr_getRl (pc := 55) fl_X9_52 kd_71 fk_9_19 rt_71_19 (dget kX9_lives 36 rfl) ?_
      refine wr_iload_n (pc := 58) (dget kX9_lives 37 rfl) 1 rfl ?_
      refine wr_iconst (pc := 59) (dget kX9_lives 38 rfl) ic_m1 ?_
      obtain ⟨q_2, h⟩ := h
      refine wr_iastl (pc := 60) il_86 q_2 (dget kX9_lives 39 rfl) ?_
      refine wr_tops (fun σ_3 e_σ_3 => ?_)
      have h := h σ_3 e_σ_3
      refine wr_aload_n (pc := 61) (dget kX9_lives 40 rfl) 0 rfl ?_
      refine wr_getRl (pc := 62) fl_X9_55 kd_71 fk_9_20 rt_71_20 (dget kX9_lives 41 rfl) ?_
      refine wr_iload_n (pc := 65) (dget kX9_lives 42 rfl) 1 rfl ?_
      refine wr_iconst (pc := 66) (dget kX9_lives 43 rfl) ic_0 ?_
      obtain ⟨q_4, h⟩ := h
      refine wr_iastl (pc := 67) il_87 q_4 (dget kX9_lives 44 rfl) ?_
      refine wr_tops (fun σ_5 e_σ_5 => ?_)
      have h := h σ_5 e_σ_5
      obtain ⟨x1_6, e_x1_6⟩ : ∃ y : Int32, y = x1 + (1 : Int32) := ⟨_, rfl⟩
      have h := h x1_6 e_x1_6
      refine wr_iinc (pc := 68) (v := x1_6) (lv' := [(1, .int x1_6), (0, .ref (G.1 71))]) (dget kX9_lives 45 rfl) 1 rfl (by rw [e_x1_6, ic_1]) (by decide) rfl ?_
      refine wr_goto (pc := 71) (tgt := 48) (dget kX9_lives 46 rfl) (by decide) ?_
      refine wr_sub [1, 0] rfl ?_
      exact ih _ _ h
def vX9_lives_2 (post : Hp → Prop) (ex : Hp → Prop) : Nat → Int32 → Hp → Prop
  | 0 => fun _ _ => False
  | n + 1 => fun x1 σ => (((σ.1 71 8) ≤ x1 → (ex σ)) ∧ (¬ (σ.1 71 8) ≤ x1 → (vp_in (((4 : Int32) * x1) + (1 : Int32)) 48 ∧ (vp_in x1 12 ∧ ∀ σ_4 : Hp, σ_4 = wI σ 83 x1.toNatClampNeg (σ.1 79 ((((4 : Int32) * x1) + (1 : Int32))).toNatClampNeg) → (vp_in x1 12 ∧ ∀ σ_6 : Hp, σ_6 = wI σ_4 84 x1.toNatClampNeg (0 : Int32) → (vp_in x1 12 ∧ ∀ σ_8 : Hp, σ_8 = wI σ_6 85 x1.toNatClampNeg (0 : Int32) → (∀ x1_9 : Int32, x1_9 = x1 + (1 : Int32) → vX9_lives_2 post ex  n x1_9 σ_8)))))))
set_option maxHeartbeats 4000000 in
set_option maxRecDepth 100000 in
theorem tX9_lives_2 {G : GT} {post : Hp → Prop} {ex : Hp → Prop} (hex : ∀  (τ : Hp), ex  τ → WP G mX9_lives 46 [(0, .ref (G.1 71))] [] τ (LV post)) : ∀ (n : Nat) (x1 : Int32) (σ : Hp), vX9_lives_2 post ex  n x1 σ → WP G mX9_lives 2 [(0, .ref (G.1 71)), (1, .int x1)] [] σ (LV post) := by
  intro n
  induction n with
  | zero => intro x1 σ h; exact False.elim h
  | succ n ih =>
    intro x1 σ h
    simp only [vX9_lives_2] at h
    refine wr_iload_n (pc := 2) (dget kX9_lives 2 rfl) 1 rfl ?_
    refine wr_aload_n (pc := 3) (dget kX9_lives 3 rfl) 0 rfl ?_
    refine wr_getI (pc := 4) (σ := σ) fl_X9_123 kd_71 fk_9_8 (dget kX9_lives 4 rfl) ?_
    refine wr_icmp_ge (pc := 7) (tgt := 46) (dget kX9_lives 5 rfl) (by decide) (fun c_1 => ?_) (fun c_1 => ?_)
    · have h := h.1 c_1
      refine wr_sub [0] rfl ?_
      exact hex  _ h
    · have h := h.2 c_1
      refine wr_aload_n (pc := 10) (dget kX9_lives 6 rfl) 0 rfl ?_
      refine wr_getRl (pc := 11) fl_X9_43 kd_71 fk_9_16 rt_71_16 (dget kX9_lives 7 rfl) ?_
      refine wr_iload_n (pc := 14) (dget kX9_lives 8 rfl) 1 rfl ?_
      refine wr_aload_n (pc := 15) (dget kX9_lives 9 rfl) 0 rfl ?_
      refine wr_getRl (pc := 16) fl_X9_31 kd_71 fk_9_9 rt_71_9 (dget kX9_lives 10 rfl) ?_
      refine wr_iconst (pc := 19) (dget kX9_lives 11 rfl) ic_4 ?_
      refine wr_iload_n (pc := 20) (dget kX9_lives 12 rfl) 1 rfl ?_
      refine wr_imul (pc := 21) (dget kX9_lives 13 rfl) ?_
      refine wr_iconst (pc := 22) (dget kX9_lives 14 rfl) ic_1 ?_
      refine wr_iadd (pc := 23) (dget kX9_lives 15 rfl) ?_
      obtain ⟨q_2, h⟩ := h
      refine wr_ialdl (pc := 24) (σ := σ) il_79 q_2 (dget kX9_lives 16 rfl) ?_
      obtain ⟨q_3, h⟩ := h
      refine wr_iastl (pc := 25) il_83 q_3 (dget kX9_lives 17 rfl) ?_
      refine wr_tops (fun σ_4 e_σ_4 => ?_)
      have h := h σ_4 e_σ_4
      refine wr_aload_n (pc := 26) (dget kX9_lives 18 rfl) 0 rfl ?_
      refine wr_getRl (pc := 27) fl_X9_46 kd_71 fk_9_17 rt_71_17 (dget kX9_lives 19 rfl) ?_
      refine wr_iload_n (pc := 30) (dget kX9_lives 20 rfl) 1 rfl ?_
      refine wr_iconst (pc := 31) (dget kX9_lives 21 rfl) ic_0 ?_
      obtain ⟨q_5, h⟩ := h
      refine wr_iastl (pc := 32) il_84 q_5 (dget kX9_lives 22 rfl) ?_
      refine wr_tops (fun σ_6 e_σ_6 => ?_)
      have h := h σ_6 e_σ_6
      refine wr_aload_n (pc := 33) (dget kX9_lives 23 rfl) 0 rfl ?_
      refine wr_getRl (pc := 34) fl_X9_49 kd_71 fk_9_18 rt_71_18 (dget kX9_lives 24 rfl) ?_
      refine wr_iload_n (pc := 37) (dget kX9_lives 25 rfl) 1 rfl ?_
      refine wr_iconst (pc := 38) (dget kX9_lives 26 rfl) ic_0 ?_
      obtain ⟨q_7, h⟩ := h
      refine wr_iastl (pc := 39) il_85 q_7 (dget kX9_lives 27 rfl) ?_
      refine wr_tops (fun σ_8 e_σ_8 => ?_)
      have h := h σ_8 e_σ_8
      obtain ⟨x1_9, e_x1_9⟩ : ∃ y : Int32, y = x1 + (1 : Int32) := ⟨_, rfl⟩
      have h := h x1_9 e_x1_9
      refine wr_iinc (pc := 40) (v := x1_9) (lv' := [(1, .int x1_9), (0, .ref (G.1 71))]) (dget kX9_lives 28 rfl) 1 rfl (by rw [e_x1_9, ic_1]) (by decide) rfl ?_
      refine wr_goto (pc := 43) (tgt := 2) (dget kX9_lives 29 rfl) (by decide) ?_
      refine wr_sub [1, 0] rfl ?_
      exact ih _ _ h
def vX9_lives (σ : Hp) (post : Hp → Prop) : Prop := (∃ fu : Nat, vX9_lives_2 post (fun σ_1 => (∃ fu : Nat, vX9_lives_48 post (fun σ_2 => (∃ fu : Nat, vX9_lives_76 post (fun σ_3 => post σ_3)  fu (0 : Int32) σ_2))  fu (0 : Int32) σ_1))  fu (0 : Int32) σ)
set_option maxHeartbeats 4000000 in
set_option maxRecDepth 100000 in
theorem tX9_lives {G : GT} {σ : Hp} {post : Hp → Prop} (h : vX9_lives  σ post) : CT G mX9_lives [.ref (G.1 71)] σ (LV post) := by
  refine CT.of (by decide +kernel) (Nat.le_of_ble_eq_true rfl) ?_
  show WP G mX9_lives 0 [(0, .ref (G.1 71))] [] σ (LV post)
  unfold vX9_lives at h
  refine wr_iconst (pc := 0) (dget kX9_lives 0 rfl) ic_0 ?_
  refine wr_istore_n (pc := 1) (lv' := [(1, .int (0 : Int32)), (0, .ref (G.1 71))]) (dget kX9_lives 1 rfl) (by decide) rfl ?_
  obtain ⟨fu, h⟩ := h
  refine wr_sub [1, 0] rfl ?_
  refine tX9_lives_2 (fun σ_1 h => ?_) fu _ _ h
  refine wr_iconst (pc := 46) (dget kX9_lives 30 rfl) ic_0 ?_
  refine wr_istore_n (pc := 47) (lv' := [(1, .int (0 : Int32)), (0, .ref (G.1 71))]) (dget kX9_lives 31 rfl) (by decide) rfl ?_
  obtain ⟨fu, h⟩ := h
  refine wr_sub [1, 0] rfl ?_
  refine tX9_lives_48 (fun σ_2 h => ?_) fu _ _ h
  refine wr_iconst (pc := 74) (dget kX9_lives 47 rfl) ic_0 ?_
  refine wr_istore_n (pc := 75) (lv' := [(1, .int (0 : Int32)), (0, .ref (G.1 71))]) (dget kX9_lives 48 rfl) (by decide) rfl ?_
  obtain ⟨fu, h⟩ := h
  refine wr_sub [1, 0] rfl ?_
  refine tX9_lives_76 (fun σ_3 h => ?_) fu _ _ h
  exact wr_vret (pc := 93) rfl (dget kX9_lives 57 rfl) ⟨rfl, h⟩
def vX9_find (σ : Hp) (post : Hp → Prop) : Prop := (vX9_readsChains  σ (fun r_2 σ_1 => (vX9_readsDucks  σ_1 (fun r_4 σ_3 => (vX9_readsShots  σ_3 (fun r_6 σ_5 => (vX9_lives  σ_5 (fun σ_7 => post σ_7))))))))
set_option maxHeartbeats 4000000 in
set_option maxRecDepth 100000 in
theorem tX9_find {G : GT} {σ : Hp} {post : Hp → Prop} (h : vX9_find  σ post) : CT G mX9_find [.ref (G.1 71)] σ (LV post) := by
  refine CT.of (by decide +kernel) (Nat.le_of_ble_eq_true rfl) ?_
  show WP G mX9_find 0 [(0, .ref (G.1 71))] [] σ (LV post)
  unfold vX9_find at h
  refine wr_aload_n (pc := 0) (dget kX9_find 0 rfl) 0 rfl ?_
  refine wr_callVi (pc := 1) (Mc := mX9_readsChains) (o := 71) (rest := []) cf_X9_138 cv_X9_readsChains kd_71 rfl ⟨Nat.le_of_ble_eq_true rfl, Nat.le_of_ble_eq_true rfl⟩ rfl rfl (Nat.le_of_ble_eq_true rfl) (dget kX9_find 1 rfl) (tX9_readsChains h) (fun r_2 σ_1 h => ?_)
  refine wr_pop (pc := 4) (dget kX9_find 2 rfl) rfl ?_
  refine wr_aload_n (pc := 5) (dget kX9_find 3 rfl) 0 rfl ?_
  refine wr_callVi (pc := 6) (Mc := mX9_readsDucks) (o := 71) (rest := []) cf_X9_142 cv_X9_readsDucks kd_71 rfl ⟨Nat.le_of_ble_eq_true rfl, Nat.le_of_ble_eq_true rfl⟩ rfl rfl (Nat.le_of_ble_eq_true rfl) (dget kX9_find 4 rfl) (tX9_readsDucks h) (fun r_4 σ_3 h => ?_)
  refine wr_pop (pc := 9) (dget kX9_find 5 rfl) rfl ?_
  refine wr_aload_n (pc := 10) (dget kX9_find 6 rfl) 0 rfl ?_
  refine wr_callVi (pc := 11) (Mc := mX9_readsShots) (o := 71) (rest := []) cf_X9_145 cv_X9_readsShots kd_71 rfl ⟨Nat.le_of_ble_eq_true rfl, Nat.le_of_ble_eq_true rfl⟩ rfl rfl (Nat.le_of_ble_eq_true rfl) (dget kX9_find 7 rfl) (tX9_readsShots h) (fun r_6 σ_5 h => ?_)
  refine wr_pop (pc := 14) (dget kX9_find 8 rfl) rfl ?_
  refine wr_aload_n (pc := 15) (dget kX9_find 9 rfl) 0 rfl ?_
  refine wr_callVv (pc := 16) (Mc := mX9_lives) (o := 71) (rest := []) cf_X9_203 cv_X9_lives kd_71 rfl ⟨Nat.le_of_ble_eq_true rfl, Nat.le_of_ble_eq_true rfl⟩ rfl rfl (Nat.le_of_ble_eq_true rfl) (dget kX9_find 10 rfl) (tX9_lives h) (fun σ_7 h => ?_)
  exact wr_vret (pc := 19) rfl (dget kX9_find 11 rfl) ⟨rfl, h⟩
def vX9_atBy (p1 : Int32) (p2 : Int32) (p3 : Int32) (σ : Hp) (post : Int32 → Hp → Prop) : Prop := (∀ x4_1 : Int32, x4_1 = (((12 : Int32) * p1) + p2) → ((p3 = 0 → (vp_in x4_1 288 ∧ post (σ.1 88 x4_1.toNatClampNeg) σ)) ∧ (¬ p3 = 0 → ((p3 = (1 : Int32) → (vp_in x4_1 288 ∧ post (σ.1 89 x4_1.toNatClampNeg) σ)) ∧ (¬ p3 = (1 : Int32) → (vp_in x4_1 288 ∧ post (σ.1 90 x4_1.toNatClampNeg) σ))))))
set_option maxHeartbeats 4000000 in
set_option maxRecDepth 100000 in
theorem tX9_atBy {G : GT} {p1 : Int32} {p2 : Int32} {p3 : Int32} {σ : Hp} {post : Int32 → Hp → Prop} (h : vX9_atBy p1 p2 p3 σ post) : CT G mX9_atBy [.ref (G.1 71), .int p1, .int p2, .int p3] σ (LI post) := by
  refine CT.of (by decide +kernel) (Nat.le_of_ble_eq_true rfl) ?_
  show WP G mX9_atBy 0 [(0, .ref (G.1 71)), (1, .int p1), (2, .int p2), (3, .int p3)] [] σ (LI post)
  unfold vX9_atBy at h
  refine wr_bipush (pc := 0) (dget kX9_atBy 0 rfl) bp_12 ?_
  refine wr_iload_n (pc := 2) (dget kX9_atBy 1 rfl) 1 rfl ?_
  refine wr_imul (pc := 3) (dget kX9_atBy 2 rfl) ?_
  refine wr_iload_n (pc := 4) (dget kX9_atBy 3 rfl) 2 rfl ?_
  refine wr_iadd (pc := 5) (dget kX9_atBy 4 rfl) ?_
  refine wr_topi (fun x4_1 e_x4_1 => ?_)
  have h := h x4_1 e_x4_1
  refine wr_istore (pc := 6) (lv' := [(4, .int x4_1), (0, .ref (G.1 71)), (1, .int p1), (2, .int p2), (3, .int p3)]) (dget kX9_atBy 5 rfl) (by decide) rfl ?_
  refine wr_iload_n (pc := 8) (dget kX9_atBy 6 rfl) 4 rfl ?_
  refine wr_if_ne (pc := 9) (tgt := 22) (dget kX9_atBy 7 rfl) (by decide) (fun c_2 => ?_) (fun c_2 => ?_)
  · have h := h.2 c_2
    refine wr_iload_n (pc := 22) (dget kX9_atBy 13 rfl) 4 rfl ?_
    refine wr_iconst (pc := 23) (dget kX9_atBy 14 rfl) ic_1 ?_
    refine wr_icmp_ne (pc := 24) (tgt := 37) (dget kX9_atBy 15 rfl) (by decide) (fun c_3 => ?_) (fun c_3 => ?_)
    · have h := h.2 c_3
      refine wr_aload_n (pc := 37) (dget kX9_atBy 21 rfl) 1 rfl ?_
      refine wr_getRl (pc := 38) fl_X9_64 kd_71 fk_9_23 rt_71_23 (dget kX9_atBy 22 rfl) ?_
      refine wr_iload (pc := 41) (dget kX9_atBy 23 rfl) 0 rfl ?_
      obtain ⟨q_4, h⟩ := h
      refine wr_ialdl (pc := 43) (σ := σ) il_90 q_4 (dget kX9_atBy 24 rfl) ?_
      exact wr_iret (pc := 44) rfl (dget kX9_atBy 25 rfl) ⟨_, rfl, h⟩
    · have h := h.1 c_3
      refine wr_aload_n (pc := 27) (dget kX9_atBy 16 rfl) 1 rfl ?_
      refine wr_getRl (pc := 28) fl_X9_61 kd_71 fk_9_22 rt_71_22 (dget kX9_atBy 17 rfl) ?_
      refine wr_iload (pc := 31) (dget kX9_atBy 18 rfl) 0 rfl ?_
      obtain ⟨q_5, h⟩ := h
      refine wr_ialdl (pc := 33) (σ := σ) il_89 q_5 (dget kX9_atBy 19 rfl) ?_
      refine wr_goto (pc := 34) (tgt := 44) (dget kX9_atBy 20 rfl) (by decide) ?_
      exact wr_iret (pc := 44) rfl (dget kX9_atBy 25 rfl) ⟨_, rfl, h⟩
  · have h := h.1 c_2
    refine wr_aload_n (pc := 12) (dget kX9_atBy 8 rfl) 1 rfl ?_
    refine wr_getRl (pc := 13) fl_X9_58 kd_71 fk_9_21 rt_71_21 (dget kX9_atBy 9 rfl) ?_
    refine wr_iload (pc := 16) (dget kX9_atBy 10 rfl) 0 rfl ?_
    obtain ⟨q_6, h⟩ := h
    refine wr_ialdl (pc := 18) (σ := σ) il_88 q_6 (dget kX9_atBy 11 rfl) ?_
    refine wr_goto (pc := 19) (tgt := 44) (dget kX9_atBy 12 rfl) (by decide) ?_
    exact wr_iret (pc := 44) rfl (dget kX9_atBy 25 rfl) ⟨_, rfl, h⟩
def vX9_at (p1 : Int32) (p2 : Int32) (p3 : Int32) (σ : Hp) (post : Int32 → Hp → Prop) : Prop := (vX9_find  σ (fun σ_1 => (vX9_isTick p1 σ_1 (fun r_4 σ_3 => ((r_4 = 0 → post (-2 : Int32) σ_3) ∧ (¬ r_4 = 0 → (vX9_isDuck p2 σ_3 (fun r_7 σ_6 => ((r_7 = 0 → post (-2 : Int32) σ_6) ∧ (¬ r_7 = 0 → (vX9_in p3.toInt64 (0 : Int64) (2 : Int64) σ_6 (fun r_10 σ_9 => ((r_10 = 0 → post (-2 : Int32) σ_9) ∧ (¬ r_10 = 0 → (vX9_atBy p1 p2 p3 σ_9 (fun r_13 σ_12 => post r_13 σ_12))))))))))))))))
set_option maxHeartbeats 4000000 in
set_option maxRecDepth 100000 in
theorem tX9_at {G : GT} {p1 : Int32} {p2 : Int32} {p3 : Int32} {σ : Hp} {post : Int32 → Hp → Prop} (h : vX9_at p1 p2 p3 σ post) : CT G mX9_at [.ref (G.1 71), .int p1, .int p2, .int p3] σ (LI post) := by
  refine CT.of (by decide +kernel) (Nat.le_of_ble_eq_true rfl) ?_
  show WP G mX9_at 0 [(0, .ref (G.1 71)), (1, .int p1), (2, .int p2), (3, .int p3)] [] σ (LI post)
  unfold vX9_at at h
  refine wr_aload_n (pc := 0) (dget kX9_at 0 rfl) 0 rfl ?_
  refine wr_callVv (pc := 1) (Mc := mX9_find) (o := 71) (rest := []) cf_X9_206 cv_X9_find kd_71 rfl ⟨Nat.le_of_ble_eq_true rfl, Nat.le_of_ble_eq_true rfl⟩ rfl rfl (Nat.le_of_ble_eq_true rfl) (dget kX9_at 1 rfl) (tX9_find h) (fun σ_1 h => ?_)
  refine wr_iload_n (pc := 4) (dget kX9_at 2 rfl) 1 rfl ?_
  refine wr_callSi (pc := 5) (Mc := mX9_isTick) (rest := []) cf_X9_167 cs_X9_isTick ⟨Nat.le_of_ble_eq_true rfl, Nat.le_of_ble_eq_true rfl⟩ rfl rfl (Nat.le_of_ble_eq_true rfl) (dget kX9_at 3 rfl) (tX9_isTick h) (fun r_4 σ_3 h => ?_)
  refine wr_if_eq (pc := 8) (tgt := 41) (dget kX9_at 4 rfl) (by decide) (fun c_5 => ?_) (fun c_5 => ?_)
  · have h := h.1 c_5
    refine wr_bipush (pc := 41) (dget kX9_at 21 rfl) bp_m2 ?_
    exact wr_iret (pc := 43) rfl (dget kX9_at 22 rfl) ⟨_, rfl, h⟩
  · have h := h.2 c_5
    refine wr_aload_n (pc := 11) (dget kX9_at 5 rfl) 0 rfl ?_
    refine wr_iload_n (pc := 12) (dget kX9_at 6 rfl) 2 rfl ?_
    refine wr_callVi (pc := 13) (Mc := mX9_isDuck) (o := 71) (rest := []) cf_X9_156 cv_X9_isDuck kd_71 rfl ⟨Nat.le_of_ble_eq_true rfl, Nat.le_of_ble_eq_true rfl⟩ rfl rfl (Nat.le_of_ble_eq_true rfl) (dget kX9_at 7 rfl) (tX9_isDuck h) (fun r_7 σ_6 h => ?_)
    refine wr_if_eq (pc := 16) (tgt := 41) (dget kX9_at 8 rfl) (by decide) (fun c_8 => ?_) (fun c_8 => ?_)
    · have h := h.1 c_8
      refine wr_bipush (pc := 41) (dget kX9_at 21 rfl) bp_m2 ?_
      exact wr_iret (pc := 43) rfl (dget kX9_at 22 rfl) ⟨_, rfl, h⟩
    · have h := h.2 c_8
      refine wr_iload_n (pc := 19) (dget kX9_at 9 rfl) 3 rfl ?_
      refine wr_i2l (pc := 20) (dget kX9_at 10 rfl) rfl ?_
      refine wr_lconst (pc := 21) (dget kX9_at 11 rfl) lc_0 ?_
      refine wr_ldc2 (pc := 22) kl_X9_89 (dget kX9_at 12 rfl) ?_
      refine wr_callSi (pc := 25) (Mc := mX9_in) (rest := []) cf_X9_75 cs_X9_in ⟨Nat.le_of_ble_eq_true rfl, Nat.le_of_ble_eq_true rfl⟩ rfl rfl (Nat.le_of_ble_eq_true rfl) (dget kX9_at 13 rfl) (tX9_in h) (fun r_10 σ_9 h => ?_)
      refine wr_if_eq (pc := 28) (tgt := 41) (dget kX9_at 14 rfl) (by decide) (fun c_11 => ?_) (fun c_11 => ?_)
      · have h := h.1 c_11
        refine wr_bipush (pc := 41) (dget kX9_at 21 rfl) bp_m2 ?_
        exact wr_iret (pc := 43) rfl (dget kX9_at 22 rfl) ⟨_, rfl, h⟩
      · have h := h.2 c_11
        refine wr_aload_n (pc := 31) (dget kX9_at 15 rfl) 0 rfl ?_
        refine wr_iload_n (pc := 32) (dget kX9_at 16 rfl) 1 rfl ?_
        refine wr_iload_n (pc := 33) (dget kX9_at 17 rfl) 2 rfl ?_
        refine wr_iload_n (pc := 34) (dget kX9_at 18 rfl) 3 rfl ?_
        refine wr_callVi (pc := 35) (Mc := mX9_atBy) (o := 71) (rest := []) cf_X9_209 cv_X9_atBy kd_71 rfl ⟨Nat.le_of_ble_eq_true rfl, Nat.le_of_ble_eq_true rfl⟩ rfl rfl (Nat.le_of_ble_eq_true rfl) (dget kX9_at 19 rfl) (tX9_atBy h) (fun r_13 σ_12 h => ?_)
        refine wr_goto (pc := 38) (tgt := 43) (dget kX9_at 20 rfl) (by decide) ?_
        exact wr_iret (pc := 43) rfl (dget kX9_at 22 rfl) ⟨_, rfl, h⟩
