def vX3_isFull (σ : Hp) (post : Int32 → Hp → Prop) : Prop := (((σ.1 47 3) < (8 : Int32) → post (0 : Int32) σ) ∧ (¬ (σ.1 47 3) < (8 : Int32) → post (1 : Int32) σ))
set_option maxHeartbeats 4000000 in
set_option maxRecDepth 100000 in
theorem tX3_isFull {G : GT} {σ : Hp} {post : Int32 → Hp → Prop} (h : vX3_isFull  σ post) : CT G mX3_isFull [.ref (G.1 47)] σ (LI post) := by
  refine CT.of (by decide +kernel) (Nat.le_of_ble_eq_true rfl) ?_
  show WP G mX3_isFull 0 [(0, .ref (G.1 47))] [] σ (LI post)
  unfold vX3_isFull at h
  refine wr_aload_n (pc := 0) (dget kX3_isFull 0 rfl) 0 rfl ?_
  refine wr_getI (pc := 1) (σ := σ) fl_X3_21 kd_47 fk_3_3 (dget kX3_isFull 1 rfl) ?_
  refine wr_bipush (pc := 4) (dget kX3_isFull 2 rfl) bp_8 ?_
  refine wr_icmp_lt (pc := 6) (tgt := 13) (dget kX3_isFull 3 rfl) (by decide) (fun c_1 => ?_) (fun c_1 => ?_)
  · have h := h.1 c_1
    refine wr_iconst (pc := 13) (dget kX3_isFull 6 rfl) ic_0 ?_
    exact wr_zret (pc := 14) rfl (by decide) (dget kX3_isFull 7 rfl) ⟨_, rfl, h⟩
  · have h := h.2 c_1
    refine wr_iconst (pc := 9) (dget kX3_isFull 4 rfl) ic_1 ?_
    refine wr_goto (pc := 10) (tgt := 14) (dget kX3_isFull 5 rfl) (by decide) ?_
    exact wr_zret (pc := 14) rfl (by decide) (dget kX3_isFull 7 rfl) ⟨_, rfl, h⟩
def vX3_append (p1 : Int32) (p2 : Int32) (p3 : Int32) (σ : Hp) (post : Hp → Prop) : Prop := (vp_in (σ.1 47 3) 8 ∧ ∀ σ_2 : Hp, σ_2 = wI σ 48 ((σ.1 47 3)).toNatClampNeg p1 → (vp_in (σ_2.1 47 3) 8 ∧ ∀ σ_4 : Hp, σ_4 = wI σ_2 49 ((σ_2.1 47 3)).toNatClampNeg p2 → (vp_in (σ_4.1 47 3) 8 ∧ ∀ σ_6 : Hp, σ_6 = wI σ_4 50 ((σ_4.1 47 3)).toNatClampNeg p3 → (∀ σ_7 : Hp, σ_7 = wI σ_6 47 3 ((σ_6.1 47 3) + (1 : Int32)) → post σ_7))))
set_option maxHeartbeats 4000000 in
set_option maxRecDepth 100000 in
theorem tX3_append {G : GT} {p1 : Int32} {p2 : Int32} {p3 : Int32} {σ : Hp} {post : Hp → Prop} (h : vX3_append p1 p2 p3 σ post) : CT G mX3_append [.ref (G.1 47), .int p1, .int p2, .int p3] σ (LV post) := by
  refine CT.of (by decide +kernel) (Nat.le_of_ble_eq_true rfl) ?_
  show WP G mX3_append 0 [(0, .ref (G.1 47)), (1, .int p1), (2, .int p2), (3, .int p3)] [] σ (LV post)
  unfold vX3_append at h
  refine wr_aload_n (pc := 0) (dget kX3_append 0 rfl) 0 rfl ?_
  refine wr_getRl (pc := 1) fl_X3_9 kd_47 fk_3_0 rt_47_0 (dget kX3_append 1 rfl) ?_
  refine wr_aload_n (pc := 4) (dget kX3_append 2 rfl) 0 rfl ?_
  refine wr_getI (pc := 5) (σ := σ) fl_X3_21 kd_47 fk_3_3 (dget kX3_append 3 rfl) ?_
  refine wr_iload_n (pc := 8) (dget kX3_append 4 rfl) 1 rfl ?_
  obtain ⟨q_1, h⟩ := h
  refine wr_iastl (pc := 9) il_48 q_1 (dget kX3_append 5 rfl) ?_
  refine wr_tops (fun σ_2 e_σ_2 => ?_)
  have h := h σ_2 e_σ_2
  refine wr_aload_n (pc := 10) (dget kX3_append 6 rfl) 0 rfl ?_
  refine wr_getRl (pc := 11) fl_X3_15 kd_47 fk_3_1 rt_47_1 (dget kX3_append 7 rfl) ?_
  refine wr_aload_n (pc := 14) (dget kX3_append 8 rfl) 0 rfl ?_
  refine wr_getI (pc := 15) (σ := σ_2) fl_X3_21 kd_47 fk_3_3 (dget kX3_append 9 rfl) ?_
  refine wr_iload_n (pc := 18) (dget kX3_append 10 rfl) 2 rfl ?_
  obtain ⟨q_3, h⟩ := h
  refine wr_iastl (pc := 19) il_49 q_3 (dget kX3_append 11 rfl) ?_
  refine wr_tops (fun σ_4 e_σ_4 => ?_)
  have h := h σ_4 e_σ_4
  refine wr_aload_n (pc := 20) (dget kX3_append 12 rfl) 0 rfl ?_
  refine wr_getRl (pc := 21) fl_X3_18 kd_47 fk_3_2 rt_47_2 (dget kX3_append 13 rfl) ?_
  refine wr_aload_n (pc := 24) (dget kX3_append 14 rfl) 0 rfl ?_
  refine wr_getI (pc := 25) (σ := σ_4) fl_X3_21 kd_47 fk_3_3 (dget kX3_append 15 rfl) ?_
  refine wr_iload_n (pc := 28) (dget kX3_append 16 rfl) 3 rfl ?_
  obtain ⟨q_5, h⟩ := h
  refine wr_iastl (pc := 29) il_50 q_5 (dget kX3_append 17 rfl) ?_
  refine wr_tops (fun σ_6 e_σ_6 => ?_)
  have h := h σ_6 e_σ_6
  refine wr_aload_n (pc := 30) (dget kX3_append 18 rfl) 0 rfl ?_
  refine wr_dup (pc := 31) (dget kX3_append 19 rfl) rfl ?_
  refine wr_getI (pc := 32) (σ := σ_6) fl_X3_21 kd_47 fk_3_3 (dget kX3_append 20 rfl) ?_
  refine wr_iconst (pc := 35) (dget kX3_append 21 rfl) ic_1 ?_
  refine wr_iadd (pc := 36) (dget kX3_append 22 rfl) ?_
  refine wr_putI (pc := 37) fl_X3_21 kd_47 fk_3_3 (vp_nar_int _) rfl (dget kX3_append 23 rfl) ?_
  refine wr_tops (fun σ_7 e_σ_7 => ?_)
  have h := h σ_7 e_σ_7
  exact wr_vret (pc := 40) rfl (dget kX3_append 24 rfl) ⟨rfl, h⟩
def vX3_fits_2 (post : Int32 → Hp → Prop) (ex : Hp → Prop) (a1 : Nat) (x2 : Int32) : Nat → Int32 → Hp → Prop
  | 0 => fun _ _ => False
  | n + 1 => fun x3 σ => (((σ.1 47 3) ≤ x3 → (ex σ)) ∧ (¬ (σ.1 47 3) ≤ x3 → (vp_in x3 8 ∧ (vp_in (σ.1 48 x3.toNatClampNeg) (iln a1) ∧ (vp_in x3 8 ∧ (vX8_isSet (σ.1 a1 ((σ.1 48 x3.toNatClampNeg)).toNatClampNeg) (σ.1 49 x3.toNatClampNeg) σ (fun r_6 σ_5 => (vp_in x3 8 ∧ ((x2 ≤ (σ_5.1 49 x3.toNatClampNeg) → post (0 : Int32) σ_5) ∧ (¬ x2 ≤ (σ_5.1 49 x3.toNatClampNeg) → (vp_in x3 8 ∧ (((σ_5.1 50 x3.toNatClampNeg) = (1 : Int32) → ((r_6 = (1 : Int32) → (∀ x3_14 : Int32, x3_14 = x3 + (1 : Int32) → vX3_fits_2 post ex a1 x2 n x3_14 σ_5)) ∧ (¬ r_6 = (1 : Int32) → post (0 : Int32) σ_5))) ∧ (¬ (σ_5.1 50 x3.toNatClampNeg) = (1 : Int32) → ((r_6 = (0 : Int32) → (∀ x3_12 : Int32, x3_12 = x3 + (1 : Int32) → vX3_fits_2 post ex a1 x2 n x3_12 σ_5)) ∧ (¬ r_6 = (0 : Int32) → post (0 : Int32) σ_5)))))))))))))))
set_option maxHeartbeats 4000000 in
set_option maxRecDepth 100000 in
theorem tX3_fits_2 {G : GT} {post : Int32 → Hp → Prop} {ex : Hp → Prop} {a1 : Nat} {x2 : Int32} (hex : ∀  (τ : Hp), ex  τ → WP G mX3_fits 67 [] [] τ (LI post)) : ∀ (n : Nat) (x3 : Int32) (σ : Hp), vX3_fits_2 post ex a1 x2 n x3 σ → WP G mX3_fits 2 [(0, .ref (G.1 47)), (1, .ref (G.1 a1)), (2, .int x2), (3, .int x3)] [] σ (LI post) := by
  intro n
  induction n with
  | zero => intro x3 σ h; exact False.elim h
  | succ n ih =>
    intro x3 σ h
    simp only [vX3_fits_2] at h
    refine wr_iload_n (pc := 2) (dget kX3_fits 2 rfl) 3 rfl ?_
    refine wr_aload_n (pc := 3) (dget kX3_fits 3 rfl) 0 rfl ?_
    refine wr_getI (pc := 4) (σ := σ) fl_X3_21 kd_47 fk_3_3 (dget kX3_fits 4 rfl) ?_
    refine wr_icmp_ge (pc := 7) (tgt := 67) (dget kX3_fits 5 rfl) (by decide) (fun c_1 => ?_) (fun c_1 => ?_)
    · have h := h.1 c_1
      refine wr_sub [] rfl ?_
      exact hex  _ h
    · have h := h.2 c_1
      refine wr_aload_n (pc := 10) (dget kX3_fits 6 rfl) 1 rfl ?_
      refine wr_aload_n (pc := 11) (dget kX3_fits 7 rfl) 0 rfl ?_
      refine wr_getRl (pc := 12) fl_X3_9 kd_47 fk_3_0 rt_47_0 (dget kX3_fits 8 rfl) ?_
      refine wr_iload_n (pc := 15) (dget kX3_fits 9 rfl) 3 rfl ?_
      obtain ⟨q_2, h⟩ := h
      refine wr_ialdl (pc := 16) (σ := σ) il_48 q_2 (dget kX3_fits 10 rfl) ?_
      obtain ⟨q_3, h⟩ := h
      refine wr_ialdl (pc := 17) (σ := σ) rfl q_3 (dget kX3_fits 11 rfl) ?_
      refine wr_aload_n (pc := 18) (dget kX3_fits 12 rfl) 0 rfl ?_
      refine wr_getRl (pc := 19) fl_X3_15 kd_47 fk_3_1 rt_47_1 (dget kX3_fits 13 rfl) ?_
      refine wr_iload_n (pc := 22) (dget kX3_fits 14 rfl) 3 rfl ?_
      obtain ⟨q_4, h⟩ := h
      refine wr_ialdl (pc := 23) (σ := σ) il_49 q_4 (dget kX3_fits 15 rfl) ?_
      refine wr_callSi (pc := 24) (Mc := mX8_isSet) (rest := []) cf_X3_25 cs_X8_isSet ⟨Nat.le_of_ble_eq_true rfl, Nat.le_of_ble_eq_true rfl⟩ rfl rfl (Nat.le_of_ble_eq_true rfl) (dget kX3_fits 16 rfl) (tX8_isSet h) (fun r_6 σ_5 h => ?_)
      refine wr_istore (pc := 27) (lv' := [(4, .int r_6), (0, .ref (G.1 47)), (1, .ref (G.1 a1)), (2, .int x2), (3, .int x3)]) (dget kX3_fits 17 rfl) (by decide) rfl ?_
      refine wr_aload_n (pc := 29) (dget kX3_fits 18 rfl) 1 rfl ?_
      refine wr_getRl (pc := 30) fl_X3_15 kd_47 fk_3_1 rt_47_1 (dget kX3_fits 19 rfl) ?_
      refine wr_iload_n (pc := 33) (dget kX3_fits 20 rfl) 4 rfl ?_
      obtain ⟨q_7, h⟩ := h
      refine wr_ialdl (pc := 34) (σ := σ_5) il_49 q_7 (dget kX3_fits 21 rfl) ?_
      refine wr_iload_n (pc := 35) (dget kX3_fits 22 rfl) 3 rfl ?_
      refine wr_icmp_ge (pc := 36) (tgt := 59) (dget kX3_fits 23 rfl) (by decide) (fun c_8 => ?_) (fun c_8 => ?_)
      · have h := h.1 c_8
        refine wr_iconst (pc := 59) (dget kX3_fits 35 rfl) ic_0 ?_
        exact wr_zret (pc := 60) rfl (by decide) (dget kX3_fits 36 rfl) ⟨_, rfl, h⟩
      · have h := h.2 c_8
        refine wr_iload (pc := 39) (dget kX3_fits 24 rfl) 0 rfl ?_
        refine wr_aload_n (pc := 41) (dget kX3_fits 25 rfl) 1 rfl ?_
        refine wr_getRl (pc := 42) fl_X3_18 kd_47 fk_3_2 rt_47_2 (dget kX3_fits 26 rfl) ?_
        refine wr_iload_n (pc := 45) (dget kX3_fits 27 rfl) 4 rfl ?_
        obtain ⟨q_9, h⟩ := h
        refine wr_ialdl (pc := 46) (σ := σ_5) il_50 q_9 (dget kX3_fits 28 rfl) ?_
        refine wr_iconst (pc := 47) (dget kX3_fits 29 rfl) ic_1 ?_
        refine wr_icmp_ne (pc := 48) (tgt := 55) (dget kX3_fits 30 rfl) (by decide) (fun c_10 => ?_) (fun c_10 => ?_)
        · have h := h.2 c_10
          refine wr_iconst (pc := 55) (dget kX3_fits 33 rfl) ic_0 ?_
          refine wr_icmp_eq (pc := 56) (tgt := 61) (dget kX3_fits 34 rfl) (by decide) (fun c_11 => ?_) (fun c_11 => ?_)
          · have h := h.1 c_11
            obtain ⟨x3_12, e_x3_12⟩ : ∃ y : Int32, y = x3 + (1 : Int32) := ⟨_, rfl⟩
            have h := h x3_12 e_x3_12
            refine wr_iinc (pc := 61) (v := x3_12) (lv' := [(3, .int x3_12), (4, .int r_6), (0, .ref (G.1 47)), (1, .ref (G.1 a1)), (2, .int x2)]) (dget kX3_fits 37 rfl) 4 rfl (by rw [e_x3_12, ic_1]) (by decide) rfl ?_
            refine wr_goto (pc := 64) (tgt := 2) (dget kX3_fits 38 rfl) (by decide) ?_
            refine wr_sub [2, 3, 4, 0] rfl ?_
            exact ih _ _ h
          · have h := h.2 c_11
            refine wr_iconst (pc := 59) (dget kX3_fits 35 rfl) ic_0 ?_
            exact wr_zret (pc := 60) rfl (by decide) (dget kX3_fits 36 rfl) ⟨_, rfl, h⟩
        · have h := h.1 c_10
          refine wr_iconst (pc := 51) (dget kX3_fits 31 rfl) ic_1 ?_
          refine wr_goto (pc := 52) (tgt := 56) (dget kX3_fits 32 rfl) (by decide) ?_
          refine wr_icmp_eq (pc := 56) (tgt := 61) (dget kX3_fits 34 rfl) (by decide) (fun c_13 => ?_) (fun c_13 => ?_)
          · have h := h.1 c_13
            obtain ⟨x3_14, e_x3_14⟩ : ∃ y : Int32, y = x3 + (1 : Int32) := ⟨_, rfl⟩
            have h := h x3_14 e_x3_14
            refine wr_iinc (pc := 61) (v := x3_14) (lv' := [(3, .int x3_14), (4, .int r_6), (0, .ref (G.1 47)), (1, .ref (G.1 a1)), (2, .int x2)]) (dget kX3_fits 37 rfl) 4 rfl (by rw [e_x3_14, ic_1]) (by decide) rfl ?_
            refine wr_goto (pc := 64) (tgt := 2) (dget kX3_fits 38 rfl) (by decide) ?_
            refine wr_sub [2, 3, 4, 0] rfl ?_
            exact ih _ _ h
          · have h := h.2 c_13
            refine wr_iconst (pc := 59) (dget kX3_fits 35 rfl) ic_0 ?_
            exact wr_zret (pc := 60) rfl (by decide) (dget kX3_fits 36 rfl) ⟨_, rfl, h⟩
def vX3_fits (a1 : Nat) (p2 : Int32) (σ : Hp) (post : Int32 → Hp → Prop) : Prop := (∃ fu : Nat, vX3_fits_2 post (fun σ_1 => post (1 : Int32) σ_1) a1 p2 fu (0 : Int32) σ)
set_option maxHeartbeats 4000000 in
set_option maxRecDepth 100000 in
theorem tX3_fits {G : GT} {a1 : Nat} {p2 : Int32} {σ : Hp} {post : Int32 → Hp → Prop} (h : vX3_fits a1 p2 σ post) : CT G mX3_fits [.ref (G.1 47), .ref (G.1 a1), .int p2] σ (LI post) := by
  refine CT.of (by decide +kernel) (Nat.le_of_ble_eq_true rfl) ?_
  show WP G mX3_fits 0 [(0, .ref (G.1 47)), (1, .ref (G.1 a1)), (2, .int p2)] [] σ (LI post)
  unfold vX3_fits at h
  refine wr_iconst (pc := 0) (dget kX3_fits 0 rfl) ic_0 ?_
  refine wr_istore_n (pc := 1) (lv' := [(3, .int (0 : Int32)), (0, .ref (G.1 47)), (1, .ref (G.1 a1)), (2, .int p2)]) (dget kX3_fits 1 rfl) (by decide) rfl ?_
  obtain ⟨fu, h⟩ := h
  refine wr_sub [1, 2, 3, 0] rfl ?_
  refine tX3_fits_2 (fun σ_1 h => ?_) fu _ _ h
  refine wr_iconst (pc := 67) (dget kX3_fits 39 rfl) ic_1 ?_
  exact wr_zret (pc := 68) rfl (by decide) (dget kX3_fits 40 rfl) ⟨_, rfl, h⟩
