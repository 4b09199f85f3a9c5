def vX7_value (o : Nat) (p1 : Int32) (p2 : Int32) (σ : Hp) (post : Int32 → Hp → Prop) : Prop := (kd o = 7 ∧ (vp_in ((p1 * (σ.1 o 1)) + p2) (iln (rt o 4)) ∧ post (σ.1 (rt o 4) (((p1 * (σ.1 o 1)) + p2)).toNatClampNeg) σ))
set_option maxHeartbeats 4000000 in
set_option maxRecDepth 100000 in
theorem tX7_value {G : GT} {o : Nat} {p1 : Int32} {p2 : Int32} {σ : Hp} {post : Int32 → Hp → Prop} (h : vX7_value o p1 p2 σ post) : CT G mX7_value [.ref (G.1 o), .int p1, .int p2] σ (LI post) := by
  refine CT.of (by decide +kernel) (Nat.le_of_ble_eq_true rfl) ?_
  show WP G mX7_value 0 [(0, .ref (G.1 o)), (1, .int p1), (2, .int p2)] [] σ (LI post)
  unfold vX7_value at h
  refine wr_aload_n (pc := 0) (dget kX7_value 0 rfl) 0 rfl ?_
  obtain ⟨q_1, h⟩ := h
  refine wr_getR (pc := 1) fl_X7_25 q_1 fk_7_4 (dget kX7_value 1 rfl) ?_
  refine wr_iload_n (pc := 4) (dget kX7_value 2 rfl) 1 rfl ?_
  refine wr_aload_n (pc := 5) (dget kX7_value 3 rfl) 0 rfl ?_
  refine wr_getI (pc := 6) (σ := σ) fl_X7_15 q_1 fk_7_1 (dget kX7_value 4 rfl) ?_
  refine wr_imul (pc := 9) (dget kX7_value 5 rfl) ?_
  refine wr_iload_n (pc := 10) (dget kX7_value 6 rfl) 2 rfl ?_
  refine wr_iadd (pc := 11) (dget kX7_value 7 rfl) ?_
  obtain ⟨q_2, h⟩ := h
  refine wr_ialdl (pc := 12) (σ := σ) rfl q_2 (dget kX7_value 8 rfl) ?_
  exact wr_iret (pc := 13) rfl (dget kX7_value 9 rfl) ⟨_, rfl, h⟩
def vX7_isFull (o : Nat) (σ : Hp) (post : Int32 → Hp → Prop) : Prop := (kd o = 7 ∧ (kd (rt o 3) = 10 ∧ (((σ.1 o 5) < (nI (ln (rt o 3))) → post (0 : Int32) σ) ∧ (¬ (σ.1 o 5) < (nI (ln (rt o 3))) → post (1 : Int32) σ))))
set_option maxHeartbeats 4000000 in
set_option maxRecDepth 100000 in
theorem tX7_isFull {G : GT} {o : Nat} {σ : Hp} {post : Int32 → Hp → Prop} (h : vX7_isFull o σ post) : CT G mX7_isFull [.ref (G.1 o)] σ (LI post) := by
  refine CT.of (by decide +kernel) (Nat.le_of_ble_eq_true rfl) ?_
  show WP G mX7_isFull 0 [(0, .ref (G.1 o))] [] σ (LI post)
  unfold vX7_isFull at h
  refine wr_aload_n (pc := 0) (dget kX7_isFull 0 rfl) 0 rfl ?_
  obtain ⟨q_1, h⟩ := h
  refine wr_getI (pc := 1) (σ := σ) fl_X7_31 q_1 fk_7_5 (dget kX7_isFull 1 rfl) ?_
  refine wr_aload_n (pc := 4) (dget kX7_isFull 2 rfl) 0 rfl ?_
  refine wr_getR (pc := 5) fl_X7_21 q_1 fk_7_3 (dget kX7_isFull 3 rfl) ?_
  obtain ⟨q_2, h⟩ := h
  refine wr_alen (pc := 8) q_2 (dget kX7_isFull 4 rfl) ?_
  refine wr_icmp_lt (pc := 9) (tgt := 16) (dget kX7_isFull 5 rfl) (by decide) (fun c_3 => ?_) (fun c_3 => ?_)
  · have h := h.1 c_3
    refine wr_iconst (pc := 16) (dget kX7_isFull 8 rfl) ic_0 ?_
    exact wr_zret (pc := 17) rfl (by decide) (dget kX7_isFull 9 rfl) ⟨_, rfl, h⟩
  · have h := h.2 c_3
    refine wr_iconst (pc := 12) (dget kX7_isFull 6 rfl) ic_1 ?_
    refine wr_goto (pc := 13) (tgt := 17) (dget kX7_isFull 7 rfl) (by decide) ?_
    exact wr_zret (pc := 17) rfl (by decide) (dget kX7_isFull 9 rfl) ⟨_, rfl, h⟩
def vX7_append (o : Nat) (p1 : Int32) (σ : Hp) (post : Hp → Prop) : Prop := (kd o = 7 ∧ (vp_in (σ.1 o 5) (iln (rt o 3)) ∧ ∀ σ_3 : Hp, σ_3 = wI σ (rt o 3) ((σ.1 o 5)).toNatClampNeg p1 → (∀ σ_4 : Hp, σ_4 = wI σ_3 o 5 ((σ_3.1 o 5) + (1 : Int32)) → post σ_4)))
set_option maxHeartbeats 4000000 in
set_option maxRecDepth 100000 in
theorem tX7_append {G : GT} {o : Nat} {p1 : Int32} {σ : Hp} {post : Hp → Prop} (h : vX7_append o p1 σ post) : CT G mX7_append [.ref (G.1 o), .int p1] σ (LV post) := by
  refine CT.of (by decide +kernel) (Nat.le_of_ble_eq_true rfl) ?_
  show WP G mX7_append 0 [(0, .ref (G.1 o)), (1, .int p1)] [] σ (LV post)
  unfold vX7_append at h
  refine wr_aload_n (pc := 0) (dget kX7_append 0 rfl) 0 rfl ?_
  obtain ⟨q_1, h⟩ := h
  refine wr_getR (pc := 1) fl_X7_21 q_1 fk_7_3 (dget kX7_append 1 rfl) ?_
  refine wr_aload_n (pc := 4) (dget kX7_append 2 rfl) 0 rfl ?_
  refine wr_getI (pc := 5) (σ := σ) fl_X7_31 q_1 fk_7_5 (dget kX7_append 3 rfl) ?_
  refine wr_iload_n (pc := 8) (dget kX7_append 4 rfl) 1 rfl ?_
  obtain ⟨q_2, h⟩ := h
  refine wr_iastl (pc := 9) rfl q_2 (dget kX7_append 5 rfl) ?_
  refine wr_tops (fun σ_3 e_σ_3 => ?_)
  have h := h σ_3 e_σ_3
  refine wr_aload_n (pc := 10) (dget kX7_append 6 rfl) 0 rfl ?_
  refine wr_dup (pc := 11) (dget kX7_append 7 rfl) rfl ?_
  refine wr_getI (pc := 12) (σ := σ_3) fl_X7_31 q_1 fk_7_5 (dget kX7_append 8 rfl) ?_
  refine wr_iconst (pc := 15) (dget kX7_append 9 rfl) ic_1 ?_
  refine wr_iadd (pc := 16) (dget kX7_append 10 rfl) ?_
  refine wr_putI (pc := 17) fl_X7_31 q_1 fk_7_5 (vp_nar_int _) rfl (dget kX7_append 11 rfl) ?_
  refine wr_tops (fun σ_4 e_σ_4 => ?_)
  have h := h σ_4 e_σ_4
  exact wr_vret (pc := 20) rfl (dget kX7_append 12 rfl) ⟨rfl, h⟩
def vX7_isTaken_2 (post : Int32 → Hp → Prop) (ex : Hp → Prop) (a0 : Nat) (x1 : Int32) : Nat → Int32 → Hp → Prop
  | 0 => fun _ _ => False
  | n + 1 => fun x2 σ => ((x1 ≤ x2 → (ex σ)) ∧ (¬ x1 ≤ x2 → (kd a0 = 7 ∧ (vX7_value a0 x2 (0 : Int32) σ (fun r_4 σ_3 => (vX7_value a0 x1 (0 : Int32) σ_3 (fun r_6 σ_5 => ((r_4 = r_6 → (vX7_value a0 x2 (1 : Int32) σ_5 (fun r_10 σ_9 => (vX7_value a0 x1 (1 : Int32) σ_9 (fun r_12 σ_11 => ((r_10 = r_12 → post (1 : Int32) σ_11) ∧ (¬ r_10 = r_12 → (∀ x2_14 : Int32, x2_14 = x2 + (1 : Int32) → vX7_isTaken_2 post ex a0 x1 n x2_14 σ_11)))))))) ∧ (¬ r_4 = r_6 → (∀ x2_8 : Int32, x2_8 = x2 + (1 : Int32) → vX7_isTaken_2 post ex a0 x1 n x2_8 σ_5))))))))))
set_option maxHeartbeats 4000000 in
set_option maxRecDepth 100000 in
theorem tX7_isTaken_2 {G : GT} {post : Int32 → Hp → Prop} {ex : Hp → Prop} {a0 : Nat} {x1 : Int32} (hex : ∀  (τ : Hp), ex  τ → WP G mX7_isTaken 45 [] [] τ (LI post)) : ∀ (n : Nat) (x2 : Int32) (σ : Hp), vX7_isTaken_2 post ex a0 x1 n x2 σ → WP G mX7_isTaken 2 [(0, .ref (G.1 a0)), (1, .int x1), (2, .int x2)] [] σ (LI post) := by
  intro n
  induction n with
  | zero => intro x2 σ h; exact False.elim h
  | succ n ih =>
    intro x2 σ h
    simp only [vX7_isTaken_2] at h
    refine wr_iload_n (pc := 2) (dget kX7_isTaken 2 rfl) 2 rfl ?_
    refine wr_iload_n (pc := 3) (dget kX7_isTaken 3 rfl) 1 rfl ?_
    refine wr_icmp_ge (pc := 4) (tgt := 45) (dget kX7_isTaken 4 rfl) (by decide) (fun c_1 => ?_) (fun c_1 => ?_)
    · have h := h.1 c_1
      refine wr_sub [] rfl ?_
      exact hex  _ h
    · have h := h.2 c_1
      refine wr_aload_n (pc := 7) (dget kX7_isTaken 5 rfl) 0 rfl ?_
      refine wr_iload_n (pc := 8) (dget kX7_isTaken 6 rfl) 2 rfl ?_
      refine wr_iconst (pc := 9) (dget kX7_isTaken 7 rfl) ic_0 ?_
      obtain ⟨q_2, h⟩ := h
      refine wr_callVi (pc := 10) (Mc := mX7_value) (o := a0) (rest := []) cf_X7_58 cv_X7_value q_2 rfl ⟨Nat.le_of_ble_eq_true rfl, Nat.le_of_ble_eq_true rfl⟩ rfl rfl (Nat.le_of_ble_eq_true rfl) (dget kX7_isTaken 8 rfl) (tX7_value h) (fun r_4 σ_3 h => ?_)
      refine wr_aload_n (pc := 13) (dget kX7_isTaken 9 rfl) 0 rfl ?_
      refine wr_iload_n (pc := 14) (dget kX7_isTaken 10 rfl) 1 rfl ?_
      refine wr_iconst (pc := 15) (dget kX7_isTaken 11 rfl) ic_0 ?_
      refine wr_callVi (pc := 16) (Mc := mX7_value) (o := a0) (rest := [.int r_4]) cf_X7_58 cv_X7_value q_2 rfl ⟨Nat.le_of_ble_eq_true rfl, Nat.le_of_ble_eq_true rfl⟩ rfl rfl (Nat.le_of_ble_eq_true rfl) (dget kX7_isTaken 12 rfl) (tX7_value h) (fun r_6 σ_5 h => ?_)
      refine wr_icmp_ne (pc := 19) (tgt := 39) (dget kX7_isTaken 13 rfl) (by decide) (fun c_7 => ?_) (fun c_7 => ?_)
      · have h := h.2 c_7
        obtain ⟨x2_8, e_x2_8⟩ : ∃ y : Int32, y = x2 + (1 : Int32) := ⟨_, rfl⟩
        have h := h x2_8 e_x2_8
        refine wr_iinc (pc := 39) (v := x2_8) (lv' := [(2, .int x2_8), (0, .ref (G.1 a0)), (1, .int x1)]) (dget kX7_isTaken 25 rfl) 2 rfl (by rw [e_x2_8, ic_1]) (by decide) rfl ?_
        refine wr_goto (pc := 42) (tgt := 2) (dget kX7_isTaken 26 rfl) (by decide) ?_
        refine wr_sub [1, 2, 0] rfl ?_
        exact ih _ _ h
      · have h := h.1 c_7
        refine wr_aload_n (pc := 22) (dget kX7_isTaken 14 rfl) 0 rfl ?_
        refine wr_iload_n (pc := 23) (dget kX7_isTaken 15 rfl) 2 rfl ?_
        refine wr_iconst (pc := 24) (dget kX7_isTaken 16 rfl) ic_1 ?_
        refine wr_callVi (pc := 25) (Mc := mX7_value) (o := a0) (rest := []) cf_X7_58 cv_X7_value q_2 rfl ⟨Nat.le_of_ble_eq_true rfl, Nat.le_of_ble_eq_true rfl⟩ rfl rfl (Nat.le_of_ble_eq_true rfl) (dget kX7_isTaken 17 rfl) (tX7_value h) (fun r_10 σ_9 h => ?_)
        refine wr_aload_n (pc := 28) (dget kX7_isTaken 18 rfl) 0 rfl ?_
        refine wr_iload_n (pc := 29) (dget kX7_isTaken 19 rfl) 1 rfl ?_
        refine wr_iconst (pc := 30) (dget kX7_isTaken 20 rfl) ic_1 ?_
        refine wr_callVi (pc := 31) (Mc := mX7_value) (o := a0) (rest := [.int r_10]) cf_X7_58 cv_X7_value q_2 rfl ⟨Nat.le_of_ble_eq_true rfl, Nat.le_of_ble_eq_true rfl⟩ rfl rfl (Nat.le_of_ble_eq_true rfl) (dget kX7_isTaken 21 rfl) (tX7_value h) (fun r_12 σ_11 h => ?_)
        refine wr_icmp_ne (pc := 34) (tgt := 39) (dget kX7_isTaken 22 rfl) (by decide) (fun c_13 => ?_) (fun c_13 => ?_)
        · have h := h.2 c_13
          obtain ⟨x2_14, e_x2_14⟩ : ∃ y : Int32, y = x2 + (1 : Int32) := ⟨_, rfl⟩
          have h := h x2_14 e_x2_14
          refine wr_iinc (pc := 39) (v := x2_14) (lv' := [(2, .int x2_14), (0, .ref (G.1 a0)), (1, .int x1)]) (dget kX7_isTaken 25 rfl) 2 rfl (by rw [e_x2_14, ic_1]) (by decide) rfl ?_
          refine wr_goto (pc := 42) (tgt := 2) (dget kX7_isTaken 26 rfl) (by decide) ?_
          refine wr_sub [1, 2, 0] rfl ?_
          exact ih _ _ h
        · have h := h.1 c_13
          refine wr_iconst (pc := 37) (dget kX7_isTaken 23 rfl) ic_1 ?_
          exact wr_zret (pc := 38) rfl (by decide) (dget kX7_isTaken 24 rfl) ⟨_, rfl, h⟩
def vX7_isTaken (o : Nat) (p1 : Int32) (σ : Hp) (post : Int32 → Hp → Prop) : Prop := (∃ fu : Nat, vX7_isTaken_2 post (fun σ_1 => post (0 : Int32) σ_1) o p1 fu (0 : Int32) σ)
set_option maxHeartbeats 4000000 in
set_option maxRecDepth 100000 in
theorem tX7_isTaken {G : GT} {o : Nat} {p1 : Int32} {σ : Hp} {post : Int32 → Hp → Prop} (h : vX7_isTaken o p1 σ post) : CT G mX7_isTaken [.ref (G.1 o), .int p1] σ (LI post) := by
  refine CT.of (by decide +kernel) (Nat.le_of_ble_eq_true rfl) ?_
  show WP G mX7_isTaken 0 [(0, .ref (G.1 o)), (1, .int p1)] [] σ (LI post)
  unfold vX7_isTaken at h
  refine wr_iconst (pc := 0) (dget kX7_isTaken 0 rfl) ic_0 ?_
  refine wr_istore_n (pc := 1) (lv' := [(2, .int (0 : Int32)), (0, .ref (G.1 o)), (1, .int p1)]) (dget kX7_isTaken 1 rfl) (by decide) rfl ?_
  obtain ⟨fu, h⟩ := h
  refine wr_sub [1, 2, 0] rfl ?_
  refine tX7_isTaken_2 (fun σ_1 h => ?_) fu _ _ h
  refine wr_iconst (pc := 45) (dget kX7_isTaken 27 rfl) ic_0 ?_
  exact wr_zret (pc := 46) rfl (by decide) (dget kX7_isTaken 28 rfl) ⟨_, rfl, h⟩
def vX7_signs (o : Nat) (p1 : Int32) (σ : Hp) (post : Nat → Hp → Prop) : Prop := (kd o = 7 ∧ (((((σ.1 o 0) * (4 : Int32)) + p1) = (0 : Int32) → post 210 σ) ∧ (¬ (((σ.1 o 0) * (4 : Int32)) + p1) = (0 : Int32) → (((((σ.1 o 0) * (4 : Int32)) + p1) = (1 : Int32) → post 211 σ) ∧ (¬ (((σ.1 o 0) * (4 : Int32)) + p1) = (1 : Int32) → (((((σ.1 o 0) * (4 : Int32)) + p1) = (2 : Int32) → post 217 σ) ∧ (¬ (((σ.1 o 0) * (4 : Int32)) + p1) = (2 : Int32) → (((((σ.1 o 0) * (4 : Int32)) + p1) = (3 : Int32) → post 217 σ) ∧ (¬ (((σ.1 o 0) * (4 : Int32)) + p1) = (3 : Int32) → (((((σ.1 o 0) * (4 : Int32)) + p1) = (4 : Int32) → post 212 σ) ∧ (¬ (((σ.1 o 0) * (4 : Int32)) + p1) = (4 : Int32) → (((((σ.1 o 0) * (4 : Int32)) + p1) = (5 : Int32) → post 213 σ) ∧ (¬ (((σ.1 o 0) * (4 : Int32)) + p1) = (5 : Int32) → (((((σ.1 o 0) * (4 : Int32)) + p1) = (6 : Int32) → post 214 σ) ∧ (¬ (((σ.1 o 0) * (4 : Int32)) + p1) = (6 : Int32) → (((((σ.1 o 0) * (4 : Int32)) + p1) = (7 : Int32) → post 215 σ) ∧ (¬ (((σ.1 o 0) * (4 : Int32)) + p1) = (7 : Int32) → (((((σ.1 o 0) * (4 : Int32)) + p1) = (8 : Int32) → post 216 σ) ∧ (¬ (((σ.1 o 0) * (4 : Int32)) + p1) = (8 : Int32) → (((((σ.1 o 0) * (4 : Int32)) + p1) = (9 : Int32) → post 212 σ) ∧ (¬ (((σ.1 o 0) * (4 : Int32)) + p1) = (9 : Int32) → post 217 σ)))))))))))))))))))))
set_option maxHeartbeats 4000000 in
set_option maxRecDepth 100000 in
theorem tX7_signs {G : GT} {o : Nat} {p1 : Int32} {σ : Hp} {post : Nat → Hp → Prop} (h : vX7_signs o p1 σ post) : CT G mX7_signs [.ref (G.1 o), .int p1] σ (LR G post) := by
  refine CT.of (by decide +kernel) (Nat.le_of_ble_eq_true rfl) ?_
  show WP G mX7_signs 0 [(0, .ref (G.1 o)), (1, .int p1)] [] σ (LR G post)
  unfold vX7_signs at h
  refine wr_aload_n (pc := 0) (dget kX7_signs 0 rfl) 0 rfl ?_
  obtain ⟨q_1, h⟩ := h
  refine wr_getI (pc := 1) (σ := σ) fl_X7_9 q_1 fk_7_0 (dget kX7_signs 1 rfl) ?_
  refine wr_iconst (pc := 4) (dget kX7_signs 2 rfl) ic_4 ?_
  refine wr_imul (pc := 5) (dget kX7_signs 3 rfl) ?_
  refine wr_iload_n (pc := 6) (dget kX7_signs 4 rfl) 1 rfl ?_
  refine wr_iadd (pc := 7) (dget kX7_signs 5 rfl) ?_
  rcases Decidable.em ((((σ.1 o 0) * (4 : Int32)) + p1) = (0 : Int32)) with c_2 | c_2
  · have h := h.1 c_2
    refine wr_tabIn (pc := 8) (tgt := 64) (off := 56) (dget kX7_signs 6 rfl) (by rw [c_2]; decide) (by rw [c_2]; decide) (by rw [c_2]; rfl) (by decide) ?_
    refine wr_ldcS (pc := 64) 0 (by decide) rfl rfl (dget kX7_signs 7 rfl) ?_
    exact wr_aret (pc := 66) rfl (dget kX7_signs 8 rfl) ⟨_, rfl, h⟩
  · have h := h.2 c_2
    rcases Decidable.em ((((σ.1 o 0) * (4 : Int32)) + p1) = (1 : Int32)) with c_3 | c_3
    · have h := h.1 c_3
      refine wr_tabIn (pc := 8) (tgt := 67) (off := 59) (dget kX7_signs 6 rfl) (by rw [c_3]; decide) (by rw [c_3]; decide) (by rw [c_3]; rfl) (by decide) ?_
      refine wr_ldcS (pc := 67) 1 (by decide) rfl rfl (dget kX7_signs 9 rfl) ?_
      exact wr_aret (pc := 69) rfl (dget kX7_signs 10 rfl) ⟨_, rfl, h⟩
    · have h := h.2 c_3
      rcases Decidable.em ((((σ.1 o 0) * (4 : Int32)) + p1) = (2 : Int32)) with c_4 | c_4
      · have h := h.1 c_4
        refine wr_tabIn (pc := 8) (tgt := 88) (off := 80) (dget kX7_signs 6 rfl) (by rw [c_4]; decide) (by rw [c_4]; decide) (by rw [c_4]; rfl) (by decide) ?_
        refine wr_ldcS (pc := 88) 7 (by decide) rfl rfl (dget kX7_signs 23 rfl) ?_
        exact wr_aret (pc := 90) rfl (dget kX7_signs 24 rfl) ⟨_, rfl, h⟩
      · have h := h.2 c_4
        rcases Decidable.em ((((σ.1 o 0) * (4 : Int32)) + p1) = (3 : Int32)) with c_5 | c_5
        · have h := h.1 c_5
          refine wr_tabIn (pc := 8) (tgt := 88) (off := 80) (dget kX7_signs 6 rfl) (by rw [c_5]; decide) (by rw [c_5]; decide) (by rw [c_5]; rfl) (by decide) ?_
          refine wr_ldcS (pc := 88) 7 (by decide) rfl rfl (dget kX7_signs 23 rfl) ?_
          exact wr_aret (pc := 90) rfl (dget kX7_signs 24 rfl) ⟨_, rfl, h⟩
        · have h := h.2 c_5
          rcases Decidable.em ((((σ.1 o 0) * (4 : Int32)) + p1) = (4 : Int32)) with c_6 | c_6
          · have h := h.1 c_6
            refine wr_tabIn (pc := 8) (tgt := 70) (off := 62) (dget kX7_signs 6 rfl) (by rw [c_6]; decide) (by rw [c_6]; decide) (by rw [c_6]; rfl) (by decide) ?_
            refine wr_ldcS (pc := 70) 2 (by decide) rfl rfl (dget kX7_signs 11 rfl) ?_
            exact wr_aret (pc := 72) rfl (dget kX7_signs 12 rfl) ⟨_, rfl, h⟩
          · have h := h.2 c_6
            rcases Decidable.em ((((σ.1 o 0) * (4 : Int32)) + p1) = (5 : Int32)) with c_7 | c_7
            · have h := h.1 c_7
              refine wr_tabIn (pc := 8) (tgt := 73) (off := 65) (dget kX7_signs 6 rfl) (by rw [c_7]; decide) (by rw [c_7]; decide) (by rw [c_7]; rfl) (by decide) ?_
              refine wr_ldcS (pc := 73) 3 (by decide) rfl rfl (dget kX7_signs 13 rfl) ?_
              exact wr_aret (pc := 75) rfl (dget kX7_signs 14 rfl) ⟨_, rfl, h⟩
            · have h := h.2 c_7
              rcases Decidable.em ((((σ.1 o 0) * (4 : Int32)) + p1) = (6 : Int32)) with c_8 | c_8
              · have h := h.1 c_8
                refine wr_tabIn (pc := 8) (tgt := 76) (off := 68) (dget kX7_signs 6 rfl) (by rw [c_8]; decide) (by rw [c_8]; decide) (by rw [c_8]; rfl) (by decide) ?_
                refine wr_ldcS (pc := 76) 4 (by decide) rfl rfl (dget kX7_signs 15 rfl) ?_
                exact wr_aret (pc := 78) rfl (dget kX7_signs 16 rfl) ⟨_, rfl, h⟩
              · have h := h.2 c_8
                rcases Decidable.em ((((σ.1 o 0) * (4 : Int32)) + p1) = (7 : Int32)) with c_9 | c_9
                · have h := h.1 c_9
                  refine wr_tabIn (pc := 8) (tgt := 79) (off := 71) (dget kX7_signs 6 rfl) (by rw [c_9]; decide) (by rw [c_9]; decide) (by rw [c_9]; rfl) (by decide) ?_
                  refine wr_ldcS (pc := 79) 5 (by decide) rfl rfl (dget kX7_signs 17 rfl) ?_
                  exact wr_aret (pc := 81) rfl (dget kX7_signs 18 rfl) ⟨_, rfl, h⟩
                · have h := h.2 c_9
                  rcases Decidable.em ((((σ.1 o 0) * (4 : Int32)) + p1) = (8 : Int32)) with c_10 | c_10
                  · have h := h.1 c_10
                    refine wr_tabIn (pc := 8) (tgt := 82) (off := 74) (dget kX7_signs 6 rfl) (by rw [c_10]; decide) (by rw [c_10]; decide) (by rw [c_10]; rfl) (by decide) ?_
                    refine wr_ldcS (pc := 82) 6 (by decide) rfl rfl (dget kX7_signs 19 rfl) ?_
                    exact wr_aret (pc := 84) rfl (dget kX7_signs 20 rfl) ⟨_, rfl, h⟩
                  · have h := h.2 c_10
                    rcases Decidable.em ((((σ.1 o 0) * (4 : Int32)) + p1) = (9 : Int32)) with c_11 | c_11
                    · have h := h.1 c_11
                      refine wr_tabIn (pc := 8) (tgt := 85) (off := 77) (dget kX7_signs 6 rfl) (by rw [c_11]; decide) (by rw [c_11]; decide) (by rw [c_11]; rfl) (by decide) ?_
                      refine wr_ldcS (pc := 85) 2 (by decide) rfl rfl (dget kX7_signs 21 rfl) ?_
                      exact wr_aret (pc := 87) rfl (dget kX7_signs 22 rfl) ⟨_, rfl, h⟩
                    · have h := h.2 c_11
                      refine wr_tabOut (pc := 8) (tgt := 88) (dget kX7_signs 6 rfl) (by have := sw_ne c_2 (by decide : ((0 : Int32)).toInt = 0); have := sw_ne c_3 (by decide : ((1 : Int32)).toInt = 1); have := sw_ne c_4 (by decide : ((2 : Int32)).toInt = 2); have := sw_ne c_5 (by decide : ((3 : Int32)).toInt = 3); have := sw_ne c_6 (by decide : ((4 : Int32)).toInt = 4); have := sw_ne c_7 (by decide : ((5 : Int32)).toInt = 5); have := sw_ne c_8 (by decide : ((6 : Int32)).toInt = 6); have := sw_ne c_9 (by decide : ((7 : Int32)).toInt = 7); have := sw_ne c_10 (by decide : ((8 : Int32)).toInt = 8); have := sw_ne c_11 (by decide : ((9 : Int32)).toInt = 9); omega) (by decide) ?_
                      refine wr_ldcS (pc := 88) 7 (by decide) rfl rfl (dget kX7_signs 23 rfl) ?_
                      exact wr_aret (pc := 90) rfl (dget kX7_signs 24 rfl) ⟨_, rfl, h⟩
def vX7_goesOn (o : Nat) (p1 : Int32) (σ : Hp) (post : Int32 → Hp → Prop) : Prop := (kd o = 7 ∧ (¬ ((σ.1 o 1) + (1 : Int32)) = 0 ∧ (∀ x2_2 : Int32, x2_2 = (p1 / ((σ.1 o 1) + (1 : Int32))) → (¬ ((σ.1 o 1) + (1 : Int32)) = 0 ∧ (∀ x3_3 : Int32, x3_3 = (p1 - p1 / ((σ.1 o 1) + (1 : Int32)) * ((σ.1 o 1) + (1 : Int32))) → ((x3_3 = (σ.1 o 1) → (vp_in p1 (iln (rt o 3)) ∧ (((σ.1 (rt o 3) p1.toNatClampNeg) = (59 : Int32) → post (1 : Int32) σ) ∧ (¬ (σ.1 (rt o 3) p1.toNatClampNeg) = (59 : Int32) → post (0 : Int32) σ)))) ∧ (¬ x3_3 = (σ.1 o 1) → ((x2_2 < (σ.1 o 2) → (vX7_signs o x3_3 σ (fun r_7 σ_6 => (vp_in p1 (iln (rt o 3)) ∧ (vJ0_indexOf_0f7a4 r_7 (((σ_6.1 (rt o 3) p1.toNatClampNeg)).toUInt32 % 65536).toInt32 σ_6 (fun r_10 σ_9 => (vp_in ((x2_2 * (σ_9.1 o 1)) + x3_3) (iln (rt o 4)) ∧ ∀ σ_12 : Hp, σ_12 = wI σ_9 (rt o 4) (((x2_2 * (σ_9.1 o 1)) + x3_3)).toNatClampNeg r_10 → ((r_10 < 0 → post (0 : Int32) σ_12) ∧ (¬ r_10 < 0 → (((σ_12.1 o 0) = (1 : Int32) → ((x3_3 = (1 : Int32) → (vX7_isTaken o x2_2 σ_12 (fun r_17 σ_16 => ((r_17 = 0 → post (1 : Int32) σ_16) ∧ (¬ r_17 = 0 → post (0 : Int32) σ_16))))) ∧ (¬ x3_3 = (1 : Int32) → post (1 : Int32) σ_12))) ∧ (¬ (σ_12.1 o 0) = (1 : Int32) → post (1 : Int32) σ_12))))))))))) ∧ (¬ x2_2 < (σ.1 o 2) → post (0 : Int32) σ)))))))))
set_option maxHeartbeats 4000000 in
set_option maxRecDepth 100000 in
theorem tX7_goesOn {G : GT} {o : Nat} {p1 : Int32} {σ : Hp} {post : Int32 → Hp → Prop} (h : vX7_goesOn o p1 σ post) : CT G mX7_goesOn [.ref (G.1 o), .int p1] σ (LI post) := by
  refine CT.of (by decide +kernel) (Nat.le_of_ble_eq_true rfl) ?_
  show WP G mX7_goesOn 0 [(0, .ref (G.1 o)), (1, .int p1)] [] σ (LI post)
  unfold vX7_goesOn at h
  refine wr_iload_n (pc := 0) (dget kX7_goesOn 0 rfl) 1 rfl ?_
  refine wr_aload_n (pc := 1) (dget kX7_goesOn 1 rfl) 0 rfl ?_
  obtain ⟨q_1, h⟩ := h
  refine wr_getI (pc := 2) (σ := σ) fl_X7_15 q_1 fk_7_1 (dget kX7_goesOn 2 rfl) ?_
  refine wr_iconst (pc := 5) (dget kX7_goesOn 3 rfl) ic_1 ?_
  refine wr_iadd (pc := 6) (dget kX7_goesOn 4 rfl) ?_
  obtain ⟨q_22, h⟩ := h
  refine wr_idiv (pc := 7) (dget kX7_goesOn 5 rfl) q_22 ?_
  refine wr_topi (fun x2_2 e_x2_2 => ?_)
  have h := h x2_2 e_x2_2
  refine wr_istore_n (pc := 8) (lv' := [(2, .int x2_2), (0, .ref (G.1 o)), (1, .int p1)]) (dget kX7_goesOn 6 rfl) (by decide) rfl ?_
  refine wr_iload_n (pc := 9) (dget kX7_goesOn 7 rfl) 2 rfl ?_
  refine wr_aload_n (pc := 10) (dget kX7_goesOn 8 rfl) 1 rfl ?_
  refine wr_getI (pc := 11) (σ := σ) fl_X7_15 q_1 fk_7_1 (dget kX7_goesOn 9 rfl) ?_
  refine wr_iconst (pc := 14) (dget kX7_goesOn 10 rfl) ic_1 ?_
  refine wr_iadd (pc := 15) (dget kX7_goesOn 11 rfl) ?_
  obtain ⟨q_21, h⟩ := h
  refine wr_irem (pc := 16) (dget kX7_goesOn 12 rfl) q_21 ?_
  refine wr_topi (fun x3_3 e_x3_3 => ?_)
  have h := h x3_3 e_x3_3
  refine wr_istore_n (pc := 17) (lv' := [(3, .int x3_3), (2, .int x2_2), (0, .ref (G.1 o)), (1, .int p1)]) (dget kX7_goesOn 13 rfl) (by decide) rfl ?_
  refine wr_iload_n (pc := 18) (dget kX7_goesOn 14 rfl) 0 rfl ?_
  refine wr_aload_n (pc := 19) (dget kX7_goesOn 15 rfl) 2 rfl ?_
  refine wr_getI (pc := 20) (σ := σ) fl_X7_15 q_1 fk_7_1 (dget kX7_goesOn 16 rfl) ?_
  refine wr_icmp_ne (pc := 23) (tgt := 43) (dget kX7_goesOn 17 rfl) (by decide) (fun c_4 => ?_) (fun c_4 => ?_)
  · have h := h.2 c_4
    refine wr_iload_n (pc := 43) (dget kX7_goesOn 28 rfl) 1 rfl ?_
    refine wr_aload_n (pc := 44) (dget kX7_goesOn 29 rfl) 2 rfl ?_
    refine wr_getI (pc := 45) (σ := σ) fl_X7_18 q_1 fk_7_2 (dget kX7_goesOn 30 rfl) ?_
    refine wr_icmp_lt (pc := 48) (tgt := 53) (dget kX7_goesOn 31 rfl) (by decide) (fun c_5 => ?_) (fun c_5 => ?_)
    · have h := h.1 c_5
      refine wr_aload_n (pc := 53) (dget kX7_goesOn 34 rfl) 2 rfl ?_
      refine wr_iload_n (pc := 54) (dget kX7_goesOn 35 rfl) 0 rfl ?_
      refine wr_callVr (pc := 55) (Mc := mX7_signs) (o := o) (rest := []) cf_X7_45 cv_X7_signs q_1 rfl ⟨Nat.le_of_ble_eq_true rfl, Nat.le_of_ble_eq_true rfl⟩ rfl rfl (Nat.le_of_ble_eq_true rfl) (dget kX7_goesOn 36 rfl) (tX7_signs h) (fun r_7 σ_6 h => ?_)
      refine wr_aload_n (pc := 58) (dget kX7_goesOn 37 rfl) 2 rfl ?_
      refine wr_getR (pc := 59) fl_X7_21 q_1 fk_7_3 (dget kX7_goesOn 38 rfl) ?_
      refine wr_iload_n (pc := 62) (dget kX7_goesOn 39 rfl) 3 rfl ?_
      obtain ⟨q_8, h⟩ := h
      refine wr_ialdl (pc := 63) (σ := σ_6) rfl q_8 (dget kX7_goesOn 40 rfl) ?_
      refine wr_i2c (pc := 64) (dget kX7_goesOn 41 rfl) rfl ?_
      refine wr_callStri (pc := 65) (rest := []) cf_X7_49 ⟨Nat.le_of_ble_eq_true rfl, Nat.le_of_ble_eq_true rfl⟩ (Nat.le_of_ble_eq_true rfl) (dget kX7_goesOn 42 rfl) h (fun r_10 σ_9 h => ?_)
      refine wr_istore (pc := 68) (lv' := [(4, .int r_10), (3, .int x3_3), (2, .int x2_2), (0, .ref (G.1 o)), (1, .int p1)]) (dget kX7_goesOn 43 rfl) (by decide) rfl ?_
      refine wr_aload_n (pc := 70) (dget kX7_goesOn 44 rfl) 3 rfl ?_
      refine wr_getR (pc := 71) fl_X7_25 q_1 fk_7_4 (dget kX7_goesOn 45 rfl) ?_
      refine wr_iload_n (pc := 74) (dget kX7_goesOn 46 rfl) 2 rfl ?_
      refine wr_aload_n (pc := 75) (dget kX7_goesOn 47 rfl) 3 rfl ?_
      refine wr_getI (pc := 76) (σ := σ_9) fl_X7_15 q_1 fk_7_1 (dget kX7_goesOn 48 rfl) ?_
      refine wr_imul (pc := 79) (dget kX7_goesOn 49 rfl) ?_
      refine wr_iload_n (pc := 80) (dget kX7_goesOn 50 rfl) 1 rfl ?_
      refine wr_iadd (pc := 81) (dget kX7_goesOn 51 rfl) ?_
      refine wr_iload (pc := 82) (dget kX7_goesOn 52 rfl) 0 rfl ?_
      obtain ⟨q_11, h⟩ := h
      refine wr_iastl (pc := 84) rfl q_11 (dget kX7_goesOn 53 rfl) ?_
      refine wr_tops (fun σ_12 e_σ_12 => ?_)
      have h := h σ_12 e_σ_12
      refine wr_iload (pc := 85) (dget kX7_goesOn 54 rfl) 0 rfl ?_
      refine wr_if_lt (pc := 87) (tgt := 115) (dget kX7_goesOn 55 rfl) (by decide) (fun c_13 => ?_) (fun c_13 => ?_)
      · have h := h.1 c_13
        refine wr_iconst (pc := 115) (dget kX7_goesOn 69 rfl) ic_0 ?_
        exact wr_zret (pc := 116) rfl (by decide) (dget kX7_goesOn 70 rfl) ⟨_, rfl, h⟩
      · have h := h.2 c_13
        refine wr_aload_n (pc := 90) (dget kX7_goesOn 56 rfl) 3 rfl ?_
        refine wr_getI (pc := 91) (σ := σ_12) fl_X7_9 q_1 fk_7_0 (dget kX7_goesOn 57 rfl) ?_
        refine wr_iconst (pc := 94) (dget kX7_goesOn 58 rfl) ic_1 ?_
        refine wr_icmp_ne (pc := 95) (tgt := 111) (dget kX7_goesOn 59 rfl) (by decide) (fun c_14 => ?_) (fun c_14 => ?_)
        · have h := h.2 c_14
          refine wr_iconst (pc := 111) (dget kX7_goesOn 67 rfl) ic_1 ?_
          refine wr_goto (pc := 112) (tgt := 116) (dget kX7_goesOn 68 rfl) (by decide) ?_
          exact wr_zret (pc := 116) rfl (by decide) (dget kX7_goesOn 70 rfl) ⟨_, rfl, h⟩
        · have h := h.1 c_14
          refine wr_iload_n (pc := 98) (dget kX7_goesOn 60 rfl) 1 rfl ?_
          refine wr_iconst (pc := 99) (dget kX7_goesOn 61 rfl) ic_1 ?_
          refine wr_icmp_ne (pc := 100) (tgt := 111) (dget kX7_goesOn 62 rfl) (by decide) (fun c_15 => ?_) (fun c_15 => ?_)
          · have h := h.2 c_15
            refine wr_iconst (pc := 111) (dget kX7_goesOn 67 rfl) ic_1 ?_
            refine wr_goto (pc := 112) (tgt := 116) (dget kX7_goesOn 68 rfl) (by decide) ?_
            exact wr_zret (pc := 116) rfl (by decide) (dget kX7_goesOn 70 rfl) ⟨_, rfl, h⟩
          · have h := h.1 c_15
            refine wr_aload_n (pc := 103) (dget kX7_goesOn 63 rfl) 3 rfl ?_
            refine wr_iload_n (pc := 104) (dget kX7_goesOn 64 rfl) 2 rfl ?_
            refine wr_callVi (pc := 105) (Mc := mX7_isTaken) (o := o) (rest := []) cf_X7_55 cv_X7_isTaken q_1 rfl ⟨Nat.le_of_ble_eq_true rfl, Nat.le_of_ble_eq_true rfl⟩ rfl rfl (Nat.le_of_ble_eq_true rfl) (dget kX7_goesOn 65 rfl) (tX7_isTaken h) (fun r_17 σ_16 h => ?_)
            refine wr_if_ne (pc := 108) (tgt := 115) (dget kX7_goesOn 66 rfl) (by decide) (fun c_18 => ?_) (fun c_18 => ?_)
            · have h := h.2 c_18
              refine wr_iconst (pc := 115) (dget kX7_goesOn 69 rfl) ic_0 ?_
              exact wr_zret (pc := 116) rfl (by decide) (dget kX7_goesOn 70 rfl) ⟨_, rfl, h⟩
            · have h := h.1 c_18
              refine wr_iconst (pc := 111) (dget kX7_goesOn 67 rfl) ic_1 ?_
              refine wr_goto (pc := 112) (tgt := 116) (dget kX7_goesOn 68 rfl) (by decide) ?_
              exact wr_zret (pc := 116) rfl (by decide) (dget kX7_goesOn 70 rfl) ⟨_, rfl, h⟩
    · have h := h.2 c_5
      refine wr_iconst (pc := 51) (dget kX7_goesOn 32 rfl) ic_0 ?_
      exact wr_zret (pc := 52) rfl (by decide) (dget kX7_goesOn 33 rfl) ⟨_, rfl, h⟩
  · have h := h.1 c_4
    refine wr_aload_n (pc := 26) (dget kX7_goesOn 18 rfl) 2 rfl ?_
    refine wr_getR (pc := 27) fl_X7_21 q_1 fk_7_3 (dget kX7_goesOn 19 rfl) ?_
    refine wr_iload_n (pc := 30) (dget kX7_goesOn 20 rfl) 3 rfl ?_
    obtain ⟨q_19, h⟩ := h
    refine wr_ialdl (pc := 31) (σ := σ) rfl q_19 (dget kX7_goesOn 21 rfl) ?_
    refine wr_bipush (pc := 32) (dget kX7_goesOn 22 rfl) bp_59 ?_
    refine wr_icmp_ne (pc := 34) (tgt := 41) (dget kX7_goesOn 23 rfl) (by decide) (fun c_20 => ?_) (fun c_20 => ?_)
    · have h := h.2 c_20
      refine wr_iconst (pc := 41) (dget kX7_goesOn 26 rfl) ic_0 ?_
      exact wr_zret (pc := 42) rfl (by decide) (dget kX7_goesOn 27 rfl) ⟨_, rfl, h⟩
    · have h := h.1 c_20
      refine wr_iconst (pc := 37) (dget kX7_goesOn 24 rfl) ic_1 ?_
      refine wr_goto (pc := 38) (tgt := 42) (dget kX7_goesOn 25 rfl) (by decide) ?_
      exact wr_zret (pc := 42) rfl (by decide) (dget kX7_goesOn 27 rfl) ⟨_, rfl, h⟩
def vX7_firstFault_2 (post : Int32 → Hp → Prop) (ex : Hp → Prop) (a0 : Nat) : Nat → Int32 → Hp → Prop
  | 0 => fun _ _ => False
  | n + 1 => fun x1 σ => (kd a0 = 7 ∧ (((σ.1 a0 5) ≤ x1 → (ex σ)) ∧ (¬ (σ.1 a0 5) ≤ x1 → (vX7_goesOn a0 x1 σ (fun r_4 σ_3 => ((r_4 = 0 → post x1 σ_3) ∧ (¬ r_4 = 0 → (∀ x1_6 : Int32, x1_6 = x1 + (1 : Int32) → vX7_firstFault_2 post ex a0 n x1_6 σ_3))))))))
set_option maxHeartbeats 4000000 in
set_option maxRecDepth 100000 in
theorem tX7_firstFault_2 {G : GT} {post : Int32 → Hp → Prop} {ex : Hp → Prop} {a0 : Nat} (hex : ∀  (τ : Hp), ex  τ → WP G mX7_firstFault 26 [(0, .ref (G.1 a0))] [] τ (LI post)) : ∀ (n : Nat) (x1 : Int32) (σ : Hp), vX7_firstFault_2 post ex a0 n x1 σ → WP G mX7_firstFault 2 [(0, .ref (G.1 a0)), (1, .int x1)] [] σ (LI post) := by
  intro n
  induction n with
  | zero => intro x1 σ h; exact False.elim h
  | succ n ih =>
    intro x1 σ h
    simp only [vX7_firstFault_2] at h
    refine wr_iload_n (pc := 2) (dget kX7_firstFault 2 rfl) 1 rfl ?_
    refine wr_aload_n (pc := 3) (dget kX7_firstFault 3 rfl) 0 rfl ?_
    obtain ⟨q_1, h⟩ := h
    refine wr_getI (pc := 4) (σ := σ) fl_X7_31 q_1 fk_7_5 (dget kX7_firstFault 4 rfl) ?_
    refine wr_icmp_ge (pc := 7) (tgt := 26) (dget kX7_firstFault 5 rfl) (by decide) (fun c_2 => ?_) (fun c_2 => ?_)
    · have h := h.1 c_2
      refine wr_sub [0] rfl ?_
      exact hex  _ h
    · have h := h.2 c_2
      refine wr_aload_n (pc := 10) (dget kX7_firstFault 6 rfl) 0 rfl ?_
      refine wr_iload_n (pc := 11) (dget kX7_firstFault 7 rfl) 1 rfl ?_
      refine wr_callVi (pc := 12) (Mc := mX7_goesOn) (o := a0) (rest := []) cf_X7_41 cv_X7_goesOn q_1 rfl ⟨Nat.le_of_ble_eq_true rfl, Nat.le_of_ble_eq_true rfl⟩ rfl rfl (Nat.le_of_ble_eq_true rfl) (dget kX7_firstFault 8 rfl) (tX7_goesOn h) (fun r_4 σ_3 h => ?_)
      refine wr_if_ne (pc := 15) (tgt := 20) (dget kX7_firstFault 9 rfl) (by decide) (fun c_5 => ?_) (fun c_5 => ?_)
      · have h := h.2 c_5
        obtain ⟨x1_6, e_x1_6⟩ : ∃ y : Int32, y = x1 + (1 : Int32) := ⟨_, rfl⟩
        have h := h x1_6 e_x1_6
        refine wr_iinc (pc := 20) (v := x1_6) (lv' := [(1, .int x1_6), (0, .ref (G.1 a0))]) (dget kX7_firstFault 12 rfl) 1 rfl (by rw [e_x1_6, ic_1]) (by decide) rfl ?_
        refine wr_goto (pc := 23) (tgt := 2) (dget kX7_firstFault 13 rfl) (by decide) ?_
        refine wr_sub [1, 0] rfl ?_
        exact ih _ _ h
      · have h := h.1 c_5
        refine wr_iload_n (pc := 18) (dget kX7_firstFault 10 rfl) 1 rfl ?_
        exact wr_iret (pc := 19) rfl (dget kX7_firstFault 11 rfl) ⟨_, rfl, h⟩
def vX7_firstFault (o : Nat) (σ : Hp) (post : Int32 → Hp → Prop) : Prop := (∃ fu : Nat, vX7_firstFault_2 post (fun σ_1 => (kd o = 7 ∧ (((σ_1.1 o 5) = 0 → (((1 : Int32) = 0 → post (σ_1.1 o 5) σ_1) ∧ (¬ (1 : Int32) = 0 → post (-1 : Int32) σ_1))) ∧ (¬ (σ_1.1 o 5) = 0 → (¬ ((σ_1.1 o 1) + (1 : Int32)) = 0 ∧ ((((σ_1.1 o 5) - (σ_1.1 o 5) / ((σ_1.1 o 1) + (1 : Int32)) * ((σ_1.1 o 1) + (1 : Int32))) = (σ_1.1 o 1) → (((1 : Int32) = 0 → post (σ_1.1 o 5) σ_1) ∧ (¬ (1 : Int32) = 0 → post (-1 : Int32) σ_1))) ∧ (¬ ((σ_1.1 o 5) - (σ_1.1 o 5) / ((σ_1.1 o 1) + (1 : Int32)) * ((σ_1.1 o 1) + (1 : Int32))) = (σ_1.1 o 1) → (((0 : Int32) = 0 → post (σ_1.1 o 5) σ_1) ∧ (¬ (0 : Int32) = 0 → post (-1 : Int32) σ_1))))))))) o fu (0 : Int32) σ)
set_option maxHeartbeats 4000000 in
set_option maxRecDepth 100000 in
theorem tX7_firstFault {G : GT} {o : Nat} {σ : Hp} {post : Int32 → Hp → Prop} (h : vX7_firstFault o σ post) : CT G mX7_firstFault [.ref (G.1 o)] σ (LI post) := by
  refine CT.of (by decide +kernel) (Nat.le_of_ble_eq_true rfl) ?_
  show WP G mX7_firstFault 0 [(0, .ref (G.1 o))] [] σ (LI post)
  unfold vX7_firstFault at h
  refine wr_iconst (pc := 0) (dget kX7_firstFault 0 rfl) ic_0 ?_
  refine wr_istore_n (pc := 1) (lv' := [(1, .int (0 : Int32)), (0, .ref (G.1 o))]) (dget kX7_firstFault 1 rfl) (by decide) rfl ?_
  obtain ⟨fu, h⟩ := h
  refine wr_sub [1, 0] rfl ?_
  refine tX7_firstFault_2 (fun σ_1 h => ?_) fu _ _ h
  refine wr_aload_n (pc := 26) (dget kX7_firstFault 14 rfl) 0 rfl ?_
  obtain ⟨q_2, h⟩ := h
  refine wr_getI (pc := 27) (σ := σ_1) fl_X7_31 q_2 fk_7_5 (dget kX7_firstFault 15 rfl) ?_
  refine wr_if_eq (pc := 30) (tgt := 51) (dget kX7_firstFault 16 rfl) (by decide) (fun c_3 => ?_) (fun c_3 => ?_)
  · have h := h.1 c_3
    refine wr_iconst (pc := 51) (dget kX7_firstFault 27 rfl) ic_1 ?_
    refine wr_goto (pc := 52) (tgt := 56) (dget kX7_firstFault 28 rfl) (by decide) ?_
    refine wr_istore_n (pc := 56) (lv' := [(1, .int (1 : Int32)), (0, .ref (G.1 o))]) (dget kX7_firstFault 30 rfl) (by decide) rfl ?_
    refine wr_iload_n (pc := 57) (dget kX7_firstFault 31 rfl) 0 rfl ?_
    refine wr_if_eq (pc := 58) (tgt := 65) (dget kX7_firstFault 32 rfl) (by decide) (fun c_4 => ?_) (fun c_4 => ?_)
    · have h := h.1 c_4
      refine wr_aload_n (pc := 65) (dget kX7_firstFault 35 rfl) 1 rfl ?_
      refine wr_getI (pc := 66) (σ := σ_1) fl_X7_31 q_2 fk_7_5 (dget kX7_firstFault 36 rfl) ?_
      exact wr_iret (pc := 69) rfl (dget kX7_firstFault 37 rfl) ⟨_, rfl, h⟩
    · have h := h.2 c_4
      refine wr_iconst (pc := 61) (dget kX7_firstFault 33 rfl) ic_m1 ?_
      refine wr_goto (pc := 62) (tgt := 69) (dget kX7_firstFault 34 rfl) (by decide) ?_
      exact wr_iret (pc := 69) rfl (dget kX7_firstFault 37 rfl) ⟨_, rfl, h⟩
  · have h := h.2 c_3
    refine wr_aload_n (pc := 33) (dget kX7_firstFault 17 rfl) 0 rfl ?_
    refine wr_getI (pc := 34) (σ := σ_1) fl_X7_31 q_2 fk_7_5 (dget kX7_firstFault 18 rfl) ?_
    refine wr_aload_n (pc := 37) (dget kX7_firstFault 19 rfl) 0 rfl ?_
    refine wr_getI (pc := 38) (σ := σ_1) fl_X7_15 q_2 fk_7_1 (dget kX7_firstFault 20 rfl) ?_
    refine wr_iconst (pc := 41) (dget kX7_firstFault 21 rfl) ic_1 ?_
    refine wr_iadd (pc := 42) (dget kX7_firstFault 22 rfl) ?_
    obtain ⟨q_8, h⟩ := h
    refine wr_irem (pc := 43) (dget kX7_firstFault 23 rfl) q_8 ?_
    refine wr_aload_n (pc := 44) (dget kX7_firstFault 24 rfl) 0 rfl ?_
    refine wr_getI (pc := 45) (σ := σ_1) fl_X7_15 q_2 fk_7_1 (dget kX7_firstFault 25 rfl) ?_
    refine wr_icmp_ne (pc := 48) (tgt := 55) (dget kX7_firstFault 26 rfl) (by decide) (fun c_5 => ?_) (fun c_5 => ?_)
    · have h := h.2 c_5
      refine wr_iconst (pc := 55) (dget kX7_firstFault 29 rfl) ic_0 ?_
      refine wr_istore_n (pc := 56) (lv' := [(1, .int (0 : Int32)), (0, .ref (G.1 o))]) (dget kX7_firstFault 30 rfl) (by decide) rfl ?_
      refine wr_iload_n (pc := 57) (dget kX7_firstFault 31 rfl) 0 rfl ?_
      refine wr_if_eq (pc := 58) (tgt := 65) (dget kX7_firstFault 32 rfl) (by decide) (fun c_6 => ?_) (fun c_6 => ?_)
      · have h := h.1 c_6
        refine wr_aload_n (pc := 65) (dget kX7_firstFault 35 rfl) 1 rfl ?_
        refine wr_getI (pc := 66) (σ := σ_1) fl_X7_31 q_2 fk_7_5 (dget kX7_firstFault 36 rfl) ?_
        exact wr_iret (pc := 69) rfl (dget kX7_firstFault 37 rfl) ⟨_, rfl, h⟩
      · have h := h.2 c_6
        refine wr_iconst (pc := 61) (dget kX7_firstFault 33 rfl) ic_m1 ?_
        refine wr_goto (pc := 62) (tgt := 69) (dget kX7_firstFault 34 rfl) (by decide) ?_
        exact wr_iret (pc := 69) rfl (dget kX7_firstFault 37 rfl) ⟨_, rfl, h⟩
    · have h := h.1 c_5
      refine wr_iconst (pc := 51) (dget kX7_firstFault 27 rfl) ic_1 ?_
      refine wr_goto (pc := 52) (tgt := 56) (dget kX7_firstFault 28 rfl) (by decide) ?_
      refine wr_istore_n (pc := 56) (lv' := [(1, .int (1 : Int32)), (0, .ref (G.1 o))]) (dget kX7_firstFault 30 rfl) (by decide) rfl ?_
      refine wr_iload_n (pc := 57) (dget kX7_firstFault 31 rfl) 0 rfl ?_
      refine wr_if_eq (pc := 58) (tgt := 65) (dget kX7_firstFault 32 rfl) (by decide) (fun c_7 => ?_) (fun c_7 => ?_)
      · have h := h.1 c_7
        refine wr_aload_n (pc := 65) (dget kX7_firstFault 35 rfl) 1 rfl ?_
        refine wr_getI (pc := 66) (σ := σ_1) fl_X7_31 q_2 fk_7_5 (dget kX7_firstFault 36 rfl) ?_
        exact wr_iret (pc := 69) rfl (dget kX7_firstFault 37 rfl) ⟨_, rfl, h⟩
      · have h := h.2 c_7
        refine wr_iconst (pc := 61) (dget kX7_firstFault 33 rfl) ic_m1 ?_
        refine wr_goto (pc := 62) (tgt := 69) (dget kX7_firstFault 34 rfl) (by decide) ?_
        exact wr_iret (pc := 69) rfl (dget kX7_firstFault 37 rfl) ⟨_, rfl, h⟩
def vX7_examine (o : Nat) (σ : Hp) (post : Hp → Prop) : Prop := (kd o = 7 ∧ (vX7_firstFault o σ (fun r_3 σ_2 => (∀ σ_4 : Hp, σ_4 = wI σ_2 o 7 r_3 → (((σ_4.1 o 7) = (-1 : Int32) → (¬ ((σ_4.1 o 1) + (1 : Int32)) = 0 ∧ (∀ σ_7 : Hp, σ_7 = wI σ_4 o 6 (((σ_4.1 o 5) + (1 : Int32)) / ((σ_4.1 o 1) + (1 : Int32))) → post σ_7))) ∧ (¬ (σ_4.1 o 7) = (-1 : Int32) → (∀ σ_6 : Hp, σ_6 = wI σ_4 o 6 (0 : Int32) → post σ_6)))))))
set_option maxHeartbeats 4000000 in
set_option maxRecDepth 100000 in
theorem tX7_examine {G : GT} {o : Nat} {σ : Hp} {post : Hp → Prop} (h : vX7_examine o σ post) : CT G mX7_examine [.ref (G.1 o)] σ (LV post) := by
  refine CT.of (by decide +kernel) (Nat.le_of_ble_eq_true rfl) ?_
  show WP G mX7_examine 0 [(0, .ref (G.1 o))] [] σ (LV post)
  unfold vX7_examine at h
  refine wr_aload_n (pc := 0) (dget kX7_examine 0 rfl) 0 rfl ?_
  refine wr_aload_n (pc := 1) (dget kX7_examine 1 rfl) 0 rfl ?_
  obtain ⟨q_1, h⟩ := h
  refine wr_callVi (pc := 2) (Mc := mX7_firstFault) (o := o) (rest := [.ref (G.1 o)]) cf_X7_34 cv_X7_firstFault q_1 rfl ⟨Nat.le_of_ble_eq_true rfl, Nat.le_of_ble_eq_true rfl⟩ rfl rfl (Nat.le_of_ble_eq_true rfl) (dget kX7_examine 2 rfl) (tX7_firstFault h) (fun r_3 σ_2 h => ?_)
  refine wr_putI (pc := 5) fl_X7_28 q_1 fk_7_7 (vp_nar_int _) rfl (dget kX7_examine 3 rfl) ?_
  refine wr_tops (fun σ_4 e_σ_4 => ?_)
  have h := h σ_4 e_σ_4
  refine wr_aload_n (pc := 8) (dget kX7_examine 4 rfl) 0 rfl ?_
  refine wr_aload_n (pc := 9) (dget kX7_examine 5 rfl) 0 rfl ?_
  refine wr_getI (pc := 10) (σ := σ_4) fl_X7_28 q_1 fk_7_7 (dget kX7_examine 6 rfl) ?_
  refine wr_iconst (pc := 13) (dget kX7_examine 7 rfl) ic_m1 ?_
  refine wr_icmp_ne (pc := 14) (tgt := 33) (dget kX7_examine 8 rfl) (by decide) (fun c_5 => ?_) (fun c_5 => ?_)
  · have h := h.2 c_5
    refine wr_iconst (pc := 33) (dget kX7_examine 19 rfl) ic_0 ?_
    refine wr_putI (pc := 34) fl_X7_38 q_1 fk_7_6 (vp_nar_int _) rfl (dget kX7_examine 20 rfl) ?_
    refine wr_tops (fun σ_6 e_σ_6 => ?_)
    have h := h σ_6 e_σ_6
    exact wr_vret (pc := 37) rfl (dget kX7_examine 21 rfl) ⟨rfl, h⟩
  · have h := h.1 c_5
    refine wr_aload_n (pc := 17) (dget kX7_examine 9 rfl) 0 rfl ?_
    refine wr_getI (pc := 18) (σ := σ_4) fl_X7_31 q_1 fk_7_5 (dget kX7_examine 10 rfl) ?_
    refine wr_iconst (pc := 21) (dget kX7_examine 11 rfl) ic_1 ?_
    refine wr_iadd (pc := 22) (dget kX7_examine 12 rfl) ?_
    refine wr_aload_n (pc := 23) (dget kX7_examine 13 rfl) 0 rfl ?_
    refine wr_getI (pc := 24) (σ := σ_4) fl_X7_15 q_1 fk_7_1 (dget kX7_examine 14 rfl) ?_
    refine wr_iconst (pc := 27) (dget kX7_examine 15 rfl) ic_1 ?_
    refine wr_iadd (pc := 28) (dget kX7_examine 16 rfl) ?_
    obtain ⟨q_8, h⟩ := h
    refine wr_idiv (pc := 29) (dget kX7_examine 17 rfl) q_8 ?_
    refine wr_goto (pc := 30) (tgt := 34) (dget kX7_examine 18 rfl) (by decide) ?_
    refine wr_putI (pc := 34) fl_X7_38 q_1 fk_7_6 (vp_nar_int _) rfl (dget kX7_examine 20 rfl) ?_
    refine wr_tops (fun σ_7 e_σ_7 => ?_)
    have h := h σ_7 e_σ_7
    exact wr_vret (pc := 37) rfl (dget kX7_examine 21 rfl) ⟨rfl, h⟩
