def vX5_takeFrom (o : Nat) (a1 : Nat) (σ : Hp) (post : Hp → Prop) : Prop := (kd a1 = 5 ∧ (kd o = 5 ∧ (∀ σ_3 : Hp, σ_3 = wI σ o 3 (σ.1 a1 3) → (kd (rt a1 0) = 10 ∧ (kd (rt o 0) = 10 ∧ (¬ (0 : Int32) < 0 ∧ ¬ (0 : Int32) < 0 ∧ ¬ (σ_3.1 o 3) < 0 ∧ (0 : Int32).toNatClampNeg + ((σ_3.1 o 3)).toNatClampNeg ≤ (iln (rt a1 0)) ∧ (0 : Int32).toNatClampNeg + ((σ_3.1 o 3)).toNatClampNeg ≤ (iln (rt o 0)) ∧ ∀ σ_6 : Hp, σ_6 = wR σ_3 (rt o 0) (va_cpy (σ_3.1 (rt a1 0)) (σ_3.1 (rt o 0)) (0 : Int32).toNatClampNeg (0 : Int32).toNatClampNeg ((σ_3.1 o 3)).toNatClampNeg) → (kd (rt a1 1) = 10 ∧ (kd (rt o 1) = 10 ∧ (¬ (0 : Int32) < 0 ∧ ¬ (0 : Int32) < 0 ∧ ¬ (σ_6.1 o 3) < 0 ∧ (0 : Int32).toNatClampNeg + ((σ_6.1 o 3)).toNatClampNeg ≤ (iln (rt a1 1)) ∧ (0 : Int32).toNatClampNeg + ((σ_6.1 o 3)).toNatClampNeg ≤ (iln (rt o 1)) ∧ ∀ σ_14 : Hp, σ_14 = wR σ_6 (rt o 1) (va_cpy (σ_6.1 (rt a1 1)) (σ_6.1 (rt o 1)) (0 : Int32).toNatClampNeg (0 : Int32).toNatClampNeg ((σ_6.1 o 3)).toNatClampNeg) → (kd (rt a1 2) = 10 ∧ (kd (rt o 2) = 10 ∧ (¬ (0 : Int32) < 0 ∧ ¬ (0 : Int32) < 0 ∧ ¬ (σ_14.1 o 3) < 0 ∧ (0 : Int32).toNatClampNeg + ((σ_14.1 o 3)).toNatClampNeg ≤ (iln (rt a1 2)) ∧ (0 : Int32).toNatClampNeg + ((σ_14.1 o 3)).toNatClampNeg ≤ (iln (rt o 2)) ∧ ∀ σ_22 : Hp, σ_22 = wR σ_14 (rt o 2) (va_cpy (σ_14.1 (rt a1 2)) (σ_14.1 (rt o 2)) (0 : Int32).toNatClampNeg (0 : Int32).toNatClampNeg ((σ_14.1 o 3)).toNatClampNeg) → post σ_22))))))))))))
set_option maxHeartbeats 4000000 in
set_option maxRecDepth 100000 in
theorem tX5_takeFrom {G : GT} {o : Nat} {a1 : Nat} {σ : Hp} {post : Hp → Prop} (h : vX5_takeFrom o a1 σ post) : CT G mX5_takeFrom [.ref (G.1 o), .ref (G.1 a1)] σ (LV post) := by
  refine CT.of (by decide +kernel) (Nat.le_of_ble_eq_true rfl) ?_
  show WP G mX5_takeFrom 0 [(0, .ref (G.1 o)), (1, .ref (G.1 a1))] [] σ (LV post)
  unfold vX5_takeFrom at h
  refine wr_aload_n (pc := 0) (dget kX5_takeFrom 0 rfl) 0 rfl ?_
  refine wr_aload_n (pc := 1) (dget kX5_takeFrom 1 rfl) 1 rfl ?_
  obtain ⟨q_1, h⟩ := h
  refine wr_getI (pc := 2) (σ := σ) fl_X5_27 q_1 fk_5_3 (dget kX5_takeFrom 2 rfl) ?_
  obtain ⟨q_2, h⟩ := h
  refine wr_putI (pc := 5) fl_X5_27 q_2 fk_5_3 (vp_nar_int _) rfl (dget kX5_takeFrom 3 rfl) ?_
  refine wr_tops (fun σ_3 e_σ_3 => ?_)
  have h := h σ_3 e_σ_3
  refine wr_aload_n (pc := 8) (dget kX5_takeFrom 4 rfl) 1 rfl ?_
  refine wr_getR (pc := 9) fl_X5_9 q_1 fk_5_0 (dget kX5_takeFrom 5 rfl) ?_
  refine wr_iconst (pc := 12) (dget kX5_takeFrom 6 rfl) ic_0 ?_
  refine wr_aload_n (pc := 13) (dget kX5_takeFrom 7 rfl) 0 rfl ?_
  refine wr_getR (pc := 14) fl_X5_9 q_2 fk_5_0 (dget kX5_takeFrom 8 rfl) ?_
  refine wr_iconst (pc := 17) (dget kX5_takeFrom 9 rfl) ic_0 ?_
  refine wr_aload_n (pc := 18) (dget kX5_takeFrom 10 rfl) 0 rfl ?_
  refine wr_getI (pc := 19) (σ := σ_3) fl_X5_27 q_2 fk_5_3 (dget kX5_takeFrom 11 rfl) ?_
  obtain ⟨q_4, h⟩ := h
  obtain ⟨q_5, h⟩ := h
  obtain ⟨q_7, q_8, q_9, q_10, q_11, h⟩ := h
  refine wr_copy (pc := 22) (σ := σ_3) ml_X5_34 q_4 q_5 q_7 q_8 q_9 q_10 q_11 (by decide) (by decide) (dget kX5_takeFrom 12 rfl) ?_
  refine wr_tops (fun σ_6 e_σ_6 => ?_)
  have h := h σ_6 e_σ_6
  refine wr_aload_n (pc := 25) (dget kX5_takeFrom 13 rfl) 1 rfl ?_
  refine wr_getR (pc := 26) fl_X5_15 q_1 fk_5_1 (dget kX5_takeFrom 14 rfl) ?_
  refine wr_iconst (pc := 29) (dget kX5_takeFrom 15 rfl) ic_0 ?_
  refine wr_aload_n (pc := 30) (dget kX5_takeFrom 16 rfl) 0 rfl ?_
  refine wr_getR (pc := 31) fl_X5_15 q_2 fk_5_1 (dget kX5_takeFrom 17 rfl) ?_
  refine wr_iconst (pc := 34) (dget kX5_takeFrom 18 rfl) ic_0 ?_
  refine wr_aload_n (pc := 35) (dget kX5_takeFrom 19 rfl) 0 rfl ?_
  refine wr_getI (pc := 36) (σ := σ_6) fl_X5_27 q_2 fk_5_3 (dget kX5_takeFrom 20 rfl) ?_
  obtain ⟨q_12, h⟩ := h
  obtain ⟨q_13, h⟩ := h
  obtain ⟨q_15, q_16, q_17, q_18, q_19, h⟩ := h
  refine wr_copy (pc := 39) (σ := σ_6) ml_X5_34 q_12 q_13 q_15 q_16 q_17 q_18 q_19 (by decide) (by decide) (dget kX5_takeFrom 21 rfl) ?_
  refine wr_tops (fun σ_14 e_σ_14 => ?_)
  have h := h σ_14 e_σ_14
  refine wr_aload_n (pc := 42) (dget kX5_takeFrom 22 rfl) 1 rfl ?_
  refine wr_getR (pc := 43) fl_X5_18 q_1 fk_5_2 (dget kX5_takeFrom 23 rfl) ?_
  refine wr_iconst (pc := 46) (dget kX5_takeFrom 24 rfl) ic_0 ?_
  refine wr_aload_n (pc := 47) (dget kX5_takeFrom 25 rfl) 0 rfl ?_
  refine wr_getR (pc := 48) fl_X5_18 q_2 fk_5_2 (dget kX5_takeFrom 26 rfl) ?_
  refine wr_iconst (pc := 51) (dget kX5_takeFrom 27 rfl) ic_0 ?_
  refine wr_aload_n (pc := 52) (dget kX5_takeFrom 28 rfl) 0 rfl ?_
  refine wr_getI (pc := 53) (σ := σ_14) fl_X5_27 q_2 fk_5_3 (dget kX5_takeFrom 29 rfl) ?_
  obtain ⟨q_20, h⟩ := h
  obtain ⟨q_21, h⟩ := h
  obtain ⟨q_23, q_24, q_25, q_26, q_27, h⟩ := h
  refine wr_copy (pc := 56) (σ := σ_14) ml_X5_34 q_20 q_21 q_23 q_24 q_25 q_26 q_27 (by decide) (by decide) (dget kX5_takeFrom 30 rfl) ?_
  refine wr_tops (fun σ_22 e_σ_22 => ?_)
  have h := h σ_22 e_σ_22
  exact wr_vret (pc := 59) rfl (dget kX5_takeFrom 31 rfl) ⟨rfl, h⟩
def vX5_takeText_10 (post : Hp → Prop) (ex : Hp → Prop) (a0 : Nat) (a1 : Nat) : Nat → Int32 → Hp → Prop
  | 0 => fun _ _ => False
  | n + 1 => fun x2 σ => (kd a0 = 5 ∧ (((σ.1 a0 3) ≤ x2 → (ex σ)) ∧ (¬ (σ.1 a0 3) ≤ x2 → (kd a1 = 7 ∧ (vX7_value a1 x2 (0 : Int32) σ (fun r_5 σ_4 => (vp_in x2 (iln (rt a0 0)) ∧ ∀ σ_7 : Hp, σ_7 = wI σ_4 (rt a0 0) x2.toNatClampNeg r_5 → (vX7_value a1 x2 (1 : Int32) σ_7 (fun r_9 σ_8 => (vp_in x2 (iln (rt a0 1)) ∧ ∀ σ_11 : Hp, σ_11 = wI σ_8 (rt a0 1) x2.toNatClampNeg r_9 → (vX7_value a1 x2 (2 : Int32) σ_11 (fun r_13 σ_12 => (vp_in x2 (iln (rt a0 2)) ∧ ∀ σ_15 : Hp, σ_15 = wI σ_12 (rt a0 2) x2.toNatClampNeg r_13 → (∀ x2_16 : Int32, x2_16 = x2 + (1 : Int32) → vX5_takeText_10 post ex a0 a1 n x2_16 σ_15))))))))))))))
set_option maxHeartbeats 4000000 in
set_option maxRecDepth 100000 in
theorem tX5_takeText_10 {G : GT} {post : Hp → Prop} {ex : Hp → Prop} {a0 : Nat} {a1 : Nat} (hex : ∀  (τ : Hp), ex  τ → WP G mX5_takeText 60 [] [] τ (LV post)) : ∀ (n : Nat) (x2 : Int32) (σ : Hp), vX5_takeText_10 post ex a0 a1 n x2 σ → WP G mX5_takeText 10 [(0, .ref (G.1 a0)), (1, .ref (G.1 a1)), (2, .int x2)] [] σ (LV post) := by
  intro n
  induction n with
  | zero => intro x2 σ h; exact False.elim h
  | succ n ih =>
    intro x2 σ h
    simp only [vX5_takeText_10] at h
    refine wr_iload_n (pc := 10) (dget kX5_takeText 6 rfl) 2 rfl ?_
    refine wr_aload_n (pc := 11) (dget kX5_takeText 7 rfl) 0 rfl ?_
    obtain ⟨q_1, h⟩ := h
    refine wr_getI (pc := 12) (σ := σ) fl_X5_27 q_1 fk_5_3 (dget kX5_takeText 8 rfl) ?_
    refine wr_icmp_ge (pc := 15) (tgt := 60) (dget kX5_takeText 9 rfl) (by decide) (fun c_2 => ?_) (fun c_2 => ?_)
    · have h := h.1 c_2
      refine wr_sub [] rfl ?_
      exact hex  _ h
    · have h := h.2 c_2
      refine wr_aload_n (pc := 18) (dget kX5_takeText 10 rfl) 0 rfl ?_
      refine wr_getR (pc := 19) fl_X5_9 q_1 fk_5_0 (dget kX5_takeText 11 rfl) ?_
      refine wr_iload_n (pc := 22) (dget kX5_takeText 12 rfl) 2 rfl ?_
      refine wr_aload_n (pc := 23) (dget kX5_takeText 13 rfl) 1 rfl ?_
      refine wr_iload_n (pc := 24) (dget kX5_takeText 14 rfl) 2 rfl ?_
      refine wr_iconst (pc := 25) (dget kX5_takeText 15 rfl) ic_0 ?_
      obtain ⟨q_3, h⟩ := h
      refine wr_callVi (pc := 26) (Mc := mX7_value) (o := a1) (rest := [.int x2, .ref (G.1 (rt a0 0))]) cf_X5_30 cv_X7_value q_3 rfl ⟨Nat.le_of_ble_eq_true rfl, Nat.le_of_ble_eq_true rfl⟩ rfl rfl (Nat.le_of_ble_eq_true rfl) (dget kX5_takeText 16 rfl) (tX7_value h) (fun r_5 σ_4 h => ?_)
      obtain ⟨q_6, h⟩ := h
      refine wr_iastl (pc := 29) rfl q_6 (dget kX5_takeText 17 rfl) ?_
      refine wr_tops (fun σ_7 e_σ_7 => ?_)
      have h := h σ_7 e_σ_7
      refine wr_aload_n (pc := 30) (dget kX5_takeText 18 rfl) 0 rfl ?_
      refine wr_getR (pc := 31) fl_X5_15 q_1 fk_5_1 (dget kX5_takeText 19 rfl) ?_
      refine wr_iload_n (pc := 34) (dget kX5_takeText 20 rfl) 2 rfl ?_
      refine wr_aload_n (pc := 35) (dget kX5_takeText 21 rfl) 1 rfl ?_
      refine wr_iload_n (pc := 36) (dget kX5_takeText 22 rfl) 2 rfl ?_
      refine wr_iconst (pc := 37) (dget kX5_takeText 23 rfl) ic_1 ?_
      refine wr_callVi (pc := 38) (Mc := mX7_value) (o := a1) (rest := [.int x2, .ref (G.1 (rt a0 1))]) cf_X5_30 cv_X7_value q_3 rfl ⟨Nat.le_of_ble_eq_true rfl, Nat.le_of_ble_eq_true rfl⟩ rfl rfl (Nat.le_of_ble_eq_true rfl) (dget kX5_takeText 24 rfl) (tX7_value h) (fun r_9 σ_8 h => ?_)
      obtain ⟨q_10, h⟩ := h
      refine wr_iastl (pc := 41) rfl q_10 (dget kX5_takeText 25 rfl) ?_
      refine wr_tops (fun σ_11 e_σ_11 => ?_)
      have h := h σ_11 e_σ_11
      refine wr_aload_n (pc := 42) (dget kX5_takeText 26 rfl) 0 rfl ?_
      refine wr_getR (pc := 43) fl_X5_18 q_1 fk_5_2 (dget kX5_takeText 27 rfl) ?_
      refine wr_iload_n (pc := 46) (dget kX5_takeText 28 rfl) 2 rfl ?_
      refine wr_aload_n (pc := 47) (dget kX5_takeText 29 rfl) 1 rfl ?_
      refine wr_iload_n (pc := 48) (dget kX5_takeText 30 rfl) 2 rfl ?_
      refine wr_iconst (pc := 49) (dget kX5_takeText 31 rfl) ic_2 ?_
      refine wr_callVi (pc := 50) (Mc := mX7_value) (o := a1) (rest := [.int x2, .ref (G.1 (rt a0 2))]) cf_X5_30 cv_X7_value q_3 rfl ⟨Nat.le_of_ble_eq_true rfl, Nat.le_of_ble_eq_true rfl⟩ rfl rfl (Nat.le_of_ble_eq_true rfl) (dget kX5_takeText 32 rfl) (tX7_value h) (fun r_13 σ_12 h => ?_)
      obtain ⟨q_14, h⟩ := h
      refine wr_iastl (pc := 53) rfl q_14 (dget kX5_takeText 33 rfl) ?_
      refine wr_tops (fun σ_15 e_σ_15 => ?_)
      have h := h σ_15 e_σ_15
      obtain ⟨x2_16, e_x2_16⟩ : ∃ y : Int32, y = x2 + (1 : Int32) := ⟨_, rfl⟩
      have h := h x2_16 e_x2_16
      refine wr_iinc (pc := 54) (v := x2_16) (lv' := [(2, .int x2_16), (0, .ref (G.1 a0)), (1, .ref (G.1 a1))]) (dget kX5_takeText 34 rfl) 2 rfl (by rw [e_x2_16, ic_1]) (by decide) rfl ?_
      refine wr_goto (pc := 57) (tgt := 10) (dget kX5_takeText 35 rfl) (by decide) ?_
      refine wr_sub [1, 2, 0] rfl ?_
      exact ih _ _ h
def vX5_takeText (o : Nat) (a1 : Nat) (σ : Hp) (post : Hp → Prop) : Prop := (kd a1 = 7 ∧ (kd o = 5 ∧ (∀ σ_3 : Hp, σ_3 = wI σ o 3 (σ.1 a1 6) → (∃ fu : Nat, vX5_takeText_10 post (fun σ_4 => post σ_4) o a1 fu (0 : Int32) σ_3))))
set_option maxHeartbeats 4000000 in
set_option maxRecDepth 100000 in
theorem tX5_takeText {G : GT} {o : Nat} {a1 : Nat} {σ : Hp} {post : Hp → Prop} (h : vX5_takeText o a1 σ post) : CT G mX5_takeText [.ref (G.1 o), .ref (G.1 a1)] σ (LV post) := by
  refine CT.of (by decide +kernel) (Nat.le_of_ble_eq_true rfl) ?_
  show WP G mX5_takeText 0 [(0, .ref (G.1 o)), (1, .ref (G.1 a1))] [] σ (LV post)
  unfold vX5_takeText at h
  refine wr_aload_n (pc := 0) (dget kX5_takeText 0 rfl) 0 rfl ?_
  refine wr_aload_n (pc := 1) (dget kX5_takeText 1 rfl) 1 rfl ?_
  obtain ⟨q_1, h⟩ := h
  refine wr_getI (pc := 2) (σ := σ) fl_X5_21 q_1 fk_7_6 (dget kX5_takeText 2 rfl) ?_
  obtain ⟨q_2, h⟩ := h
  refine wr_putI (pc := 5) fl_X5_27 q_2 fk_5_3 (vp_nar_int _) rfl (dget kX5_takeText 3 rfl) ?_
  refine wr_tops (fun σ_3 e_σ_3 => ?_)
  have h := h σ_3 e_σ_3
  refine wr_iconst (pc := 8) (dget kX5_takeText 4 rfl) ic_0 ?_
  refine wr_istore_n (pc := 9) (lv' := [(2, .int (0 : Int32)), (0, .ref (G.1 o)), (1, .ref (G.1 a1))]) (dget kX5_takeText 5 rfl) (by decide) rfl ?_
  obtain ⟨fu, h⟩ := h
  refine wr_sub [1, 2, 0] rfl ?_
  refine tX5_takeText_10 (fun σ_4 h => ?_) fu _ _ h
  exact wr_vret (pc := 60) rfl (dget kX5_takeText 36 rfl) ⟨rfl, h⟩
def vX5_tellShot (o : Nat) (p1 : Int32) (p2 : Int32) (σ : Hp) (post : Int32 → Hp → Prop) : Prop := ((p2 = (0 : Int32) → (kd o = 5 ∧ (vp_in p1 (iln (rt o 0)) ∧ post (σ.1 (rt o 0) p1.toNatClampNeg) σ))) ∧ (¬ p2 = (0 : Int32) → ((p2 = (1 : Int32) → (kd o = 5 ∧ (vp_in p1 (iln (rt o 1)) ∧ post (σ.1 (rt o 1) p1.toNatClampNeg) σ))) ∧ (¬ p2 = (1 : Int32) → (kd o = 5 ∧ (vp_in p1 (iln (rt o 2)) ∧ post (σ.1 (rt o 2) p1.toNatClampNeg) σ))))))
set_option maxHeartbeats 4000000 in
set_option maxRecDepth 100000 in
theorem tX5_tellShot {G : GT} {o : Nat} {p1 : Int32} {p2 : Int32} {σ : Hp} {post : Int32 → Hp → Prop} (h : vX5_tellShot o p1 p2 σ post) : CT G mX5_tellShot [.ref (G.1 o), .int p1, .int p2] σ (LI post) := by
  refine CT.of (by decide +kernel) (Nat.le_of_ble_eq_true rfl) ?_
  show WP G mX5_tellShot 0 [(0, .ref (G.1 o)), (1, .int p1), (2, .int p2)] [] σ (LI post)
  unfold vX5_tellShot at h
  refine wr_iload_n (pc := 0) (dget kX5_tellShot 0 rfl) 2 rfl ?_
  rcases Decidable.em (p2 = (0 : Int32)) with c_1 | c_1
  · have h := h.1 c_1
    refine wr_look (pc := 1) (tgt := 28) (off := 27) (dget kX5_tellShot 1 rfl) (by decide) (by rw [c_1]; rfl) (by decide) ?_
    refine wr_aload_n (pc := 28) (dget kX5_tellShot 2 rfl) 0 rfl ?_
    obtain ⟨q_2, h⟩ := h
    refine wr_getR (pc := 29) fl_X5_9 q_2 fk_5_0 (dget kX5_tellShot 3 rfl) ?_
    refine wr_iload_n (pc := 32) (dget kX5_tellShot 4 rfl) 1 rfl ?_
    obtain ⟨q_3, h⟩ := h
    refine wr_ialdl (pc := 33) (σ := σ) rfl q_3 (dget kX5_tellShot 5 rfl) ?_
    exact wr_iret (pc := 34) rfl (dget kX5_tellShot 6 rfl) ⟨_, rfl, h⟩
  · have h := h.2 c_1
    rcases Decidable.em (p2 = (1 : Int32)) with c_4 | c_4
    · have h := h.1 c_4
      refine wr_look (pc := 1) (tgt := 35) (off := 34) (dget kX5_tellShot 1 rfl) (by decide) (by rw [c_4]; rfl) (by decide) ?_
      refine wr_aload_n (pc := 35) (dget kX5_tellShot 7 rfl) 0 rfl ?_
      obtain ⟨q_5, h⟩ := h
      refine wr_getR (pc := 36) fl_X5_15 q_5 fk_5_1 (dget kX5_tellShot 8 rfl) ?_
      refine wr_iload_n (pc := 39) (dget kX5_tellShot 9 rfl) 1 rfl ?_
      obtain ⟨q_6, h⟩ := h
      refine wr_ialdl (pc := 40) (σ := σ) rfl q_6 (dget kX5_tellShot 10 rfl) ?_
      exact wr_iret (pc := 41) rfl (dget kX5_tellShot 11 rfl) ⟨_, rfl, h⟩
    · have h := h.2 c_4
      refine wr_look (pc := 1) (tgt := 42) (off := 41) (dget kX5_tellShot 1 rfl) (by decide) (by rw [lv_osw c_1 (by decide)]; rw [lv_osw c_4 (by decide)]; rfl) (by decide) ?_
      refine wr_aload_n (pc := 42) (dget kX5_tellShot 12 rfl) 0 rfl ?_
      obtain ⟨q_7, h⟩ := h
      refine wr_getR (pc := 43) fl_X5_18 q_7 fk_5_2 (dget kX5_tellShot 13 rfl) ?_
      refine wr_iload_n (pc := 46) (dget kX5_tellShot 14 rfl) 1 rfl ?_
      obtain ⟨q_8, h⟩ := h
      refine wr_ialdl (pc := 47) (σ := σ) rfl q_8 (dget kX5_tellShot 15 rfl) ?_
      exact wr_iret (pc := 48) rfl (dget kX5_tellShot 16 rfl) ⟨_, rfl, h⟩
def vX5_nextSeed (p1 : Int32) (σ : Hp) (post : Int32 → Hp → Prop) : Prop := post (((1103515245 : Int32) * p1) + (12345 : Int32)) σ
set_option maxHeartbeats 4000000 in
set_option maxRecDepth 100000 in
theorem tX5_nextSeed {G : GT} {p1 : Int32} {σ : Hp} {post : Int32 → Hp → Prop} (h : vX5_nextSeed p1 σ post) : CT G mX5_nextSeed [.int p1] σ (LI post) := by
  refine CT.of (by decide +kernel) (Nat.le_of_ble_eq_true rfl) ?_
  show WP G mX5_nextSeed 0 [(0, .int p1)] [] σ (LI post)
  unfold vX5_nextSeed at h
  refine wr_ldc (pc := 0) ki_X5_44 (dget kX5_nextSeed 0 rfl) ?_
  refine wr_iload_n (pc := 2) (dget kX5_nextSeed 1 rfl) 0 rfl ?_
  refine wr_imul (pc := 3) (dget kX5_nextSeed 2 rfl) ?_
  refine wr_sipush (pc := 4) (dget kX5_nextSeed 3 rfl) sp_12345 ?_
  refine wr_iadd (pc := 7) (dget kX5_nextSeed 4 rfl) ?_
  exact wr_iret (pc := 8) rfl (dget kX5_nextSeed 5 rfl) ⟨_, rfl, h⟩
def vX5_draw_10 (post : Hp → Prop) (ex : Hp → Prop) (a0 : Nat) (x2 : Int32) : Nat → Int32 → Int32 → Hp → Prop
  | 0 => fun _ _ _ => False
  | n + 1 => fun x3 x4 σ => ((x2 ≤ x4 → (ex σ)) ∧ (¬ x2 ≤ x4 → (vX5_nextSeed x3 σ (fun r_3 σ_2 => (kd a0 = 5 ∧ (vp_in x4 (iln (rt a0 0)) ∧ ∀ σ_6 : Hp, σ_6 = wI σ_2 (rt a0 0) x4.toNatClampNeg (((r_3).toUInt32 >>> (((16 : Int32)).toUInt32 &&& Int32.toUInt32 31)).toInt32 - ((r_3).toUInt32 >>> (((16 : Int32)).toUInt32 &&& Int32.toUInt32 31)).toInt32 / (24 : Int32) * (24 : Int32)) → (vX5_nextSeed r_3 σ_6 (fun r_8 σ_7 => (vp_in x4 (iln (rt a0 1)) ∧ ∀ σ_10 : Hp, σ_10 = wI σ_7 (rt a0 1) x4.toNatClampNeg (((r_8).toUInt32 >>> (((16 : Int32)).toUInt32 &&& Int32.toUInt32 31)).toInt32 - ((r_8).toUInt32 >>> (((16 : Int32)).toUInt32 &&& Int32.toUInt32 31)).toInt32 / (3 : Int32) * (3 : Int32)) → (vX5_nextSeed r_8 σ_10 (fun r_12 σ_11 => (vp_in x4 (iln (rt a0 2)) ∧ ∀ σ_14 : Hp, σ_14 = wI σ_11 (rt a0 2) x4.toNatClampNeg (((r_12).toUInt32 >>> (((16 : Int32)).toUInt32 &&& Int32.toUInt32 31)).toInt32 - ((r_12).toUInt32 >>> (((16 : Int32)).toUInt32 &&& Int32.toUInt32 31)).toInt32 / (6 : Int32) * (6 : Int32)) → (∀ x4_15 : Int32, x4_15 = x4 + (1 : Int32) → vX5_draw_10 post ex a0 x2 n r_12 x4_15 σ_14)))))))))))))
set_option maxHeartbeats 4000000 in
set_option maxRecDepth 100000 in
theorem tX5_draw_10 {G : GT} {post : Hp → Prop} {ex : Hp → Prop} {a0 : Nat} {x2 : Int32} (hex : ∀  (τ : Hp), ex  τ → WP G mX5_draw 78 [] [] τ (LV post)) : ∀ (n : Nat) (x3 : Int32) (x4 : Int32) (σ : Hp), vX5_draw_10 post ex a0 x2 n x3 x4 σ → WP G mX5_draw 10 [(0, .ref (G.1 a0)), (2, .int x2), (3, .int x3), (4, .int x4)] [] σ (LV post) := by
  intro n
  induction n with
  | zero => intro x3 x4 σ h; exact False.elim h
  | succ n ih =>
    intro x3 x4 σ h
    simp only [vX5_draw_10] at h
    refine wr_iload (pc := 10) (dget kX5_draw 7 rfl) 3 rfl ?_
    refine wr_iload_n (pc := 12) (dget kX5_draw 8 rfl) 1 rfl ?_
    refine wr_icmp_ge (pc := 13) (tgt := 78) (dget kX5_draw 9 rfl) (by decide) (fun c_1 => ?_) (fun c_1 => ?_)
    · have h := h.1 c_1
      refine wr_sub [] rfl ?_
      exact hex  _ h
    · have h := h.2 c_1
      refine wr_iload_n (pc := 16) (dget kX5_draw 10 rfl) 2 rfl ?_
      refine wr_callSi (pc := 17) (Mc := mX5_nextSeed) (rest := []) cf_X5_40 cs_X5_nextSeed ⟨Nat.le_of_ble_eq_true rfl, Nat.le_of_ble_eq_true rfl⟩ rfl rfl (Nat.le_of_ble_eq_true rfl) (dget kX5_draw 11 rfl) (tX5_nextSeed h) (fun r_3 σ_2 h => ?_)
      refine wr_istore_n (pc := 20) (lv' := [(3, .int r_3), (0, .ref (G.1 a0)), (2, .int x2), (4, .int x4)]) (dget kX5_draw 12 rfl) (by decide) rfl ?_
      refine wr_aload_n (pc := 21) (dget kX5_draw 13 rfl) 1 rfl ?_
      obtain ⟨q_4, h⟩ := h
      refine wr_getR (pc := 22) fl_X5_9 q_4 fk_5_0 (dget kX5_draw 14 rfl) ?_
      refine wr_iload (pc := 25) (dget kX5_draw 15 rfl) 3 rfl ?_
      refine wr_iload_n (pc := 27) (dget kX5_draw 16 rfl) 0 rfl ?_
      refine wr_bipush (pc := 28) (dget kX5_draw 17 rfl) bp_16 ?_
      refine wr_iushr (pc := 30) (dget kX5_draw 18 rfl) rfl ?_
      refine wr_bipush (pc := 31) (dget kX5_draw 19 rfl) bp_24 ?_
      refine wr_irem (pc := 33) (dget kX5_draw 20 rfl) (by decide) ?_
      obtain ⟨q_5, h⟩ := h
      refine wr_iastl (pc := 34) rfl q_5 (dget kX5_draw 21 rfl) ?_
      refine wr_tops (fun σ_6 e_σ_6 => ?_)
      have h := h σ_6 e_σ_6
      refine wr_iload_n (pc := 35) (dget kX5_draw 22 rfl) 0 rfl ?_
      refine wr_callSi (pc := 36) (Mc := mX5_nextSeed) (rest := []) cf_X5_40 cs_X5_nextSeed ⟨Nat.le_of_ble_eq_true rfl, Nat.le_of_ble_eq_true rfl⟩ rfl rfl (Nat.le_of_ble_eq_true rfl) (dget kX5_draw 23 rfl) (tX5_nextSeed h) (fun r_8 σ_7 h => ?_)
      refine wr_istore_n (pc := 39) (lv' := [(3, .int r_8), (0, .ref (G.1 a0)), (2, .int x2), (4, .int x4)]) (dget kX5_draw 24 rfl) (by decide) rfl ?_
      refine wr_aload_n (pc := 40) (dget kX5_draw 25 rfl) 1 rfl ?_
      refine wr_getR (pc := 41) fl_X5_15 q_4 fk_5_1 (dget kX5_draw 26 rfl) ?_
      refine wr_iload (pc := 44) (dget kX5_draw 27 rfl) 3 rfl ?_
      refine wr_iload_n (pc := 46) (dget kX5_draw 28 rfl) 0 rfl ?_
      refine wr_bipush (pc := 47) (dget kX5_draw 29 rfl) bp_16 ?_
      refine wr_iushr (pc := 49) (dget kX5_draw 30 rfl) rfl ?_
      refine wr_iconst (pc := 50) (dget kX5_draw 31 rfl) ic_3 ?_
      refine wr_irem (pc := 51) (dget kX5_draw 32 rfl) (by decide) ?_
      obtain ⟨q_9, h⟩ := h
      refine wr_iastl (pc := 52) rfl q_9 (dget kX5_draw 33 rfl) ?_
      refine wr_tops (fun σ_10 e_σ_10 => ?_)
      have h := h σ_10 e_σ_10
      refine wr_iload_n (pc := 53) (dget kX5_draw 34 rfl) 0 rfl ?_
      refine wr_callSi (pc := 54) (Mc := mX5_nextSeed) (rest := []) cf_X5_40 cs_X5_nextSeed ⟨Nat.le_of_ble_eq_true rfl, Nat.le_of_ble_eq_true rfl⟩ rfl rfl (Nat.le_of_ble_eq_true rfl) (dget kX5_draw 35 rfl) (tX5_nextSeed h) (fun r_12 σ_11 h => ?_)
      refine wr_istore_n (pc := 57) (lv' := [(3, .int r_12), (0, .ref (G.1 a0)), (2, .int x2), (4, .int x4)]) (dget kX5_draw 36 rfl) (by decide) rfl ?_
      refine wr_aload_n (pc := 58) (dget kX5_draw 37 rfl) 1 rfl ?_
      refine wr_getR (pc := 59) fl_X5_18 q_4 fk_5_2 (dget kX5_draw 38 rfl) ?_
      refine wr_iload (pc := 62) (dget kX5_draw 39 rfl) 3 rfl ?_
      refine wr_iload_n (pc := 64) (dget kX5_draw 40 rfl) 0 rfl ?_
      refine wr_bipush (pc := 65) (dget kX5_draw 41 rfl) bp_16 ?_
      refine wr_iushr (pc := 67) (dget kX5_draw 42 rfl) rfl ?_
      refine wr_bipush (pc := 68) (dget kX5_draw 43 rfl) bp_6 ?_
      refine wr_irem (pc := 70) (dget kX5_draw 44 rfl) (by decide) ?_
      obtain ⟨q_13, h⟩ := h
      refine wr_iastl (pc := 71) rfl q_13 (dget kX5_draw 45 rfl) ?_
      refine wr_tops (fun σ_14 e_σ_14 => ?_)
      have h := h σ_14 e_σ_14
      obtain ⟨x4_15, e_x4_15⟩ : ∃ y : Int32, y = x4 + (1 : Int32) := ⟨_, rfl⟩
      have h := h x4_15 e_x4_15
      refine wr_iinc (pc := 72) (v := x4_15) (lv' := [(4, .int x4_15), (3, .int r_12), (0, .ref (G.1 a0)), (2, .int x2)]) (dget kX5_draw 46 rfl) 3 rfl (by rw [e_x4_15, ic_1]) (by decide) rfl ?_
      refine wr_goto (pc := 75) (tgt := 10) (dget kX5_draw 47 rfl) (by decide) ?_
      refine wr_sub [2, 3, 1, 0] rfl ?_
      exact ih _ _ _ h
def vX5_draw (o : Nat) (p1 : Int32) (p2 : Int32) (σ : Hp) (post : Hp → Prop) : Prop := (kd o = 5 ∧ (∀ σ_2 : Hp, σ_2 = wI σ o 3 p2 → (∃ fu : Nat, vX5_draw_10 post (fun σ_3 => post σ_3) o p2 fu p1 (0 : Int32) σ_2)))
set_option maxHeartbeats 4000000 in
set_option maxRecDepth 100000 in
theorem tX5_draw {G : GT} {o : Nat} {p1 : Int32} {p2 : Int32} {σ : Hp} {post : Hp → Prop} (h : vX5_draw o p1 p2 σ post) : CT G mX5_draw [.ref (G.1 o), .int p1, .int p2] σ (LV post) := by
  refine CT.of (by decide +kernel) (Nat.le_of_ble_eq_true rfl) ?_
  show WP G mX5_draw 0 [(0, .ref (G.1 o)), (1, .int p1), (2, .int p2)] [] σ (LV post)
  unfold vX5_draw at h
  refine wr_aload_n (pc := 0) (dget kX5_draw 0 rfl) 0 rfl ?_
  refine wr_iload_n (pc := 1) (dget kX5_draw 1 rfl) 2 rfl ?_
  obtain ⟨q_1, h⟩ := h
  refine wr_putI (pc := 2) fl_X5_27 q_1 fk_5_3 (vp_nar_int _) rfl (dget kX5_draw 2 rfl) ?_
  refine wr_tops (fun σ_2 e_σ_2 => ?_)
  have h := h σ_2 e_σ_2
  refine wr_iload_n (pc := 5) (dget kX5_draw 3 rfl) 1 rfl ?_
  refine wr_istore_n (pc := 6) (lv' := [(3, .int p1), (0, .ref (G.1 o)), (1, .int p1), (2, .int p2)]) (dget kX5_draw 4 rfl) (by decide) rfl ?_
  refine wr_iconst (pc := 7) (dget kX5_draw 5 rfl) ic_0 ?_
  refine wr_istore (pc := 8) (lv' := [(4, .int (0 : Int32)), (3, .int p1), (0, .ref (G.1 o)), (1, .int p1), (2, .int p2)]) (dget kX5_draw 6 rfl) (by decide) rfl ?_
  obtain ⟨fu, h⟩ := h
  refine wr_sub [2, 4, 1, 0] rfl ?_
  refine tX5_draw_10 (fun σ_3 h => ?_) fu _ _ _ h
  exact wr_vret (pc := 78) rfl (dget kX5_draw 48 rfl) ⟨rfl, h⟩
