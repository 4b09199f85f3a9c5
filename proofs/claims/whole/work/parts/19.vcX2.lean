def vX2_takeFrom (o : Nat) (a1 : Nat) (σ : Hp) (post : Hp → Prop) : Prop := (kd o = 2 ∧ (kd a1 = 2 ∧ (kd (rt o 1) = 5 ∧ (vX5_takeFrom (rt o 1) (rt a1 1) σ (fun σ_4 => (kd (rt a1 2) = 10 ∧ (kd (rt o 2) = 10 ∧ (¬ (0 : Int32) < 0 ∧ ¬ (0 : Int32) < 0 ∧ ¬ (12 : Int32) < 0 ∧ (0 : Int32).toNatClampNeg + (12 : Int32).toNatClampNeg ≤ (iln (rt a1 2)) ∧ (0 : Int32).toNatClampNeg + (12 : Int32).toNatClampNeg ≤ (iln (rt o 2)) ∧ ∀ σ_8 : Hp, σ_8 = wR σ_4 (rt o 2) (va_cpy (σ_4.1 (rt a1 2)) (σ_4.1 (rt o 2)) (0 : Int32).toNatClampNeg (0 : Int32).toNatClampNeg (12 : Int32).toNatClampNeg) → (∀ σ_14 : Hp, σ_14 = wI σ_8 o 3 (σ_8.1 a1 3) → (∀ σ_15 : Hp, σ_15 = wI σ_14 o 4 (σ_14.1 a1 4) → (∀ σ_16 : Hp, σ_16 = wN σ_15 o 5 (σ_15.2.2 a1 5) → post σ_16)))))))))))
set_option maxHeartbeats 4000000 in
set_option maxRecDepth 100000 in
theorem tX2_takeFrom {G : GT} {o : Nat} {a1 : Nat} {σ : Hp} {post : Hp → Prop} (h : vX2_takeFrom o a1 σ post) : CT G mX2_takeFrom [.ref (G.1 o), .ref (G.1 a1)] σ (LV post) := by
  refine CT.of (by decide +kernel) (Nat.le_of_ble_eq_true rfl) ?_
  show WP G mX2_takeFrom 0 [(0, .ref (G.1 o)), (1, .ref (G.1 a1))] [] σ (LV post)
  unfold vX2_takeFrom at h
  refine wr_aload_n (pc := 0) (dget kX2_takeFrom 0 rfl) 0 rfl ?_
  obtain ⟨q_1, h⟩ := h
  refine wr_getR (pc := 1) fl_X2_12 q_1 fk_2_1 (dget kX2_takeFrom 1 rfl) ?_
  refine wr_aload_n (pc := 4) (dget kX2_takeFrom 2 rfl) 1 rfl ?_
  obtain ⟨q_2, h⟩ := h
  refine wr_getR (pc := 5) fl_X2_12 q_2 fk_2_1 (dget kX2_takeFrom 3 rfl) ?_
  obtain ⟨q_3, h⟩ := h
  refine wr_callVv (pc := 8) (Mc := mX5_takeFrom) (o := (rt o 1)) (rest := []) cf_X2_56 cv_X5_takeFrom q_3 rfl ⟨Nat.le_of_ble_eq_true rfl, Nat.le_of_ble_eq_true rfl⟩ rfl rfl (Nat.le_of_ble_eq_true rfl) (dget kX2_takeFrom 4 rfl) (tX5_takeFrom h) (fun σ_4 h => ?_)
  refine wr_aload_n (pc := 11) (dget kX2_takeFrom 5 rfl) 1 rfl ?_
  refine wr_getR (pc := 12) fl_X2_18 q_2 fk_2_2 (dget kX2_takeFrom 6 rfl) ?_
  refine wr_iconst (pc := 15) (dget kX2_takeFrom 7 rfl) ic_0 ?_
  refine wr_aload_n (pc := 16) (dget kX2_takeFrom 8 rfl) 0 rfl ?_
  refine wr_getR (pc := 17) fl_X2_18 q_1 fk_2_2 (dget kX2_takeFrom 9 rfl) ?_
  refine wr_iconst (pc := 20) (dget kX2_takeFrom 10 rfl) ic_0 ?_
  refine wr_bipush (pc := 21) (dget kX2_takeFrom 11 rfl) bp_12 ?_
  obtain ⟨q_6, h⟩ := h
  obtain ⟨q_7, h⟩ := h
  obtain ⟨q_9, q_10, q_11, q_12, q_13, h⟩ := h
  refine wr_copy (pc := 23) (σ := σ_4) ml_X2_60 q_6 q_7 q_9 q_10 q_11 q_12 q_13 (by decide) (by decide) (dget kX2_takeFrom 12 rfl) ?_
  refine wr_tops (fun σ_8 e_σ_8 => ?_)
  have h := h σ_8 e_σ_8
  refine wr_aload_n (pc := 26) (dget kX2_takeFrom 13 rfl) 0 rfl ?_
  refine wr_aload_n (pc := 27) (dget kX2_takeFrom 14 rfl) 1 rfl ?_
  refine wr_getI (pc := 28) (σ := σ_8) fl_X2_22 q_2 fk_2_3 (dget kX2_takeFrom 15 rfl) ?_
  refine wr_putI (pc := 31) fl_X2_22 q_1 fk_2_3 (vp_nar_int _) rfl (dget kX2_takeFrom 16 rfl) ?_
  refine wr_tops (fun σ_14 e_σ_14 => ?_)
  have h := h σ_14 e_σ_14
  refine wr_aload_n (pc := 34) (dget kX2_takeFrom 17 rfl) 0 rfl ?_
  refine wr_aload_n (pc := 35) (dget kX2_takeFrom 18 rfl) 1 rfl ?_
  refine wr_getI (pc := 36) (σ := σ_14) fl_X2_26 q_2 fk_2_4 (dget kX2_takeFrom 19 rfl) ?_
  refine wr_putI (pc := 39) fl_X2_26 q_1 fk_2_4 (vp_nar_int _) rfl (dget kX2_takeFrom 20 rfl) ?_
  refine wr_tops (fun σ_15 e_σ_15 => ?_)
  have h := h σ_15 e_σ_15
  refine wr_aload_n (pc := 42) (dget kX2_takeFrom 21 rfl) 0 rfl ?_
  refine wr_aload_n (pc := 43) (dget kX2_takeFrom 22 rfl) 1 rfl ?_
  refine wr_getN (pc := 44) (σ := σ_15) fl_X2_52 q_2 fk_2_5 (dget kX2_takeFrom 23 rfl) ?_
  refine wr_putN (pc := 47) fl_X2_52 q_1 fk_2_5 rfl rfl (dget kX2_takeFrom 24 rfl) ?_
  refine wr_tops (fun σ_16 e_σ_16 => ?_)
  have h := h σ_16 e_σ_16
  exact wr_vret (pc := 50) rfl (dget kX2_takeFrom 25 rfl) ⟨rfl, h⟩
def vX2_comingTick (o : Nat) (p1 : Int32) (σ : Hp) (post : Int32 → Hp → Prop) : Prop := (kd o = 2 ∧ (kd (rt o 1) = 5 ∧ (vp_in p1 (iln (rt (rt o 1) 0)) ∧ (∀ x2_4 : Int32, x2_4 = ((σ.1 (rt (rt o 1) 0) p1.toNatClampNeg) + (σ.1 o 4)) → (((24 : Int32) ≤ x2_4 → post (-1 : Int32) σ) ∧ (¬ (24 : Int32) ≤ x2_4 → post x2_4 σ))))))
set_option maxHeartbeats 4000000 in
set_option maxRecDepth 100000 in
theorem tX2_comingTick {G : GT} {o : Nat} {p1 : Int32} {σ : Hp} {post : Int32 → Hp → Prop} (h : vX2_comingTick o p1 σ post) : CT G mX2_comingTick [.ref (G.1 o), .int p1] σ (LI post) := by
  refine CT.of (by decide +kernel) (Nat.le_of_ble_eq_true rfl) ?_
  show WP G mX2_comingTick 0 [(0, .ref (G.1 o)), (1, .int p1)] [] σ (LI post)
  unfold vX2_comingTick at h
  refine wr_aload_n (pc := 0) (dget kX2_comingTick 0 rfl) 0 rfl ?_
  obtain ⟨q_1, h⟩ := h
  refine wr_getR (pc := 1) fl_X2_12 q_1 fk_2_1 (dget kX2_comingTick 1 rfl) ?_
  obtain ⟨q_2, h⟩ := h
  refine wr_getR (pc := 4) fl_X2_66 q_2 fk_5_0 (dget kX2_comingTick 2 rfl) ?_
  refine wr_iload_n (pc := 7) (dget kX2_comingTick 3 rfl) 1 rfl ?_
  obtain ⟨q_3, h⟩ := h
  refine wr_ialdl (pc := 8) (σ := σ) rfl q_3 (dget kX2_comingTick 4 rfl) ?_
  refine wr_aload_n (pc := 9) (dget kX2_comingTick 5 rfl) 0 rfl ?_
  refine wr_getI (pc := 10) (σ := σ) fl_X2_26 q_1 fk_2_4 (dget kX2_comingTick 6 rfl) ?_
  refine wr_iadd (pc := 13) (dget kX2_comingTick 7 rfl) ?_
  refine wr_topi (fun x2_4 e_x2_4 => ?_)
  have h := h x2_4 e_x2_4
  refine wr_istore_n (pc := 14) (lv' := [(2, .int x2_4), (0, .ref (G.1 o)), (1, .int p1)]) (dget kX2_comingTick 8 rfl) (by decide) rfl ?_
  refine wr_iload_n (pc := 15) (dget kX2_comingTick 9 rfl) 0 rfl ?_
  refine wr_bipush (pc := 16) (dget kX2_comingTick 10 rfl) bp_24 ?_
  refine wr_icmp_ge (pc := 18) (tgt := 25) (dget kX2_comingTick 11 rfl) (by decide) (fun c_5 => ?_) (fun c_5 => ?_)
  · have h := h.1 c_5
    refine wr_iconst (pc := 25) (dget kX2_comingTick 14 rfl) ic_m1 ?_
    exact wr_iret (pc := 26) rfl (dget kX2_comingTick 15 rfl) ⟨_, rfl, h⟩
  · have h := h.2 c_5
    refine wr_iload_n (pc := 21) (dget kX2_comingTick 12 rfl) 0 rfl ?_
    refine wr_goto (pc := 22) (tgt := 26) (dget kX2_comingTick 13 rfl) (by decide) ?_
    exact wr_iret (pc := 26) rfl (dget kX2_comingTick 15 rfl) ⟨_, rfl, h⟩
def vX2_conditionBehind (o : Nat) (p1 : Int32) (p2 : Int32) (σ : Hp) (post : Int32 → Hp → Prop) : Prop := (kd o = 2 ∧ (vp_in p1 (iln (rt o 6)) ∧ (vX8_isSet (σ.1 (rt o 6) p1.toNatClampNeg) p2 σ (fun r_4 σ_3 => ((r_4 = 0 → (vp_in p1 (iln (rt o 7)) ∧ (vX8_isSet (σ_3.1 (rt o 7) p1.toNatClampNeg) p2 σ_3 (fun r_8 σ_7 => ((r_8 = 0 → post (0 : Int32) σ_7) ∧ (¬ r_8 = 0 → post (1 : Int32) σ_7)))))) ∧ (¬ r_4 = 0 → post (2 : Int32) σ_3))))))
set_option maxHeartbeats 4000000 in
set_option maxRecDepth 100000 in
theorem tX2_conditionBehind {G : GT} {o : Nat} {p1 : Int32} {p2 : Int32} {σ : Hp} {post : Int32 → Hp → Prop} (h : vX2_conditionBehind o p1 p2 σ post) : CT G mX2_conditionBehind [.ref (G.1 o), .int p1, .int p2] σ (LI post) := by
  refine CT.of (by decide +kernel) (Nat.le_of_ble_eq_true rfl) ?_
  show WP G mX2_conditionBehind 0 [(0, .ref (G.1 o)), (1, .int p1), (2, .int p2)] [] σ (LI post)
  unfold vX2_conditionBehind at h
  refine wr_aload_n (pc := 0) (dget kX2_conditionBehind 0 rfl) 0 rfl ?_
  obtain ⟨q_1, h⟩ := h
  refine wr_getR (pc := 1) fl_X2_29 q_1 fk_2_6 (dget kX2_conditionBehind 1 rfl) ?_
  refine wr_iload_n (pc := 4) (dget kX2_conditionBehind 2 rfl) 1 rfl ?_
  obtain ⟨q_2, h⟩ := h
  refine wr_ialdl (pc := 5) (σ := σ) rfl q_2 (dget kX2_conditionBehind 3 rfl) ?_
  refine wr_iload_n (pc := 6) (dget kX2_conditionBehind 4 rfl) 2 rfl ?_
  refine wr_callSi (pc := 7) (Mc := mX8_isSet) (rest := []) cf_X2_69 cs_X8_isSet ⟨Nat.le_of_ble_eq_true rfl, Nat.le_of_ble_eq_true rfl⟩ rfl rfl (Nat.le_of_ble_eq_true rfl) (dget kX2_conditionBehind 5 rfl) (tX8_isSet h) (fun r_4 σ_3 h => ?_)
  refine wr_if_eq (pc := 10) (tgt := 15) (dget kX2_conditionBehind 6 rfl) (by decide) (fun c_5 => ?_) (fun c_5 => ?_)
  · have h := h.1 c_5
    refine wr_aload_n (pc := 15) (dget kX2_conditionBehind 9 rfl) 0 rfl ?_
    refine wr_getR (pc := 16) fl_X2_32 q_1 fk_2_7 (dget kX2_conditionBehind 10 rfl) ?_
    refine wr_iload_n (pc := 19) (dget kX2_conditionBehind 11 rfl) 1 rfl ?_
    obtain ⟨q_6, h⟩ := h
    refine wr_ialdl (pc := 20) (σ := σ_3) rfl q_6 (dget kX2_conditionBehind 12 rfl) ?_
    refine wr_iload_n (pc := 21) (dget kX2_conditionBehind 13 rfl) 2 rfl ?_
    refine wr_callSi (pc := 22) (Mc := mX8_isSet) (rest := []) cf_X2_69 cs_X8_isSet ⟨Nat.le_of_ble_eq_true rfl, Nat.le_of_ble_eq_true rfl⟩ rfl rfl (Nat.le_of_ble_eq_true rfl) (dget kX2_conditionBehind 14 rfl) (tX8_isSet h) (fun r_8 σ_7 h => ?_)
    refine wr_if_eq (pc := 25) (tgt := 32) (dget kX2_conditionBehind 15 rfl) (by decide) (fun c_9 => ?_) (fun c_9 => ?_)
    · have h := h.1 c_9
      refine wr_iconst (pc := 32) (dget kX2_conditionBehind 18 rfl) ic_0 ?_
      exact wr_iret (pc := 33) rfl (dget kX2_conditionBehind 19 rfl) ⟨_, rfl, h⟩
    · have h := h.2 c_9
      refine wr_iconst (pc := 28) (dget kX2_conditionBehind 16 rfl) ic_1 ?_
      refine wr_goto (pc := 29) (tgt := 33) (dget kX2_conditionBehind 17 rfl) (by decide) ?_
      exact wr_iret (pc := 33) rfl (dget kX2_conditionBehind 19 rfl) ⟨_, rfl, h⟩
  · have h := h.2 c_5
    refine wr_iconst (pc := 13) (dget kX2_conditionBehind 7 rfl) ic_2 ?_
    exact wr_iret (pc := 14) rfl (dget kX2_conditionBehind 8 rfl) ⟨_, rfl, h⟩
def vX2_hitsBehind (o : Nat) (p1 : Int32) (p2 : Int32) (σ : Hp) (post : Int32 → Hp → Prop) : Prop := (kd o = 2 ∧ (vp_in p1 (lln (rt o 8)) ∧ post ((((σ.2.1 (rt o 8) p1.toNatClampNeg) >>> ((((4 : Int32) * p2)).toInt64 &&& 63)) &&& (15 : Int64))).toInt32 σ))
set_option maxHeartbeats 4000000 in
set_option maxRecDepth 100000 in
theorem tX2_hitsBehind {G : GT} {o : Nat} {p1 : Int32} {p2 : Int32} {σ : Hp} {post : Int32 → Hp → Prop} (h : vX2_hitsBehind o p1 p2 σ post) : CT G mX2_hitsBehind [.ref (G.1 o), .int p1, .int p2] σ (LI post) := by
  refine CT.of (by decide +kernel) (Nat.le_of_ble_eq_true rfl) ?_
  show WP G mX2_hitsBehind 0 [(0, .ref (G.1 o)), (1, .int p1), (2, .int p2)] [] σ (LI post)
  unfold vX2_hitsBehind at h
  refine wr_aload_n (pc := 0) (dget kX2_hitsBehind 0 rfl) 0 rfl ?_
  obtain ⟨q_1, h⟩ := h
  refine wr_getR (pc := 1) fl_X2_35 q_1 fk_2_8 (dget kX2_hitsBehind 1 rfl) ?_
  refine wr_iload_n (pc := 4) (dget kX2_hitsBehind 2 rfl) 1 rfl ?_
  obtain ⟨q_2, h⟩ := h
  refine wr_laldl (pc := 5) (σ := σ) rfl q_2 (dget kX2_hitsBehind 3 rfl) ?_
  refine wr_iconst (pc := 6) (dget kX2_hitsBehind 4 rfl) ic_4 ?_
  refine wr_iload_n (pc := 7) (dget kX2_hitsBehind 5 rfl) 2 rfl ?_
  refine wr_imul (pc := 8) (dget kX2_hitsBehind 6 rfl) ?_
  refine wr_lshr (pc := 9) (dget kX2_hitsBehind 7 rfl) rfl ?_
  refine wr_ldc2 (pc := 10) kl_X2_73 (dget kX2_hitsBehind 8 rfl) ?_
  refine wr_land (pc := 13) (dget kX2_hitsBehind 9 rfl) ?_
  refine wr_l2i (pc := 14) (dget kX2_hitsBehind 10 rfl) rfl ?_
  exact wr_iret (pc := 15) rfl (dget kX2_hitsBehind 11 rfl) ⟨_, rfl, h⟩
def vX2_tellDuckBehind (o : Nat) (p1 : Int32) (p2 : Int32) (p3 : Int32) (σ : Hp) (post : Int32 → Hp → Prop) : Prop := ((p3 = (0 : Int32) → (kd o = 2 ∧ (kd (σ.2.2 o 5) = 0 ∧ (vX0_placeBehind (σ.2.2 o 5) p1 p2 σ (fun r_5 σ_4 => post r_5 σ_4))))) ∧ (¬ p3 = (0 : Int32) → ((p3 = (1 : Int32) → (kd o = 2 ∧ (vX2_conditionBehind o p1 p2 σ (fun r_9 σ_8 => post r_9 σ_8)))) ∧ (¬ p3 = (1 : Int32) → (kd o = 2 ∧ (vX2_hitsBehind o p1 p2 σ (fun r_12 σ_11 => post r_12 σ_11)))))))
set_option maxHeartbeats 4000000 in
set_option maxRecDepth 100000 in
theorem tX2_tellDuckBehind {G : GT} {o : Nat} {p1 : Int32} {p2 : Int32} {p3 : Int32} {σ : Hp} {post : Int32 → Hp → Prop} (h : vX2_tellDuckBehind o p1 p2 p3 σ post) : CT G mX2_tellDuckBehind [.ref (G.1 o), .int p1, .int p2, .int p3] σ (LI post) := by
  refine CT.of (by decide +kernel) (Nat.le_of_ble_eq_true rfl) ?_
  show WP G mX2_tellDuckBehind 0 [(0, .ref (G.1 o)), (1, .int p1), (2, .int p2), (3, .int p3)] [] σ (LI post)
  unfold vX2_tellDuckBehind at h
  refine wr_iload_n (pc := 0) (dget kX2_tellDuckBehind 0 rfl) 3 rfl ?_
  rcases Decidable.em (p3 = (0 : Int32)) with c_1 | c_1
  · have h := h.1 c_1
    refine wr_look (pc := 1) (tgt := 28) (off := 27) (dget kX2_tellDuckBehind 1 rfl) (by decide) (by rw [c_1]; rfl) (by decide) ?_
    refine wr_aload_n (pc := 28) (dget kX2_tellDuckBehind 2 rfl) 0 rfl ?_
    obtain ⟨q_2, h⟩ := h
    refine wr_getN (pc := 29) (σ := σ) fl_X2_52 q_2 fk_2_5 (dget kX2_tellDuckBehind 3 rfl) ?_
    refine wr_iload_n (pc := 32) (dget kX2_tellDuckBehind 4 rfl) 1 rfl ?_
    refine wr_iload_n (pc := 33) (dget kX2_tellDuckBehind 5 rfl) 2 rfl ?_
    obtain ⟨q_3, h⟩ := h
    refine wr_callVi (pc := 34) (Mc := mX0_placeBehind) (o := (σ.2.2 o 5)) (rest := []) cf_X2_75 cv_X0_placeBehind q_3 rfl ⟨Nat.le_of_ble_eq_true rfl, Nat.le_of_ble_eq_true rfl⟩ rfl rfl (Nat.le_of_ble_eq_true rfl) (dget kX2_tellDuckBehind 6 rfl) (tX0_placeBehind h) (fun r_5 σ_4 h => ?_)
    exact wr_iret (pc := 37) rfl (dget kX2_tellDuckBehind 7 rfl) ⟨_, rfl, h⟩
  · have h := h.2 c_1
    rcases Decidable.em (p3 = (1 : Int32)) with c_6 | c_6
    · have h := h.1 c_6
      refine wr_look (pc := 1) (tgt := 38) (off := 37) (dget kX2_tellDuckBehind 1 rfl) (by decide) (by rw [c_6]; rfl) (by decide) ?_
      refine wr_aload_n (pc := 38) (dget kX2_tellDuckBehind 8 rfl) 0 rfl ?_
      refine wr_iload_n (pc := 39) (dget kX2_tellDuckBehind 9 rfl) 1 rfl ?_
      refine wr_iload_n (pc := 40) (dget kX2_tellDuckBehind 10 rfl) 2 rfl ?_
      obtain ⟨q_7, h⟩ := h
      refine wr_callVi (pc := 41) (Mc := mX2_conditionBehind) (o := o) (rest := []) cf_X2_81 cv_X2_conditionBehind q_7 rfl ⟨Nat.le_of_ble_eq_true rfl, Nat.le_of_ble_eq_true rfl⟩ rfl rfl (Nat.le_of_ble_eq_true rfl) (dget kX2_tellDuckBehind 11 rfl) (tX2_conditionBehind h) (fun r_9 σ_8 h => ?_)
      exact wr_iret (pc := 44) rfl (dget kX2_tellDuckBehind 12 rfl) ⟨_, rfl, h⟩
    · have h := h.2 c_6
      refine wr_look (pc := 1) (tgt := 45) (off := 44) (dget kX2_tellDuckBehind 1 rfl) (by decide) (by rw [lv_osw c_1 (by decide)]; rw [lv_osw c_6 (by decide)]; rfl) (by decide) ?_
      refine wr_aload_n (pc := 45) (dget kX2_tellDuckBehind 13 rfl) 0 rfl ?_
      refine wr_iload_n (pc := 46) (dget kX2_tellDuckBehind 14 rfl) 1 rfl ?_
      refine wr_iload_n (pc := 47) (dget kX2_tellDuckBehind 15 rfl) 2 rfl ?_
      obtain ⟨q_10, h⟩ := h
      refine wr_callVi (pc := 48) (Mc := mX2_hitsBehind) (o := o) (rest := []) cf_X2_84 cv_X2_hitsBehind q_10 rfl ⟨Nat.le_of_ble_eq_true rfl, Nat.le_of_ble_eq_true rfl⟩ rfl rfl (Nat.le_of_ble_eq_true rfl) (dget kX2_tellDuckBehind 16 rfl) (tX2_hitsBehind h) (fun r_12 σ_11 h => ?_)
      exact wr_iret (pc := 51) rfl (dget kX2_tellDuckBehind 17 rfl) ⟨_, rfl, h⟩
def vX2_tellOutcome (o : Nat) (p1 : Int32) (p2 : Int32) (σ : Hp) (post : Int32 → Hp → Prop) : Prop := ((p2 = (0 : Int32) → (kd o = 2 ∧ (vX2_comingTick o p1 σ (fun r_4 σ_3 => post r_4 σ_3)))) ∧ (¬ p2 = (0 : Int32) → ((p2 = (1 : Int32) → (kd o = 2 ∧ (vp_in p1 (iln (rt o 9)) ∧ post (σ.1 (rt o 9) p1.toNatClampNeg) σ))) ∧ (¬ p2 = (1 : Int32) → (kd o = 2 ∧ (vp_in p1 (iln (rt o 10)) ∧ post (σ.1 (rt o 10) p1.toNatClampNeg) σ))))))
set_option maxHeartbeats 4000000 in
set_option maxRecDepth 100000 in
theorem tX2_tellOutcome {G : GT} {o : Nat} {p1 : Int32} {p2 : Int32} {σ : Hp} {post : Int32 → Hp → Prop} (h : vX2_tellOutcome o p1 p2 σ post) : CT G mX2_tellOutcome [.ref (G.1 o), .int p1, .int p2] σ (LI post) := by
  refine CT.of (by decide +kernel) (Nat.le_of_ble_eq_true rfl) ?_
  show WP G mX2_tellOutcome 0 [(0, .ref (G.1 o)), (1, .int p1), (2, .int p2)] [] σ (LI post)
  unfold vX2_tellOutcome at h
  refine wr_iload_n (pc := 0) (dget kX2_tellOutcome 0 rfl) 2 rfl ?_
  rcases Decidable.em (p2 = (0 : Int32)) with c_1 | c_1
  · have h := h.1 c_1
    refine wr_look (pc := 1) (tgt := 28) (off := 27) (dget kX2_tellOutcome 1 rfl) (by decide) (by rw [c_1]; rfl) (by decide) ?_
    refine wr_aload_n (pc := 28) (dget kX2_tellOutcome 2 rfl) 0 rfl ?_
    refine wr_iload_n (pc := 29) (dget kX2_tellOutcome 3 rfl) 1 rfl ?_
    obtain ⟨q_2, h⟩ := h
    refine wr_callVi (pc := 30) (Mc := mX2_comingTick) (o := o) (rest := []) cf_X2_87 cv_X2_comingTick q_2 rfl ⟨Nat.le_of_ble_eq_true rfl, Nat.le_of_ble_eq_true rfl⟩ rfl rfl (Nat.le_of_ble_eq_true rfl) (dget kX2_tellOutcome 4 rfl) (tX2_comingTick h) (fun r_4 σ_3 h => ?_)
    exact wr_iret (pc := 33) rfl (dget kX2_tellOutcome 5 rfl) ⟨_, rfl, h⟩
  · have h := h.2 c_1
    rcases Decidable.em (p2 = (1 : Int32)) with c_5 | c_5
    · have h := h.1 c_5
      refine wr_look (pc := 1) (tgt := 34) (off := 33) (dget kX2_tellOutcome 1 rfl) (by decide) (by rw [c_5]; rfl) (by decide) ?_
      refine wr_aload_n (pc := 34) (dget kX2_tellOutcome 6 rfl) 0 rfl ?_
      obtain ⟨q_6, h⟩ := h
      refine wr_getR (pc := 35) fl_X2_39 q_6 fk_2_9 (dget kX2_tellOutcome 7 rfl) ?_
      refine wr_iload_n (pc := 38) (dget kX2_tellOutcome 8 rfl) 1 rfl ?_
      obtain ⟨q_7, h⟩ := h
      refine wr_ialdl (pc := 39) (σ := σ) rfl q_7 (dget kX2_tellOutcome 9 rfl) ?_
      exact wr_iret (pc := 40) rfl (dget kX2_tellOutcome 10 rfl) ⟨_, rfl, h⟩
    · have h := h.2 c_5
      refine wr_look (pc := 1) (tgt := 41) (off := 40) (dget kX2_tellOutcome 1 rfl) (by decide) (by rw [lv_osw c_1 (by decide)]; rw [lv_osw c_5 (by decide)]; rfl) (by decide) ?_
      refine wr_aload_n (pc := 41) (dget kX2_tellOutcome 11 rfl) 0 rfl ?_
      obtain ⟨q_8, h⟩ := h
      refine wr_getR (pc := 42) fl_X2_42 q_8 fk_2_10 (dget kX2_tellOutcome 12 rfl) ?_
      refine wr_iload_n (pc := 45) (dget kX2_tellOutcome 13 rfl) 1 rfl ?_
      obtain ⟨q_9, h⟩ := h
      refine wr_ialdl (pc := 46) (σ := σ) rfl q_9 (dget kX2_tellOutcome 14 rfl) ?_
      exact wr_iret (pc := 47) rfl (dget kX2_tellOutcome 15 rfl) ⟨_, rfl, h⟩
def vX2_tellSum (o : Nat) (p1 : Int32) (σ : Hp) (post : Int32 → Hp → Prop) : Prop := (kd o = 2 ∧ (vJ6_bitCount_0f7a4 (σ.1 o 12) σ (fun r_3 σ_2 => ((p1 = (0 : Int32) → post (σ_2.1 o 11) σ_2) ∧ (¬ p1 = (0 : Int32) → ((p1 = (1 : Int32) → post r_3 σ_2) ∧ (¬ p1 = (1 : Int32) → (kd (rt o 1) = 5 ∧ post ((σ_2.1 (rt o 1) 3) - r_3) σ_2))))))))
set_option maxHeartbeats 4000000 in
set_option maxRecDepth 100000 in
theorem tX2_tellSum {G : GT} {o : Nat} {p1 : Int32} {σ : Hp} {post : Int32 → Hp → Prop} (h : vX2_tellSum o p1 σ post) : CT G mX2_tellSum [.ref (G.1 o), .int p1] σ (LI post) := by
  refine CT.of (by decide +kernel) (Nat.le_of_ble_eq_true rfl) ?_
  show WP G mX2_tellSum 0 [(0, .ref (G.1 o)), (1, .int p1)] [] σ (LI post)
  unfold vX2_tellSum at h
  refine wr_aload_n (pc := 0) (dget kX2_tellSum 0 rfl) 0 rfl ?_
  obtain ⟨q_1, h⟩ := h
  refine wr_getI (pc := 1) (σ := σ) fl_X2_91 q_1 fk_2_12 (dget kX2_tellSum 1 rfl) ?_
  refine wr_callSi (pc := 4) (Mc := mJ6_bitCount_0f7a4) (rest := []) cf_X2_94 cs_J6_bitCount_0f7a4 ⟨Nat.le_of_ble_eq_true rfl, Nat.le_of_ble_eq_true rfl⟩ rfl rfl (Nat.le_of_ble_eq_true rfl) (dget kX2_tellSum 2 rfl) (tJ6_bitCount_0f7a4 h) (fun r_3 σ_2 h => ?_)
  refine wr_istore_n (pc := 7) (lv' := [(2, .int r_3), (0, .ref (G.1 o)), (1, .int p1)]) (dget kX2_tellSum 3 rfl) (by decide) rfl ?_
  refine wr_iload_n (pc := 8) (dget kX2_tellSum 4 rfl) 2 rfl ?_
  rcases Decidable.em (p1 = (0 : Int32)) with c_4 | c_4
  · have h := h.1 c_4
    refine wr_look (pc := 9) (tgt := 36) (off := 27) (dget kX2_tellSum 5 rfl) (by decide) (by rw [c_4]; rfl) (by decide) ?_
    refine wr_aload_n (pc := 36) (dget kX2_tellSum 6 rfl) 1 rfl ?_
    refine wr_getI (pc := 37) (σ := σ_2) fl_X2_99 q_1 fk_2_11 (dget kX2_tellSum 7 rfl) ?_
    exact wr_iret (pc := 40) rfl (dget kX2_tellSum 8 rfl) ⟨_, rfl, h⟩
  · have h := h.2 c_4
    rcases Decidable.em (p1 = (1 : Int32)) with c_5 | c_5
    · have h := h.1 c_5
      refine wr_look (pc := 9) (tgt := 41) (off := 32) (dget kX2_tellSum 5 rfl) (by decide) (by rw [c_5]; rfl) (by decide) ?_
      refine wr_iload_n (pc := 41) (dget kX2_tellSum 9 rfl) 0 rfl ?_
      exact wr_iret (pc := 42) rfl (dget kX2_tellSum 10 rfl) ⟨_, rfl, h⟩
    · have h := h.2 c_5
      refine wr_look (pc := 9) (tgt := 43) (off := 34) (dget kX2_tellSum 5 rfl) (by decide) (by rw [lv_osw c_4 (by decide)]; rw [lv_osw c_5 (by decide)]; rfl) (by decide) ?_
      refine wr_aload_n (pc := 43) (dget kX2_tellSum 11 rfl) 1 rfl ?_
      refine wr_getR (pc := 44) fl_X2_12 q_1 fk_2_1 (dget kX2_tellSum 12 rfl) ?_
      obtain ⟨q_6, h⟩ := h
      refine wr_getI (pc := 47) (σ := σ_2) fl_X2_102 q_6 fk_5_3 (dget kX2_tellSum 13 rfl) ?_
      refine wr_iload_n (pc := 50) (dget kX2_tellSum 14 rfl) 0 rfl ?_
      refine wr_isub (pc := 51) (dget kX2_tellSum 15 rfl) ?_
      exact wr_iret (pc := 52) rfl (dget kX2_tellSum 16 rfl) ⟨_, rfl, h⟩
def vX2_begin_35 (post : Hp → Prop) (ex : Hp → Prop) (a0 : Nat) : Nat → Int32 → Hp → Prop
  | 0 => fun _ _ => False
  | n + 1 => fun x1 σ => (kd a0 = 2 ∧ (kd (rt a0 1) = 5 ∧ (((σ.1 (rt a0 1) 3) ≤ x1 → (ex σ)) ∧ (¬ (σ.1 (rt a0 1) 3) ≤ x1 → (vp_in x1 (iln (rt a0 9)) ∧ ∀ σ_5 : Hp, σ_5 = wI σ (rt a0 9) x1.toNatClampNeg (-1 : Int32) → (vp_in x1 (iln (rt a0 10)) ∧ ∀ σ_7 : Hp, σ_7 = wI σ_5 (rt a0 10) x1.toNatClampNeg (0 : Int32) → (vX2_comingTick a0 x1 σ_7 (fun r_9 σ_8 => ((r_9 = (-1 : Int32) → (∀ x1_11 : Int32, x1_11 = x1 + (1 : Int32) → vX2_begin_35 post ex a0 n x1_11 σ_8)) ∧ (¬ r_9 = (-1 : Int32) → (vp_in r_9 (iln (rt a0 13)) ∧ (vp_in r_9 (iln (rt a0 13)) ∧ ∀ σ_14 : Hp, σ_14 = wI σ_8 (rt a0 13) r_9.toNatClampNeg ((σ_8.1 (rt a0 13) r_9.toNatClampNeg) ||| ((1 : Int32) <<< (x1 &&& 31))) → (∀ x1_15 : Int32, x1_15 = x1 + (1 : Int32) → vX2_begin_35 post ex a0 n x1_15 σ_14)))))))))))))
set_option maxHeartbeats 4000000 in
set_option maxRecDepth 100000 in
theorem tX2_begin_35 {G : GT} {post : Hp → Prop} {ex : Hp → Prop} {a0 : Nat} (hex : ∀  (τ : Hp), ex  τ → WP G mX2_begin 89 [] [] τ (LV post)) : ∀ (n : Nat) (x1 : Int32) (σ : Hp), vX2_begin_35 post ex a0 n x1 σ → WP G mX2_begin 35 [(0, .ref (G.1 a0)), (1, .int x1)] [] σ (LV post) := by
  intro n
  induction n with
  | zero => intro x1 σ h; exact False.elim h
  | succ n ih =>
    intro x1 σ h
    simp only [vX2_begin_35] at h
    refine wr_iload_n (pc := 35) (dget kX2_begin 21 rfl) 1 rfl ?_
    refine wr_aload_n (pc := 36) (dget kX2_begin 22 rfl) 0 rfl ?_
    obtain ⟨q_1, h⟩ := h
    refine wr_getR (pc := 37) fl_X2_12 q_1 fk_2_1 (dget kX2_begin 23 rfl) ?_
    obtain ⟨q_2, h⟩ := h
    refine wr_getI (pc := 40) (σ := σ) fl_X2_102 q_2 fk_5_3 (dget kX2_begin 24 rfl) ?_
    refine wr_icmp_ge (pc := 43) (tgt := 89) (dget kX2_begin 25 rfl) (by decide) (fun c_3 => ?_) (fun c_3 => ?_)
    · have h := h.1 c_3
      refine wr_sub [] rfl ?_
      exact hex  _ h
    · have h := h.2 c_3
      refine wr_aload_n (pc := 46) (dget kX2_begin 26 rfl) 0 rfl ?_
      refine wr_getR (pc := 47) fl_X2_39 q_1 fk_2_9 (dget kX2_begin 27 rfl) ?_
      refine wr_iload_n (pc := 50) (dget kX2_begin 28 rfl) 1 rfl ?_
      refine wr_iconst (pc := 51) (dget kX2_begin 29 rfl) ic_m1 ?_
      obtain ⟨q_4, h⟩ := h
      refine wr_iastl (pc := 52) rfl q_4 (dget kX2_begin 30 rfl) ?_
      refine wr_tops (fun σ_5 e_σ_5 => ?_)
      have h := h σ_5 e_σ_5
      refine wr_aload_n (pc := 53) (dget kX2_begin 31 rfl) 0 rfl ?_
      refine wr_getR (pc := 54) fl_X2_42 q_1 fk_2_10 (dget kX2_begin 32 rfl) ?_
      refine wr_iload_n (pc := 57) (dget kX2_begin 33 rfl) 1 rfl ?_
      refine wr_iconst (pc := 58) (dget kX2_begin 34 rfl) ic_0 ?_
      obtain ⟨q_6, h⟩ := h
      refine wr_iastl (pc := 59) rfl q_6 (dget kX2_begin 35 rfl) ?_
      refine wr_tops (fun σ_7 e_σ_7 => ?_)
      have h := h σ_7 e_σ_7
      refine wr_aload_n (pc := 60) (dget kX2_begin 36 rfl) 0 rfl ?_
      refine wr_iload_n (pc := 61) (dget kX2_begin 37 rfl) 1 rfl ?_
      refine wr_callVi (pc := 62) (Mc := mX2_comingTick) (o := a0) (rest := []) cf_X2_87 cv_X2_comingTick q_1 rfl ⟨Nat.le_of_ble_eq_true rfl, Nat.le_of_ble_eq_true rfl⟩ rfl rfl (Nat.le_of_ble_eq_true rfl) (dget kX2_begin 38 rfl) (tX2_comingTick h) (fun r_9 σ_8 h => ?_)
      refine wr_istore_n (pc := 65) (lv' := [(2, .int r_9), (0, .ref (G.1 a0)), (1, .int x1)]) (dget kX2_begin 39 rfl) (by decide) rfl ?_
      refine wr_iload_n (pc := 66) (dget kX2_begin 40 rfl) 0 rfl ?_
      refine wr_iconst (pc := 67) (dget kX2_begin 41 rfl) ic_m1 ?_
      refine wr_icmp_eq (pc := 68) (tgt := 83) (dget kX2_begin 42 rfl) (by decide) (fun c_10 => ?_) (fun c_10 => ?_)
      · have h := h.1 c_10
        obtain ⟨x1_11, e_x1_11⟩ : ∃ y : Int32, y = x1 + (1 : Int32) := ⟨_, rfl⟩
        have h := h x1_11 e_x1_11
        refine wr_iinc (pc := 83) (v := x1_11) (lv' := [(1, .int x1_11), (2, .int r_9), (0, .ref (G.1 a0))]) (dget kX2_begin 53 rfl) 2 rfl (by rw [e_x1_11, ic_1]) (by decide) rfl ?_
        refine wr_goto (pc := 86) (tgt := 35) (dget kX2_begin 54 rfl) (by decide) ?_
        refine wr_sub [2, 0] rfl ?_
        exact ih _ _ h
      · have h := h.2 c_10
        refine wr_aload_n (pc := 71) (dget kX2_begin 43 rfl) 1 rfl ?_
        refine wr_getR (pc := 72) fl_X2_45 q_1 fk_2_13 (dget kX2_begin 44 rfl) ?_
        refine wr_iload_n (pc := 75) (dget kX2_begin 45 rfl) 0 rfl ?_
        refine wr_dup2_11 (pc := 76) (dget kX2_begin 46 rfl) rfl rfl ?_
        obtain ⟨q_12, h⟩ := h
        refine wr_ialdl (pc := 77) (σ := σ_8) rfl q_12 (dget kX2_begin 47 rfl) ?_
        refine wr_iconst (pc := 78) (dget kX2_begin 48 rfl) ic_1 ?_
        refine wr_iload_n (pc := 79) (dget kX2_begin 49 rfl) 2 rfl ?_
        refine wr_ishl (pc := 80) (dget kX2_begin 50 rfl) ?_
        refine wr_ior (pc := 81) (dget kX2_begin 51 rfl) ?_
        obtain ⟨q_13, h⟩ := h
        refine wr_iastl (pc := 82) rfl q_13 (dget kX2_begin 52 rfl) ?_
        refine wr_tops (fun σ_14 e_σ_14 => ?_)
        have h := h σ_14 e_σ_14
        obtain ⟨x1_15, e_x1_15⟩ : ∃ y : Int32, y = x1 + (1 : Int32) := ⟨_, rfl⟩
        have h := h x1_15 e_x1_15
        refine wr_iinc (pc := 83) (v := x1_15) (lv' := [(1, .int x1_15), (2, .int r_9), (0, .ref (G.1 a0))]) (dget kX2_begin 53 rfl) 2 rfl (by rw [e_x1_15, ic_1]) (by decide) rfl ?_
        refine wr_goto (pc := 86) (tgt := 35) (dget kX2_begin 54 rfl) (by decide) ?_
        refine wr_sub [2, 0] rfl ?_
        exact ih _ _ h
def vX2_begin (o : Nat) (σ : Hp) (post : Hp → Prop) : Prop := (kd o = 2 ∧ (∀ σ_2 : Hp, σ_2 = wI σ o 14 (0 : Int32) → (∀ σ_3 : Hp, σ_3 = wI σ_2 o 15 (0 : Int32) → (∀ σ_4 : Hp, σ_4 = wL σ_3 o 16 (0 : Int64) → (∀ σ_5 : Hp, σ_5 = wI σ_4 o 11 (0 : Int32) → (∀ σ_6 : Hp, σ_6 = wI σ_5 o 12 (0 : Int32) → (vJ7_fill_53178 (rt o 13) (0 : Int32) σ_6 (fun σ_7 => (∃ fu : Nat, vX2_begin_35 post (fun σ_9 => post σ_9) o fu (0 : Int32) σ_7)))))))))
set_option maxHeartbeats 4000000 in
set_option maxRecDepth 100000 in
theorem tX2_begin {G : GT} {o : Nat} {σ : Hp} {post : Hp → Prop} (h : vX2_begin o σ post) : CT G mX2_begin [.ref (G.1 o)] σ (LV post) := by
  refine CT.of (by decide +kernel) (Nat.le_of_ble_eq_true rfl) ?_
  show WP G mX2_begin 0 [(0, .ref (G.1 o))] [] σ (LV post)
  unfold vX2_begin at h
  refine wr_aload_n (pc := 0) (dget kX2_begin 0 rfl) 0 rfl ?_
  refine wr_iconst (pc := 1) (dget kX2_begin 1 rfl) ic_0 ?_
  obtain ⟨q_1, h⟩ := h
  refine wr_putI (pc := 2) fl_X2_108 q_1 fk_2_14 (vp_nar_int _) rfl (dget kX2_begin 2 rfl) ?_
  refine wr_tops (fun σ_2 e_σ_2 => ?_)
  have h := h σ_2 e_σ_2
  refine wr_aload_n (pc := 5) (dget kX2_begin 3 rfl) 0 rfl ?_
  refine wr_iconst (pc := 6) (dget kX2_begin 4 rfl) ic_0 ?_
  refine wr_putI (pc := 7) fl_X2_114 q_1 fk_2_15 (vp_nar_int _) rfl (dget kX2_begin 5 rfl) ?_
  refine wr_tops (fun σ_3 e_σ_3 => ?_)
  have h := h σ_3 e_σ_3
  refine wr_aload_n (pc := 10) (dget kX2_begin 6 rfl) 0 rfl ?_
  refine wr_lconst (pc := 11) (dget kX2_begin 7 rfl) lc_0 ?_
  refine wr_putL (pc := 12) fl_X2_121 q_1 fk_2_16 rfl rfl (dget kX2_begin 8 rfl) ?_
  refine wr_tops (fun σ_4 e_σ_4 => ?_)
  have h := h σ_4 e_σ_4
  refine wr_aload_n (pc := 15) (dget kX2_begin 9 rfl) 0 rfl ?_
  refine wr_iconst (pc := 16) (dget kX2_begin 10 rfl) ic_0 ?_
  refine wr_putI (pc := 17) fl_X2_99 q_1 fk_2_11 (vp_nar_int _) rfl (dget kX2_begin 11 rfl) ?_
  refine wr_tops (fun σ_5 e_σ_5 => ?_)
  have h := h σ_5 e_σ_5
  refine wr_aload_n (pc := 20) (dget kX2_begin 12 rfl) 0 rfl ?_
  refine wr_iconst (pc := 21) (dget kX2_begin 13 rfl) ic_0 ?_
  refine wr_putI (pc := 22) fl_X2_91 q_1 fk_2_12 (vp_nar_int _) rfl (dget kX2_begin 14 rfl) ?_
  refine wr_tops (fun σ_6 e_σ_6 => ?_)
  have h := h σ_6 e_σ_6
  refine wr_aload_n (pc := 25) (dget kX2_begin 15 rfl) 0 rfl ?_
  refine wr_getR (pc := 26) fl_X2_45 q_1 fk_2_13 (dget kX2_begin 16 rfl) ?_
  refine wr_iconst (pc := 29) (dget kX2_begin 17 rfl) ic_0 ?_
  refine wr_callSv (pc := 30) (Mc := mJ7_fill_53178) (rest := []) cf_X2_125 cs_J7_fill_53178 ⟨Nat.le_of_ble_eq_true rfl, Nat.le_of_ble_eq_true rfl⟩ rfl rfl (Nat.le_of_ble_eq_true rfl) (dget kX2_begin 18 rfl) (tJ7_fill_53178 h) (fun σ_7 h => ?_)
  refine wr_iconst (pc := 33) (dget kX2_begin 19 rfl) ic_0 ?_
  refine wr_istore_n (pc := 34) (lv' := [(1, .int (0 : Int32)), (0, .ref (G.1 o))]) (dget kX2_begin 20 rfl) (by decide) rfl ?_
  obtain ⟨fu, h⟩ := h
  refine wr_sub [1, 0] rfl ?_
  refine tX2_begin_35 (fun σ_9 h => ?_) fu _ _ h
  exact wr_vret (pc := 89) rfl (dget kX2_begin 55 rfl) ⟨rfl, h⟩
def vX2_strike_77 (post : Hp → Prop) (a0 : Nat) (x1 : Int32) (x2 : Int32) (x3 : Int32) (σ : Hp) : Prop := (kd a0 = 2 ∧ (∀ σ_2 : Hp, σ_2 = wI σ a0 15 ((σ.1 a0 15) &&& (x3 ^^^ (-1 : Int32))) → (∀ σ_3 : Hp, σ_3 = wI σ_2 a0 14 ((σ_2.1 a0 14) ||| x3) → (vp_in x1 (iln (rt a0 10)) ∧ (vp_in x2 12 ∧ (vp_in x1 (iln (rt a0 10)) ∧ ∀ σ_7 : Hp, σ_7 = wI σ_3 (rt a0 10) x1.toNatClampNeg ((σ_3.1 (rt a0 10) x1.toNatClampNeg) + (σ_3.1 7 x2.toNatClampNeg)) → (vp_in x2 12 ∧ (∀ σ_9 : Hp, σ_9 = wI σ_7 a0 11 ((σ_7.1 a0 11) + (σ_7.1 7 x2.toNatClampNeg)) → post σ_9))))))))
set_option maxHeartbeats 4000000 in
set_option maxRecDepth 100000 in
theorem tX2_strike_77 {G : GT} {post : Hp → Prop} {a0 : Nat} {x1 : Int32} {x2 : Int32} {x3 : Int32} {σ : Hp} (h : vX2_strike_77 post a0 x1 x2 x3 σ) : WP G mX2_strike 77 [(0, .ref (G.1 a0)), (1, .int x1), (2, .int x2), (3, .int x3)] [] σ (LV post) := by
  unfold vX2_strike_77 at h
  refine wr_aload_n (pc := 77) (dget kX2_strike 51 rfl) 0 rfl ?_
  refine wr_dup (pc := 78) (dget kX2_strike 52 rfl) rfl ?_
  obtain ⟨q_1, h⟩ := h
  refine wr_getI (pc := 79) (σ := σ) fl_X2_114 q_1 fk_2_15 (dget kX2_strike 53 rfl) ?_
  refine wr_iload_n (pc := 82) (dget kX2_strike 54 rfl) 3 rfl ?_
  refine wr_iconst (pc := 83) (dget kX2_strike 55 rfl) ic_m1 ?_
  refine wr_ixor (pc := 84) (dget kX2_strike 56 rfl) ?_
  refine wr_iand (pc := 85) (dget kX2_strike 57 rfl) ?_
  refine wr_putI (pc := 86) fl_X2_114 q_1 fk_2_15 (vp_nar_int _) rfl (dget kX2_strike 58 rfl) ?_
  refine wr_tops (fun σ_2 e_σ_2 => ?_)
  have h := h σ_2 e_σ_2
  refine wr_aload_n (pc := 89) (dget kX2_strike 59 rfl) 0 rfl ?_
  refine wr_dup (pc := 90) (dget kX2_strike 60 rfl) rfl ?_
  refine wr_getI (pc := 91) (σ := σ_2) fl_X2_108 q_1 fk_2_14 (dget kX2_strike 61 rfl) ?_
  refine wr_iload_n (pc := 94) (dget kX2_strike 62 rfl) 3 rfl ?_
  refine wr_ior (pc := 95) (dget kX2_strike 63 rfl) ?_
  refine wr_putI (pc := 96) fl_X2_108 q_1 fk_2_14 (vp_nar_int _) rfl (dget kX2_strike 64 rfl) ?_
  refine wr_tops (fun σ_3 e_σ_3 => ?_)
  have h := h σ_3 e_σ_3
  refine wr_aload_n (pc := 99) (dget kX2_strike 65 rfl) 0 rfl ?_
  refine wr_getR (pc := 100) fl_X2_42 q_1 fk_2_10 (dget kX2_strike 66 rfl) ?_
  refine wr_iload_n (pc := 103) (dget kX2_strike 67 rfl) 1 rfl ?_
  refine wr_dup2_11 (pc := 104) (dget kX2_strike 68 rfl) rfl rfl ?_
  obtain ⟨q_4, h⟩ := h
  refine wr_ialdl (pc := 105) (σ := σ_3) rfl q_4 (dget kX2_strike 69 rfl) ?_
  refine wr_aload_n (pc := 106) (dget kX2_strike 70 rfl) 0 rfl ?_
  refine wr_getRl (pc := 107) fl_X2_48 q_1 fk_2_0 (rtu_2_0 q_1) (dget kX2_strike 71 rfl) ?_
  refine wr_getRl (pc := 110) fl_X2_150 kd_2 fk_6_4 rt_2_4 (dget kX2_strike 72 rfl) ?_
  refine wr_iload_n (pc := 113) (dget kX2_strike 73 rfl) 2 rfl ?_
  obtain ⟨q_5, h⟩ := h
  refine wr_ialdl (pc := 114) (σ := σ_3) il_7 q_5 (dget kX2_strike 74 rfl) ?_
  refine wr_iadd (pc := 115) (dget kX2_strike 75 rfl) ?_
  obtain ⟨q_6, h⟩ := h
  refine wr_iastl (pc := 116) rfl q_6 (dget kX2_strike 76 rfl) ?_
  refine wr_tops (fun σ_7 e_σ_7 => ?_)
  have h := h σ_7 e_σ_7
  refine wr_aload_n (pc := 117) (dget kX2_strike 77 rfl) 0 rfl ?_
  refine wr_dup (pc := 118) (dget kX2_strike 78 rfl) rfl ?_
  refine wr_getI (pc := 119) (σ := σ_7) fl_X2_99 q_1 fk_2_11 (dget kX2_strike 79 rfl) ?_
  refine wr_aload_n (pc := 122) (dget kX2_strike 80 rfl) 0 rfl ?_
  refine wr_getRl (pc := 123) fl_X2_48 q_1 fk_2_0 (rtu_2_0 q_1) (dget kX2_strike 81 rfl) ?_
  refine wr_getRl (pc := 126) fl_X2_150 kd_2 fk_6_4 rt_2_4 (dget kX2_strike 82 rfl) ?_
  refine wr_iload_n (pc := 129) (dget kX2_strike 83 rfl) 2 rfl ?_
  obtain ⟨q_8, h⟩ := h
  refine wr_ialdl (pc := 130) (σ := σ_7) il_7 q_8 (dget kX2_strike 84 rfl) ?_
  refine wr_iadd (pc := 131) (dget kX2_strike 85 rfl) ?_
  refine wr_putI (pc := 132) fl_X2_99 q_1 fk_2_11 (vp_nar_int _) rfl (dget kX2_strike 86 rfl) ?_
  refine wr_tops (fun σ_9 e_σ_9 => ?_)
  have h := h σ_9 e_σ_9
  exact wr_vret (pc := 135) rfl (dget kX2_strike 87 rfl) ⟨rfl, h⟩
def vX2_strike_17 (post : Hp → Prop) (a0 : Nat) (x1 : Int32) (x2 : Int32) (σ : Hp) : Prop := (kd a0 = 2 ∧ (∀ σ_2 : Hp, σ_2 = wI σ a0 12 ((σ.1 a0 12) ||| ((1 : Int32) <<< (x1 &&& 31))) → (∀ σ_3 : Hp, σ_3 = wL σ_2 a0 16 ((σ_2.2.1 a0 16) + ((1 : Int64) <<< ((((4 : Int32) * x2)).toInt64 &&& 63))) → (∀ x3_4 : Int32, x3_4 = ((1 : Int32) <<< (x2 &&& 31)) → (vp_in x2 (iln (rt a0 2)) ∧ (((σ_3.1 (rt a0 2) x2.toNatClampNeg) = (1 : Int32) → ((((σ_3.1 a0 15) &&& x3_4) = 0 → (∀ σ_8 : Hp, σ_8 = wI σ_3 a0 15 ((σ_3.1 a0 15) ||| x3_4) → post σ_8)) ∧ (¬ ((σ_3.1 a0 15) &&& x3_4) = 0 → vX2_strike_77 post a0 x1 x2 x3_4 σ_3))) ∧ (¬ (σ_3.1 (rt a0 2) x2.toNatClampNeg) = (1 : Int32) → vX2_strike_77 post a0 x1 x2 x3_4 σ_3)))))))
set_option maxHeartbeats 4000000 in
set_option maxRecDepth 100000 in
theorem tX2_strike_17 {G : GT} {post : Hp → Prop} {a0 : Nat} {x1 : Int32} {x2 : Int32} {σ : Hp} (h : vX2_strike_17 post a0 x1 x2 σ) : WP G mX2_strike 17 [(0, .ref (G.1 a0)), (1, .int x1), (2, .int x2)] [] σ (LV post) := by
  unfold vX2_strike_17 at h
  refine wr_aload_n (pc := 17) (dget kX2_strike 11 rfl) 0 rfl ?_
  refine wr_dup (pc := 18) (dget kX2_strike 12 rfl) rfl ?_
  obtain ⟨q_1, h⟩ := h
  refine wr_getI (pc := 19) (σ := σ) fl_X2_91 q_1 fk_2_12 (dget kX2_strike 13 rfl) ?_
  refine wr_iconst (pc := 22) (dget kX2_strike 14 rfl) ic_1 ?_
  refine wr_iload_n (pc := 23) (dget kX2_strike 15 rfl) 1 rfl ?_
  refine wr_ishl (pc := 24) (dget kX2_strike 16 rfl) ?_
  refine wr_ior (pc := 25) (dget kX2_strike 17 rfl) ?_
  refine wr_putI (pc := 26) fl_X2_91 q_1 fk_2_12 (vp_nar_int _) rfl (dget kX2_strike 18 rfl) ?_
  refine wr_tops (fun σ_2 e_σ_2 => ?_)
  have h := h σ_2 e_σ_2
  refine wr_aload_n (pc := 29) (dget kX2_strike 19 rfl) 0 rfl ?_
  refine wr_dup (pc := 30) (dget kX2_strike 20 rfl) rfl ?_
  refine wr_getL (pc := 31) (σ := σ_2) fl_X2_121 q_1 fk_2_16 (dget kX2_strike 21 rfl) ?_
  refine wr_lconst (pc := 34) (dget kX2_strike 22 rfl) lc_1 ?_
  refine wr_iconst (pc := 35) (dget kX2_strike 23 rfl) ic_4 ?_
  refine wr_iload_n (pc := 36) (dget kX2_strike 24 rfl) 2 rfl ?_
  refine wr_imul (pc := 37) (dget kX2_strike 25 rfl) ?_
  refine wr_lshl (pc := 38) (dget kX2_strike 26 rfl) rfl ?_
  refine wr_ladd (pc := 39) (dget kX2_strike 27 rfl) ?_
  refine wr_putL (pc := 40) fl_X2_121 q_1 fk_2_16 rfl rfl (dget kX2_strike 28 rfl) ?_
  refine wr_tops (fun σ_3 e_σ_3 => ?_)
  have h := h σ_3 e_σ_3
  refine wr_iconst (pc := 43) (dget kX2_strike 29 rfl) ic_1 ?_
  refine wr_iload_n (pc := 44) (dget kX2_strike 30 rfl) 2 rfl ?_
  refine wr_ishl (pc := 45) (dget kX2_strike 31 rfl) ?_
  refine wr_topi (fun x3_4 e_x3_4 => ?_)
  have h := h x3_4 e_x3_4
  refine wr_istore_n (pc := 46) (lv' := [(3, .int x3_4), (0, .ref (G.1 a0)), (1, .int x1), (2, .int x2)]) (dget kX2_strike 32 rfl) (by decide) rfl ?_
  refine wr_aload_n (pc := 47) (dget kX2_strike 33 rfl) 1 rfl ?_
  refine wr_getR (pc := 48) fl_X2_18 q_1 fk_2_2 (dget kX2_strike 34 rfl) ?_
  refine wr_iload_n (pc := 51) (dget kX2_strike 35 rfl) 3 rfl ?_
  obtain ⟨q_5, h⟩ := h
  refine wr_ialdl (pc := 52) (σ := σ_3) rfl q_5 (dget kX2_strike 36 rfl) ?_
  refine wr_iconst (pc := 53) (dget kX2_strike 37 rfl) ic_1 ?_
  refine wr_icmp_ne (pc := 54) (tgt := 77) (dget kX2_strike 38 rfl) (by decide) (fun c_6 => ?_) (fun c_6 => ?_)
  · have h := h.2 c_6
    refine wr_sub [1, 2, 3, 0] rfl ?_
    exact tX2_strike_77 h
  · have h := h.1 c_6
    refine wr_aload_n (pc := 57) (dget kX2_strike 39 rfl) 1 rfl ?_
    refine wr_getI (pc := 58) (σ := σ_3) fl_X2_114 q_1 fk_2_15 (dget kX2_strike 40 rfl) ?_
    refine wr_iload_n (pc := 61) (dget kX2_strike 41 rfl) 0 rfl ?_
    refine wr_iand (pc := 62) (dget kX2_strike 42 rfl) ?_
    refine wr_if_ne (pc := 63) (tgt := 77) (dget kX2_strike 43 rfl) (by decide) (fun c_7 => ?_) (fun c_7 => ?_)
    · have h := h.2 c_7
      refine wr_sub [1, 2, 3, 0] rfl ?_
      exact tX2_strike_77 h
    · have h := h.1 c_7
      refine wr_aload_n (pc := 66) (dget kX2_strike 44 rfl) 1 rfl ?_
      refine wr_dup (pc := 67) (dget kX2_strike 45 rfl) rfl ?_
      refine wr_getI (pc := 68) (σ := σ_3) fl_X2_114 q_1 fk_2_15 (dget kX2_strike 46 rfl) ?_
      refine wr_iload_n (pc := 71) (dget kX2_strike 47 rfl) 0 rfl ?_
      refine wr_ior (pc := 72) (dget kX2_strike 48 rfl) ?_
      refine wr_putI (pc := 73) fl_X2_114 q_1 fk_2_15 (vp_nar_int _) rfl (dget kX2_strike 49 rfl) ?_
      refine wr_tops (fun σ_8 e_σ_8 => ?_)
      have h := h σ_8 e_σ_8
      exact wr_vret (pc := 76) rfl (dget kX2_strike 50 rfl) ⟨rfl, h⟩
def vX2_strike (o : Nat) (p1 : Int32) (p2 : Int32) (σ : Hp) (post : Hp → Prop) : Prop := (kd o = 2 ∧ (vp_in p1 (iln (rt o 9)) ∧ (((σ.1 (rt o 9) p1.toNatClampNeg) = (-1 : Int32) → (vp_in p1 (iln (rt o 9)) ∧ ∀ σ_5 : Hp, σ_5 = wI σ (rt o 9) p1.toNatClampNeg p2 → vX2_strike_17 post o p1 p2 σ_5)) ∧ (¬ (σ.1 (rt o 9) p1.toNatClampNeg) = (-1 : Int32) → vX2_strike_17 post o p1 p2 σ))))
set_option maxHeartbeats 4000000 in
set_option maxRecDepth 100000 in
theorem tX2_strike {G : GT} {o : Nat} {p1 : Int32} {p2 : Int32} {σ : Hp} {post : Hp → Prop} (h : vX2_strike o p1 p2 σ post) : CT G mX2_strike [.ref (G.1 o), .int p1, .int p2] σ (LV post) := by
  refine CT.of (by decide +kernel) (Nat.le_of_ble_eq_true rfl) ?_
  show WP G mX2_strike 0 [(0, .ref (G.1 o)), (1, .int p1), (2, .int p2)] [] σ (LV post)
  unfold vX2_strike at h
  refine wr_aload_n (pc := 0) (dget kX2_strike 0 rfl) 0 rfl ?_
  obtain ⟨q_1, h⟩ := h
  refine wr_getR (pc := 1) fl_X2_39 q_1 fk_2_9 (dget kX2_strike 1 rfl) ?_
  refine wr_iload_n (pc := 4) (dget kX2_strike 2 rfl) 1 rfl ?_
  obtain ⟨q_2, h⟩ := h
  refine wr_ialdl (pc := 5) (σ := σ) rfl q_2 (dget kX2_strike 3 rfl) ?_
  refine wr_iconst (pc := 6) (dget kX2_strike 4 rfl) ic_m1 ?_
  refine wr_icmp_ne (pc := 7) (tgt := 17) (dget kX2_strike 5 rfl) (by decide) (fun c_3 => ?_) (fun c_3 => ?_)
  · have h := h.2 c_3
    exact tX2_strike_17 h
  · have h := h.1 c_3
    refine wr_aload_n (pc := 10) (dget kX2_strike 6 rfl) 0 rfl ?_
    refine wr_getR (pc := 11) fl_X2_39 q_1 fk_2_9 (dget kX2_strike 7 rfl) ?_
    refine wr_iload_n (pc := 14) (dget kX2_strike 8 rfl) 1 rfl ?_
    refine wr_iload_n (pc := 15) (dget kX2_strike 9 rfl) 2 rfl ?_
    obtain ⟨q_4, h⟩ := h
    refine wr_iastl (pc := 16) rfl q_4 (dget kX2_strike 10 rfl) ?_
    refine wr_tops (fun σ_5 e_σ_5 => ?_)
    have h := h σ_5 e_σ_5
    exact tX2_strike_17 h
def vX2_shoot_48 (post : Hp → Prop) (ex : Hp → Prop) (a0 : Nat) (x1 : Int32) (x2 : Int32) (x3 : Int32) : Nat → Int32 → Hp → Prop
  | 0 => fun _ _ => False
  | n + 1 => fun x4 σ => (((3 : Int32) ≤ x4 → (ex σ)) ∧ (¬ (3 : Int32) ≤ x4 → (kd a0 = 2 ∧ (kd (σ.2.2 a0 5) = 0 ∧ (vX0_duckAt (σ.2.2 a0 5) x1 x4 x3 σ (fun r_5 σ_4 => ((r_5 = (-1 : Int32) → post σ_4) ∧ (¬ r_5 = (-1 : Int32) → (vX8_isSet (σ_4.1 a0 14) r_5 σ_4 (fun r_8 σ_7 => ((r_8 = 0 → (vX2_strike a0 x2 r_5 σ_7 (fun σ_10 => (vp_in r_5 (iln (rt a0 2)) ∧ (((σ_10.1 (rt a0 2) r_5.toNatClampNeg) = (2 : Int32) → (∀ x4_14 : Int32, x4_14 = x4 + (1 : Int32) → vX2_shoot_48 post ex a0 x1 x2 x3 n x4_14 σ_10)) ∧ (¬ (σ_10.1 (rt a0 2) r_5.toNatClampNeg) = (2 : Int32) → post σ_10)))))) ∧ (¬ r_8 = 0 → post σ_7))))))))))))
set_option maxHeartbeats 4000000 in
set_option maxRecDepth 100000 in
theorem tX2_shoot_48 {G : GT} {post : Hp → Prop} {ex : Hp → Prop} {a0 : Nat} {x1 : Int32} {x2 : Int32} {x3 : Int32} (hex : ∀  (τ : Hp), ex  τ → WP G mX2_shoot 111 [] [] τ (LV post)) : ∀ (n : Nat) (x4 : Int32) (σ : Hp), vX2_shoot_48 post ex a0 x1 x2 x3 n x4 σ → WP G mX2_shoot 48 [(0, .ref (G.1 a0)), (1, .int x1), (2, .int x2), (3, .int x3), (4, .int x4)] [] σ (LV post) := by
  intro n
  induction n with
  | zero => intro x4 σ h; exact False.elim h
  | succ n ih =>
    intro x4 σ h
    simp only [vX2_shoot_48] at h
    refine wr_iload (pc := 48) (dget kX2_shoot 28 rfl) 4 rfl ?_
    refine wr_iconst (pc := 50) (dget kX2_shoot 29 rfl) ic_3 ?_
    refine wr_icmp_ge (pc := 51) (tgt := 111) (dget kX2_shoot 30 rfl) (by decide) (fun c_1 => ?_) (fun c_1 => ?_)
    · have h := h.1 c_1
      refine wr_sub [] rfl ?_
      exact hex  _ h
    · have h := h.2 c_1
      refine wr_aload_n (pc := 54) (dget kX2_shoot 31 rfl) 0 rfl ?_
      obtain ⟨q_2, h⟩ := h
      refine wr_getN (pc := 55) (σ := σ) fl_X2_52 q_2 fk_2_5 (dget kX2_shoot 32 rfl) ?_
      refine wr_iload_n (pc := 58) (dget kX2_shoot 33 rfl) 1 rfl ?_
      refine wr_iload (pc := 59) (dget kX2_shoot 34 rfl) 4 rfl ?_
      refine wr_iload_n (pc := 61) (dget kX2_shoot 35 rfl) 3 rfl ?_
      obtain ⟨q_3, h⟩ := h
      refine wr_callVi (pc := 62) (Mc := mX0_duckAt) (o := (σ.2.2 a0 5)) (rest := []) cf_X2_143 cv_X0_duckAt q_3 rfl ⟨Nat.le_of_ble_eq_true rfl, Nat.le_of_ble_eq_true rfl⟩ rfl rfl (Nat.le_of_ble_eq_true rfl) (dget kX2_shoot 36 rfl) (tX0_duckAt h) (fun r_5 σ_4 h => ?_)
      refine wr_istore (pc := 65) (lv' := [(5, .int r_5), (0, .ref (G.1 a0)), (1, .int x1), (2, .int x2), (3, .int x3), (4, .int x4)]) (dget kX2_shoot 37 rfl) (by decide) rfl ?_
      refine wr_iload (pc := 67) (dget kX2_shoot 38 rfl) 0 rfl ?_
      refine wr_iconst (pc := 69) (dget kX2_shoot 39 rfl) ic_m1 ?_
      refine wr_icmp_eq (pc := 70) (tgt := 85) (dget kX2_shoot 40 rfl) (by decide) (fun c_6 => ?_) (fun c_6 => ?_)
      · have h := h.1 c_6
        exact wr_vret (pc := 85) rfl (dget kX2_shoot 46 rfl) ⟨rfl, h⟩
      · have h := h.2 c_6
        refine wr_aload_n (pc := 73) (dget kX2_shoot 41 rfl) 1 rfl ?_
        refine wr_getI (pc := 74) (σ := σ_4) fl_X2_108 q_2 fk_2_14 (dget kX2_shoot 42 rfl) ?_
        refine wr_iload (pc := 77) (dget kX2_shoot 43 rfl) 0 rfl ?_
        refine wr_callSi (pc := 79) (Mc := mX8_isSet) (rest := []) cf_X2_69 cs_X8_isSet ⟨Nat.le_of_ble_eq_true rfl, Nat.le_of_ble_eq_true rfl⟩ rfl rfl (Nat.le_of_ble_eq_true rfl) (dget kX2_shoot 44 rfl) (tX8_isSet h) (fun r_8 σ_7 h => ?_)
        refine wr_if_eq (pc := 82) (tgt := 86) (dget kX2_shoot 45 rfl) (by decide) (fun c_9 => ?_) (fun c_9 => ?_)
        · have h := h.1 c_9
          refine wr_aload_n (pc := 86) (dget kX2_shoot 47 rfl) 1 rfl ?_
          refine wr_iload_n (pc := 87) (dget kX2_shoot 48 rfl) 3 rfl ?_
          refine wr_iload (pc := 88) (dget kX2_shoot 49 rfl) 0 rfl ?_
          refine wr_callVv (pc := 90) (Mc := mX2_strike) (o := a0) (rest := []) cf_X2_147 cv_X2_strike q_2 rfl ⟨Nat.le_of_ble_eq_true rfl, Nat.le_of_ble_eq_true rfl⟩ rfl rfl (Nat.le_of_ble_eq_true rfl) (dget kX2_shoot 50 rfl) (tX2_strike h) (fun σ_10 h => ?_)
          refine wr_aload_n (pc := 93) (dget kX2_shoot 51 rfl) 1 rfl ?_
          refine wr_getR (pc := 94) fl_X2_18 q_2 fk_2_2 (dget kX2_shoot 52 rfl) ?_
          refine wr_iload (pc := 97) (dget kX2_shoot 53 rfl) 0 rfl ?_
          obtain ⟨q_12, h⟩ := h
          refine wr_ialdl (pc := 99) (σ := σ_10) rfl q_12 (dget kX2_shoot 54 rfl) ?_
          refine wr_iconst (pc := 100) (dget kX2_shoot 55 rfl) ic_2 ?_
          refine wr_icmp_eq (pc := 101) (tgt := 105) (dget kX2_shoot 56 rfl) (by decide) (fun c_13 => ?_) (fun c_13 => ?_)
          · have h := h.1 c_13
            obtain ⟨x4_14, e_x4_14⟩ : ∃ y : Int32, y = x4 + (1 : Int32) := ⟨_, rfl⟩
            have h := h x4_14 e_x4_14
            refine wr_iinc (pc := 105) (v := x4_14) (lv' := [(4, .int x4_14), (5, .int r_5), (0, .ref (G.1 a0)), (1, .int x1), (2, .int x2), (3, .int x3)]) (dget kX2_shoot 58 rfl) 5 rfl (by rw [e_x4_14, ic_1]) (by decide) rfl ?_
            refine wr_goto (pc := 108) (tgt := 48) (dget kX2_shoot 59 rfl) (by decide) ?_
            refine wr_sub [2, 3, 4, 5, 0] rfl ?_
            exact ih _ _ h
          · have h := h.2 c_13
            exact wr_vret (pc := 104) rfl (dget kX2_shoot 57 rfl) ⟨rfl, h⟩
        · have h := h.2 c_9
          exact wr_vret (pc := 85) rfl (dget kX2_shoot 46 rfl) ⟨rfl, h⟩
def vX2_shoot (o : Nat) (p1 : Int32) (p2 : Int32) (σ : Hp) (post : Hp → Prop) : Prop := (kd o = 2 ∧ (kd (rt o 1) = 5 ∧ (vp_in p2 (iln (rt (rt o 1) 2)) ∧ (kd (σ.2.2 o 5) = 0 ∧ (vp_in p1 (iln (rt (σ.2.2 o 5) 4)) ∧ (∀ x3_6 : Int32, x3_6 = ((((σ.1 (rt (rt o 1) 2) p2.toNatClampNeg) + (σ.1 o 3)) - (2 : Int32)) + (σ.1 (rt (σ.2.2 o 5) 4) p1.toNatClampNeg)) → (vX8_within x3_6 (6 : Int32) σ (fun r_8 σ_7 => ((r_8 = 0 → post σ_7) ∧ (¬ r_8 = 0 → (vp_in p2 (iln (rt (rt o 1) 1)) ∧ (∀ x4_11 : Int32, x4_11 = (σ_7.1 (rt (rt o 1) 1) p2.toNatClampNeg) → (∃ fu : Nat, vX2_shoot_48 post (fun σ_12 => post σ_12) o p1 p2 x3_6 fu x4_11 σ_7)))))))))))))
set_option maxHeartbeats 4000000 in
set_option maxRecDepth 100000 in
theorem tX2_shoot {G : GT} {o : Nat} {p1 : Int32} {p2 : Int32} {σ : Hp} {post : Hp → Prop} (h : vX2_shoot o p1 p2 σ post) : CT G mX2_shoot [.ref (G.1 o), .int p1, .int p2] σ (LV post) := by
  refine CT.of (by decide +kernel) (Nat.le_of_ble_eq_true rfl) ?_
  show WP G mX2_shoot 0 [(0, .ref (G.1 o)), (1, .int p1), (2, .int p2)] [] σ (LV post)
  unfold vX2_shoot at h
  refine wr_aload_n (pc := 0) (dget kX2_shoot 0 rfl) 0 rfl ?_
  obtain ⟨q_1, h⟩ := h
  refine wr_getR (pc := 1) fl_X2_12 q_1 fk_2_1 (dget kX2_shoot 1 rfl) ?_
  obtain ⟨q_2, h⟩ := h
  refine wr_getR (pc := 4) fl_X2_131 q_2 fk_5_2 (dget kX2_shoot 2 rfl) ?_
  refine wr_iload_n (pc := 7) (dget kX2_shoot 3 rfl) 2 rfl ?_
  obtain ⟨q_3, h⟩ := h
  refine wr_ialdl (pc := 8) (σ := σ) rfl q_3 (dget kX2_shoot 4 rfl) ?_
  refine wr_aload_n (pc := 9) (dget kX2_shoot 5 rfl) 0 rfl ?_
  refine wr_getI (pc := 10) (σ := σ) fl_X2_22 q_1 fk_2_3 (dget kX2_shoot 6 rfl) ?_
  refine wr_iadd (pc := 13) (dget kX2_shoot 7 rfl) ?_
  refine wr_iconst (pc := 14) (dget kX2_shoot 8 rfl) ic_2 ?_
  refine wr_isub (pc := 15) (dget kX2_shoot 9 rfl) ?_
  refine wr_aload_n (pc := 16) (dget kX2_shoot 10 rfl) 0 rfl ?_
  refine wr_getN (pc := 17) (σ := σ) fl_X2_52 q_1 fk_2_5 (dget kX2_shoot 11 rfl) ?_
  obtain ⟨q_4, h⟩ := h
  refine wr_getR (pc := 20) fl_X2_134 q_4 fk_0_4 (dget kX2_shoot 12 rfl) ?_
  refine wr_iload_n (pc := 23) (dget kX2_shoot 13 rfl) 1 rfl ?_
  obtain ⟨q_5, h⟩ := h
  refine wr_ialdl (pc := 24) (σ := σ) rfl q_5 (dget kX2_shoot 14 rfl) ?_
  refine wr_iadd (pc := 25) (dget kX2_shoot 15 rfl) ?_
  refine wr_topi (fun x3_6 e_x3_6 => ?_)
  have h := h x3_6 e_x3_6
  refine wr_istore_n (pc := 26) (lv' := [(3, .int x3_6), (0, .ref (G.1 o)), (1, .int p1), (2, .int p2)]) (dget kX2_shoot 16 rfl) (by decide) rfl ?_
  refine wr_iload_n (pc := 27) (dget kX2_shoot 17 rfl) 0 rfl ?_
  refine wr_bipush (pc := 28) (dget kX2_shoot 18 rfl) bp_6 ?_
  refine wr_callSi (pc := 30) (Mc := mX8_within) (rest := []) cf_X2_137 cs_X8_within ⟨Nat.le_of_ble_eq_true rfl, Nat.le_of_ble_eq_true rfl⟩ rfl rfl (Nat.le_of_ble_eq_true rfl) (dget kX2_shoot 19 rfl) (tX8_within h) (fun r_8 σ_7 h => ?_)
  refine wr_if_ne (pc := 33) (tgt := 37) (dget kX2_shoot 20 rfl) (by decide) (fun c_9 => ?_) (fun c_9 => ?_)
  · have h := h.2 c_9
    refine wr_aload_n (pc := 37) (dget kX2_shoot 22 rfl) 1 rfl ?_
    refine wr_getR (pc := 38) fl_X2_12 q_1 fk_2_1 (dget kX2_shoot 23 rfl) ?_
    refine wr_getR (pc := 41) fl_X2_140 q_2 fk_5_1 (dget kX2_shoot 24 rfl) ?_
    refine wr_iload_n (pc := 44) (dget kX2_shoot 25 rfl) 3 rfl ?_
    obtain ⟨q_10, h⟩ := h
    refine wr_ialdl (pc := 45) (σ := σ_7) rfl q_10 (dget kX2_shoot 26 rfl) ?_
    refine wr_topi (fun x4_11 e_x4_11 => ?_)
    have h := h x4_11 e_x4_11
    refine wr_istore (pc := 46) (lv' := [(4, .int x4_11), (3, .int x3_6), (0, .ref (G.1 o)), (1, .int p1), (2, .int p2)]) (dget kX2_shoot 27 rfl) (by decide) rfl ?_
    obtain ⟨fu, h⟩ := h
    refine wr_sub [2, 3, 4, 1, 0] rfl ?_
    refine tX2_shoot_48 (fun σ_12 h => ?_) fu _ _ h
    exact wr_vret (pc := 111) rfl (dget kX2_shoot 60 rfl) ⟨rfl, h⟩
  · have h := h.1 c_9
    exact wr_vret (pc := 36) rfl (dget kX2_shoot 21 rfl) ⟨rfl, h⟩
def vX2_play_99 (post : Hp → Prop) (ex : Hp → Prop) (rc : Int32 → Hp → Prop) (a0 : Nat) (x1 : Int32) (σ : Hp) : Prop := (kd a0 = 2 ∧ (vp_in x1 (iln (rt a0 6)) ∧ ∀ σ_3 : Hp, σ_3 = wI σ (rt a0 6) x1.toNatClampNeg (σ.1 a0 14) → (vp_in x1 (iln (rt a0 7)) ∧ ∀ σ_5 : Hp, σ_5 = wI σ_3 (rt a0 7) x1.toNatClampNeg (σ_3.1 a0 15) → (vp_in x1 (lln (rt a0 8)) ∧ ∀ σ_7 : Hp, σ_7 = wL σ_5 (rt a0 8) x1.toNatClampNeg (σ_5.2.1 a0 16) → (∀ x1_8 : Int32, x1_8 = x1 + (1 : Int32) → (rc x1_8 σ_7))))))
set_option maxHeartbeats 4000000 in
set_option maxRecDepth 100000 in
theorem tX2_play_99 {G : GT} {post : Hp → Prop} {ex : Hp → Prop} {rc : Int32 → Hp → Prop} {a0 : Nat} {x1 : Int32} {σ : Hp} (hex : ∀  (τ : Hp), ex  τ → WP G mX2_play 135 [] [] τ (LV post)) (hrc : ∀ (z1 : Int32) (τ : Hp), rc z1 τ → WP G mX2_play 6 [(0, .ref (G.1 a0)), (1, .int z1)] [] τ (LV post)) (h : vX2_play_99 post ex rc a0 x1 σ) : WP G mX2_play 99 [(0, .ref (G.1 a0)), (1, .int x1)] [] σ (LV post) := by
  unfold vX2_play_99 at h
  refine wr_aload_n (pc := 99) (dget kX2_play 58 rfl) 0 rfl ?_
  obtain ⟨q_1, h⟩ := h
  refine wr_getR (pc := 100) fl_X2_29 q_1 fk_2_6 (dget kX2_play 59 rfl) ?_
  refine wr_iload_n (pc := 103) (dget kX2_play 60 rfl) 1 rfl ?_
  refine wr_aload_n (pc := 104) (dget kX2_play 61 rfl) 0 rfl ?_
  refine wr_getI (pc := 105) (σ := σ) fl_X2_108 q_1 fk_2_14 (dget kX2_play 62 rfl) ?_
  obtain ⟨q_2, h⟩ := h
  refine wr_iastl (pc := 108) rfl q_2 (dget kX2_play 63 rfl) ?_
  refine wr_tops (fun σ_3 e_σ_3 => ?_)
  have h := h σ_3 e_σ_3
  refine wr_aload_n (pc := 109) (dget kX2_play 64 rfl) 0 rfl ?_
  refine wr_getR (pc := 110) fl_X2_32 q_1 fk_2_7 (dget kX2_play 65 rfl) ?_
  refine wr_iload_n (pc := 113) (dget kX2_play 66 rfl) 1 rfl ?_
  refine wr_aload_n (pc := 114) (dget kX2_play 67 rfl) 0 rfl ?_
  refine wr_getI (pc := 115) (σ := σ_3) fl_X2_114 q_1 fk_2_15 (dget kX2_play 68 rfl) ?_
  obtain ⟨q_4, h⟩ := h
  refine wr_iastl (pc := 118) rfl q_4 (dget kX2_play 69 rfl) ?_
  refine wr_tops (fun σ_5 e_σ_5 => ?_)
  have h := h σ_5 e_σ_5
  refine wr_aload_n (pc := 119) (dget kX2_play 70 rfl) 0 rfl ?_
  refine wr_getR (pc := 120) fl_X2_35 q_1 fk_2_8 (dget kX2_play 71 rfl) ?_
  refine wr_iload_n (pc := 123) (dget kX2_play 72 rfl) 1 rfl ?_
  refine wr_aload_n (pc := 124) (dget kX2_play 73 rfl) 0 rfl ?_
  refine wr_getL (pc := 125) (σ := σ_5) fl_X2_121 q_1 fk_2_16 (dget kX2_play 74 rfl) ?_
  obtain ⟨q_6, h⟩ := h
  refine wr_lastl (pc := 128) rfl q_6 (dget kX2_play 75 rfl) ?_
  refine wr_tops (fun σ_7 e_σ_7 => ?_)
  have h := h σ_7 e_σ_7
  obtain ⟨x1_8, e_x1_8⟩ : ∃ y : Int32, y = x1 + (1 : Int32) := ⟨_, rfl⟩
  have h := h x1_8 e_x1_8
  refine wr_iinc (pc := 129) (v := x1_8) (lv' := [(1, .int x1_8), (0, .ref (G.1 a0))]) (dget kX2_play 76 rfl) 1 rfl (by rw [e_x1_8, ic_1]) (by decide) rfl ?_
  refine wr_goto (pc := 132) (tgt := 6) (dget kX2_play 77 rfl) (by decide) ?_
  refine wr_sub [1, 0] rfl ?_
  exact hrc _ _ h
def vX2_play_54 (post : Hp → Prop) (ex : Hp → Prop) (a0 : Nat) (x1 : Int32) : Nat → Int32 → Hp → Prop
  | 0 => fun _ _ => False
  | n + 1 => fun x2 σ => (kd a0 = 2 ∧ (vp_in x1 (iln (rt a0 13)) ∧ (((σ.1 (rt a0 13) x1.toNatClampNeg) = 0 → (ex σ)) ∧ (¬ (σ.1 (rt a0 13) x1.toNatClampNeg) = 0 → (kd (rt a0 1) = 5 ∧ (((σ.1 (rt a0 1) 3) ≤ x2 → (ex σ)) ∧ (¬ (σ.1 (rt a0 1) 3) ≤ x2 → (vp_in x1 (iln (rt a0 13)) ∧ ((((σ.1 (rt a0 13) x1.toNatClampNeg) &&& ((1 : Int32) <<< (x2 &&& 31))) = 0 → (∀ x2_8 : Int32, x2_8 = x2 + (1 : Int32) → vX2_play_54 post ex a0 x1 n x2_8 σ)) ∧ (¬ ((σ.1 (rt a0 13) x1.toNatClampNeg) &&& ((1 : Int32) <<< (x2 &&& 31))) = 0 → (vX2_shoot a0 x1 x2 σ (fun σ_9 => (∀ x2_11 : Int32, x2_11 = x2 + (1 : Int32) → vX2_play_54 post ex a0 x1 n x2_11 σ_9)))))))))))))
set_option maxHeartbeats 4000000 in
set_option maxRecDepth 100000 in
theorem tX2_play_54 {G : GT} {post : Hp → Prop} {ex : Hp → Prop} {a0 : Nat} {x1 : Int32} (hex : ∀  (τ : Hp), ex  τ → WP G mX2_play 99 [(0, .ref (G.1 a0)), (1, .int x1)] [] τ (LV post)) : ∀ (n : Nat) (x2 : Int32) (σ : Hp), vX2_play_54 post ex a0 x1 n x2 σ → WP G mX2_play 54 [(0, .ref (G.1 a0)), (1, .int x1), (2, .int x2)] [] σ (LV post) := by
  intro n
  induction n with
  | zero => intro x2 σ h; exact False.elim h
  | succ n ih =>
    intro x2 σ h
    simp only [vX2_play_54] at h
    refine wr_aload_n (pc := 54) (dget kX2_play 33 rfl) 0 rfl ?_
    obtain ⟨q_1, h⟩ := h
    refine wr_getR (pc := 55) fl_X2_45 q_1 fk_2_13 (dget kX2_play 34 rfl) ?_
    refine wr_iload_n (pc := 58) (dget kX2_play 35 rfl) 1 rfl ?_
    obtain ⟨q_2, h⟩ := h
    refine wr_ialdl (pc := 59) (σ := σ) rfl q_2 (dget kX2_play 36 rfl) ?_
    refine wr_if_eq (pc := 60) (tgt := 99) (dget kX2_play 37 rfl) (by decide) (fun c_3 => ?_) (fun c_3 => ?_)
    · have h := h.1 c_3
      refine wr_sub [0, 1] rfl ?_
      exact hex  _ h
    · have h := h.2 c_3
      refine wr_iload_n (pc := 63) (dget kX2_play 38 rfl) 2 rfl ?_
      refine wr_aload_n (pc := 64) (dget kX2_play 39 rfl) 0 rfl ?_
      refine wr_getR (pc := 65) fl_X2_12 q_1 fk_2_1 (dget kX2_play 40 rfl) ?_
      obtain ⟨q_4, h⟩ := h
      refine wr_getI (pc := 68) (σ := σ) fl_X2_102 q_4 fk_5_3 (dget kX2_play 41 rfl) ?_
      refine wr_icmp_ge (pc := 71) (tgt := 99) (dget kX2_play 42 rfl) (by decide) (fun c_5 => ?_) (fun c_5 => ?_)
      · have h := h.1 c_5
        refine wr_sub [0, 1] rfl ?_
        exact hex  _ h
      · have h := h.2 c_5
        refine wr_aload_n (pc := 74) (dget kX2_play 43 rfl) 0 rfl ?_
        refine wr_getR (pc := 75) fl_X2_45 q_1 fk_2_13 (dget kX2_play 44 rfl) ?_
        refine wr_iload_n (pc := 78) (dget kX2_play 45 rfl) 1 rfl ?_
        obtain ⟨q_6, h⟩ := h
        refine wr_ialdl (pc := 79) (σ := σ) rfl q_6 (dget kX2_play 46 rfl) ?_
        refine wr_iconst (pc := 80) (dget kX2_play 47 rfl) ic_1 ?_
        refine wr_iload_n (pc := 81) (dget kX2_play 48 rfl) 2 rfl ?_
        refine wr_ishl (pc := 82) (dget kX2_play 49 rfl) ?_
        refine wr_iand (pc := 83) (dget kX2_play 50 rfl) ?_
        refine wr_if_eq (pc := 84) (tgt := 93) (dget kX2_play 51 rfl) (by decide) (fun c_7 => ?_) (fun c_7 => ?_)
        · have h := h.1 c_7
          obtain ⟨x2_8, e_x2_8⟩ : ∃ y : Int32, y = x2 + (1 : Int32) := ⟨_, rfl⟩
          have h := h x2_8 e_x2_8
          refine wr_iinc (pc := 93) (v := x2_8) (lv' := [(2, .int x2_8), (0, .ref (G.1 a0)), (1, .int x1)]) (dget kX2_play 56 rfl) 2 rfl (by rw [e_x2_8, ic_1]) (by decide) rfl ?_
          refine wr_goto (pc := 96) (tgt := 54) (dget kX2_play 57 rfl) (by decide) ?_
          refine wr_sub [1, 2, 0] rfl ?_
          exact ih _ _ h
        · have h := h.2 c_7
          refine wr_aload_n (pc := 87) (dget kX2_play 52 rfl) 0 rfl ?_
          refine wr_iload_n (pc := 88) (dget kX2_play 53 rfl) 1 rfl ?_
          refine wr_iload_n (pc := 89) (dget kX2_play 54 rfl) 2 rfl ?_
          refine wr_callVv (pc := 90) (Mc := mX2_shoot) (o := a0) (rest := []) cf_X2_117 cv_X2_shoot q_1 rfl ⟨Nat.le_of_ble_eq_true rfl, Nat.le_of_ble_eq_true rfl⟩ rfl rfl (Nat.le_of_ble_eq_true rfl) (dget kX2_play 55 rfl) (tX2_shoot h) (fun σ_9 h => ?_)
          obtain ⟨x2_11, e_x2_11⟩ : ∃ y : Int32, y = x2 + (1 : Int32) := ⟨_, rfl⟩
          have h := h x2_11 e_x2_11
          refine wr_iinc (pc := 93) (v := x2_11) (lv' := [(2, .int x2_11), (0, .ref (G.1 a0)), (1, .int x1)]) (dget kX2_play 56 rfl) 2 rfl (by rw [e_x2_11, ic_1]) (by decide) rfl ?_
          refine wr_goto (pc := 96) (tgt := 54) (dget kX2_play 57 rfl) (by decide) ?_
          refine wr_sub [1, 2, 0] rfl ?_
          exact ih _ _ h
def vX2_play_6 (post : Hp → Prop) (ex : Hp → Prop) (a0 : Nat) : Nat → Int32 → Hp → Prop
  | 0 => fun _ _ => False
  | n + 1 => fun x1 σ => (((24 : Int32) ≤ x1 → (ex σ)) ∧ (¬ (24 : Int32) ≤ x1 → (kd a0 = 2 ∧ (kd (σ.2.2 a0 5) = 0 ∧ (vp_in x1 (iln (rt (σ.2.2 a0 5) 3)) ∧ (∀ σ_5 : Hp, σ_5 = wI σ a0 14 ((σ.1 a0 14) &&& ((σ.1 (rt (σ.2.2 a0 5) 3) x1.toNatClampNeg) ^^^ (-1 : Int32))) → (kd (σ_5.2.2 a0 5) = 0 ∧ (vp_in x1 (iln (rt (σ_5.2.2 a0 5) 3)) ∧ (∀ σ_8 : Hp, σ_8 = wI σ_5 a0 15 ((σ_5.1 a0 15) &&& ((σ_5.1 (rt (σ_5.2.2 a0 5) 3) x1.toNatClampNeg) ^^^ (-1 : Int32))) → (∃ fu : Nat, vX2_play_54 post (fun σ_9 => vX2_play_99 post ex (vX2_play_6 post ex a0 n) a0 x1 σ_9) a0 x1 fu (0 : Int32) σ_8))))))))))
set_option maxHeartbeats 4000000 in
set_option maxRecDepth 100000 in
theorem tX2_play_6 {G : GT} {post : Hp → Prop} {ex : Hp → Prop} {a0 : Nat} (hex : ∀  (τ : Hp), ex  τ → WP G mX2_play 135 [] [] τ (LV post)) : ∀ (n : Nat) (x1 : Int32) (σ : Hp), vX2_play_6 post ex a0 n x1 σ → WP G mX2_play 6 [(0, .ref (G.1 a0)), (1, .int x1)] [] σ (LV post) := by
  intro n
  induction n with
  | zero => intro x1 σ h; exact False.elim h
  | succ n ih =>
    intro x1 σ h
    simp only [vX2_play_6] at h
    refine wr_iload_n (pc := 6) (dget kX2_play 4 rfl) 1 rfl ?_
    refine wr_bipush (pc := 7) (dget kX2_play 5 rfl) bp_24 ?_
    refine wr_icmp_ge (pc := 9) (tgt := 135) (dget kX2_play 6 rfl) (by decide) (fun c_1 => ?_) (fun c_1 => ?_)
    · have h := h.1 c_1
      refine wr_sub [] rfl ?_
      exact hex  _ h
    · have h := h.2 c_1
      refine wr_aload_n (pc := 12) (dget kX2_play 7 rfl) 0 rfl ?_
      refine wr_dup (pc := 13) (dget kX2_play 8 rfl) rfl ?_
      obtain ⟨q_2, h⟩ := h
      refine wr_getI (pc := 14) (σ := σ) fl_X2_108 q_2 fk_2_14 (dget kX2_play 9 rfl) ?_
      refine wr_aload_n (pc := 17) (dget kX2_play 10 rfl) 0 rfl ?_
      refine wr_getN (pc := 18) (σ := σ) fl_X2_52 q_2 fk_2_5 (dget kX2_play 11 rfl) ?_
      obtain ⟨q_3, h⟩ := h
      refine wr_getR (pc := 21) fl_X2_111 q_3 fk_0_3 (dget kX2_play 12 rfl) ?_
      refine wr_iload_n (pc := 24) (dget kX2_play 13 rfl) 1 rfl ?_
      obtain ⟨q_4, h⟩ := h
      refine wr_ialdl (pc := 25) (σ := σ) rfl q_4 (dget kX2_play 14 rfl) ?_
      refine wr_iconst (pc := 26) (dget kX2_play 15 rfl) ic_m1 ?_
      refine wr_ixor (pc := 27) (dget kX2_play 16 rfl) ?_
      refine wr_iand (pc := 28) (dget kX2_play 17 rfl) ?_
      refine wr_putI (pc := 29) fl_X2_108 q_2 fk_2_14 (vp_nar_int _) rfl (dget kX2_play 18 rfl) ?_
      refine wr_tops (fun σ_5 e_σ_5 => ?_)
      have h := h σ_5 e_σ_5
      refine wr_aload_n (pc := 32) (dget kX2_play 19 rfl) 0 rfl ?_
      refine wr_dup (pc := 33) (dget kX2_play 20 rfl) rfl ?_
      refine wr_getI (pc := 34) (σ := σ_5) fl_X2_114 q_2 fk_2_15 (dget kX2_play 21 rfl) ?_
      refine wr_aload_n (pc := 37) (dget kX2_play 22 rfl) 0 rfl ?_
      refine wr_getN (pc := 38) (σ := σ_5) fl_X2_52 q_2 fk_2_5 (dget kX2_play 23 rfl) ?_
      obtain ⟨q_6, h⟩ := h
      refine wr_getR (pc := 41) fl_X2_111 q_6 fk_0_3 (dget kX2_play 24 rfl) ?_
      refine wr_iload_n (pc := 44) (dget kX2_play 25 rfl) 1 rfl ?_
      obtain ⟨q_7, h⟩ := h
      refine wr_ialdl (pc := 45) (σ := σ_5) rfl q_7 (dget kX2_play 26 rfl) ?_
      refine wr_iconst (pc := 46) (dget kX2_play 27 rfl) ic_m1 ?_
      refine wr_ixor (pc := 47) (dget kX2_play 28 rfl) ?_
      refine wr_iand (pc := 48) (dget kX2_play 29 rfl) ?_
      refine wr_putI (pc := 49) fl_X2_114 q_2 fk_2_15 (vp_nar_int _) rfl (dget kX2_play 30 rfl) ?_
      refine wr_tops (fun σ_8 e_σ_8 => ?_)
      have h := h σ_8 e_σ_8
      refine wr_iconst (pc := 52) (dget kX2_play 31 rfl) ic_0 ?_
      refine wr_istore_n (pc := 53) (lv' := [(2, .int (0 : Int32)), (0, .ref (G.1 a0)), (1, .int x1)]) (dget kX2_play 32 rfl) (by decide) rfl ?_
      obtain ⟨fu, h⟩ := h
      refine wr_sub [1, 2, 0] rfl ?_
      refine tX2_play_54 (fun σ_9 h => ?_) fu _ _ h
      exact tX2_play_99 hex ih h
def vX2_play (o : Nat) (σ : Hp) (post : Hp → Prop) : Prop := (kd o = 2 ∧ (vX2_begin o σ (fun σ_2 => (∃ fu : Nat, vX2_play_6 post (fun σ_4 => post σ_4) o fu (0 : Int32) σ_2))))
set_option maxHeartbeats 4000000 in
set_option maxRecDepth 100000 in
theorem tX2_play {G : GT} {o : Nat} {σ : Hp} {post : Hp → Prop} (h : vX2_play o σ post) : CT G mX2_play [.ref (G.1 o)] σ (LV post) := by
  refine CT.of (by decide +kernel) (Nat.le_of_ble_eq_true rfl) ?_
  show WP G mX2_play 0 [(0, .ref (G.1 o))] [] σ (LV post)
  unfold vX2_play at h
  refine wr_aload_n (pc := 0) (dget kX2_play 0 rfl) 0 rfl ?_
  obtain ⟨q_1, h⟩ := h
  refine wr_callVv (pc := 1) (Mc := mX2_begin) (o := o) (rest := []) cf_X2_105 cv_X2_begin q_1 rfl ⟨Nat.le_of_ble_eq_true rfl, Nat.le_of_ble_eq_true rfl⟩ rfl rfl (Nat.le_of_ble_eq_true rfl) (dget kX2_play 1 rfl) (tX2_begin h) (fun σ_2 h => ?_)
  refine wr_iconst (pc := 4) (dget kX2_play 2 rfl) ic_0 ?_
  refine wr_istore_n (pc := 5) (lv' := [(1, .int (0 : Int32)), (0, .ref (G.1 o))]) (dget kX2_play 3 rfl) (by decide) rfl ?_
  obtain ⟨fu, h⟩ := h
  refine wr_sub [1, 0] rfl ?_
  refine tX2_play_6 (fun σ_4 h => ?_) fu _ _ h
  exact wr_vret (pc := 135) rfl (dget kX2_play 78 rfl) ⟨rfl, h⟩
