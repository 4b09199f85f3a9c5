def vX4_begin (o : Nat) (p1 : Int32) (p2 : Int32) (σ : Hp) (post : Hp → Prop) : Prop := (kd o = 4 ∧ (∀ σ_2 : Hp, σ_2 = wI σ o 1 p1 → (∀ σ_3 : Hp, σ_3 = wI σ_2 o 2 p2 → (∀ σ_4 : Hp, σ_4 = wI σ_3 o 3 (0 : Int32) → (vJ7_fill_53178 (rt o 0) (0 : Int32) σ_4 (fun σ_5 => post σ_5))))))
set_option maxHeartbeats 4000000 in
set_option maxRecDepth 100000 in
theorem tX4_begin {G : GT} {o : Nat} {p1 : Int32} {p2 : Int32} {σ : Hp} {post : Hp → Prop} (h : vX4_begin o p1 p2 σ post) : CT G mX4_begin [.ref (G.1 o), .int p1, .int p2] σ (LV post) := by
  refine CT.of (by decide +kernel) (Nat.le_of_ble_eq_true rfl) ?_
  show WP G mX4_begin 0 [(0, .ref (G.1 o)), (1, .int p1), (2, .int p2)] [] σ (LV post)
  unfold vX4_begin at h
  refine wr_aload_n (pc := 0) (dget kX4_begin 0 rfl) 0 rfl ?_
  refine wr_iload_n (pc := 1) (dget kX4_begin 1 rfl) 1 rfl ?_
  obtain ⟨q_1, h⟩ := h
  refine wr_putI (pc := 2) fl_X4_19 q_1 fk_4_1 (vp_nar_int _) rfl (dget kX4_begin 2 rfl) ?_
  refine wr_tops (fun σ_2 e_σ_2 => ?_)
  have h := h σ_2 e_σ_2
  refine wr_aload_n (pc := 5) (dget kX4_begin 3 rfl) 0 rfl ?_
  refine wr_iload_n (pc := 6) (dget kX4_begin 4 rfl) 2 rfl ?_
  refine wr_putI (pc := 7) fl_X4_23 q_1 fk_4_2 (vp_nar_int _) rfl (dget kX4_begin 5 rfl) ?_
  refine wr_tops (fun σ_3 e_σ_3 => ?_)
  have h := h σ_3 e_σ_3
  refine wr_aload_n (pc := 10) (dget kX4_begin 6 rfl) 0 rfl ?_
  refine wr_iconst (pc := 11) (dget kX4_begin 7 rfl) ic_0 ?_
  refine wr_putI (pc := 12) fl_X4_15 q_1 fk_4_3 (by decide) (by decide) (dget kX4_begin 8 rfl) ?_
  refine wr_tops (fun σ_4 e_σ_4 => ?_)
  have h := h σ_4 e_σ_4
  refine wr_aload_n (pc := 15) (dget kX4_begin 9 rfl) 0 rfl ?_
  refine wr_getR (pc := 16) fl_X4_9 q_1 fk_4_0 (dget kX4_begin 10 rfl) ?_
  refine wr_iconst (pc := 19) (dget kX4_begin 11 rfl) ic_0 ?_
  refine wr_callSv (pc := 20) (Mc := mJ7_fill_53178) (rest := []) cf_X4_26 cs_J7_fill_53178 ⟨Nat.le_of_ble_eq_true rfl, Nat.le_of_ble_eq_true rfl⟩ rfl rfl (Nat.le_of_ble_eq_true rfl) (dget kX4_begin 12 rfl) (tJ7_fill_53178 h) (fun σ_5 h => ?_)
  exact wr_vret (pc := 23) rfl (dget kX4_begin 13 rfl) ⟨rfl, h⟩
def vX4_has (o : Nat) (p1 : Int32) (p2 : Int32) (σ : Hp) (post : Int32 → Hp → Prop) : Prop := ((p1 < 0 → post (0 : Int32) σ) ∧ (¬ p1 < 0 → ((p2 < 0 → post (0 : Int32) σ) ∧ (¬ p2 < 0 → (kd o = 4 ∧ (((σ.1 o 2) < p1 → post (0 : Int32) σ) ∧ (¬ (σ.1 o 2) < p1 → ((((σ.1 o 2) - p1) < p2 → post (0 : Int32) σ) ∧ (¬ ((σ.1 o 2) - p1) < p2 → post (1 : Int32) σ)))))))))
set_option maxHeartbeats 4000000 in
set_option maxRecDepth 100000 in
theorem tX4_has {G : GT} {o : Nat} {p1 : Int32} {p2 : Int32} {σ : Hp} {post : Int32 → Hp → Prop} (h : vX4_has o p1 p2 σ post) : CT G mX4_has [.ref (G.1 o), .int p1, .int p2] σ (LI post) := by
  refine CT.of (by decide +kernel) (Nat.le_of_ble_eq_true rfl) ?_
  show WP G mX4_has 0 [(0, .ref (G.1 o)), (1, .int p1), (2, .int p2)] [] σ (LI post)
  unfold vX4_has at h
  refine wr_iload_n (pc := 0) (dget kX4_has 0 rfl) 1 rfl ?_
  refine wr_if_lt (pc := 1) (tgt := 30) (dget kX4_has 1 rfl) (by decide) (fun c_1 => ?_) (fun c_1 => ?_)
  · have h := h.1 c_1
    refine wr_iconst (pc := 30) (dget kX4_has 16 rfl) ic_0 ?_
    exact wr_zret (pc := 31) rfl (by decide) (dget kX4_has 17 rfl) ⟨_, rfl, h⟩
  · have h := h.2 c_1
    refine wr_iload_n (pc := 4) (dget kX4_has 2 rfl) 2 rfl ?_
    refine wr_if_lt (pc := 5) (tgt := 30) (dget kX4_has 3 rfl) (by decide) (fun c_2 => ?_) (fun c_2 => ?_)
    · have h := h.1 c_2
      refine wr_iconst (pc := 30) (dget kX4_has 16 rfl) ic_0 ?_
      exact wr_zret (pc := 31) rfl (by decide) (dget kX4_has 17 rfl) ⟨_, rfl, h⟩
    · have h := h.2 c_2
      refine wr_iload_n (pc := 8) (dget kX4_has 4 rfl) 1 rfl ?_
      refine wr_aload_n (pc := 9) (dget kX4_has 5 rfl) 0 rfl ?_
      obtain ⟨q_3, h⟩ := h
      refine wr_getI (pc := 10) (σ := σ) fl_X4_23 q_3 fk_4_2 (dget kX4_has 6 rfl) ?_
      refine wr_icmp_gt (pc := 13) (tgt := 30) (dget kX4_has 7 rfl) (by decide) (fun c_4 => ?_) (fun c_4 => ?_)
      · have h := h.1 c_4
        refine wr_iconst (pc := 30) (dget kX4_has 16 rfl) ic_0 ?_
        exact wr_zret (pc := 31) rfl (by decide) (dget kX4_has 17 rfl) ⟨_, rfl, h⟩
      · have h := h.2 c_4
        refine wr_iload_n (pc := 16) (dget kX4_has 8 rfl) 2 rfl ?_
        refine wr_aload_n (pc := 17) (dget kX4_has 9 rfl) 0 rfl ?_
        refine wr_getI (pc := 18) (σ := σ) fl_X4_23 q_3 fk_4_2 (dget kX4_has 10 rfl) ?_
        refine wr_iload_n (pc := 21) (dget kX4_has 11 rfl) 1 rfl ?_
        refine wr_isub (pc := 22) (dget kX4_has 12 rfl) ?_
        refine wr_icmp_gt (pc := 23) (tgt := 30) (dget kX4_has 13 rfl) (by decide) (fun c_5 => ?_) (fun c_5 => ?_)
        · have h := h.1 c_5
          refine wr_iconst (pc := 30) (dget kX4_has 16 rfl) ic_0 ?_
          exact wr_zret (pc := 31) rfl (by decide) (dget kX4_has 17 rfl) ⟨_, rfl, h⟩
        · have h := h.2 c_5
          refine wr_iconst (pc := 26) (dget kX4_has 14 rfl) ic_1 ?_
          refine wr_goto (pc := 27) (tgt := 31) (dget kX4_has 15 rfl) (by decide) ?_
          exact wr_zret (pc := 31) rfl (by decide) (dget kX4_has 17 rfl) ⟨_, rfl, h⟩
def vX4_put (o : Nat) (p1 : Int32) (p2 : Int32) (σ : Hp) (post : Hp → Prop) : Prop := (kd o = 4 ∧ (((σ.1 o 1) = (0 : Int32) → (vp_in p1 (iln (rt o 0)) ∧ ∀ σ_4 : Hp, σ_4 = wI σ (rt o 0) p1.toNatClampNeg p2.toInt8.toInt32 → post σ_4)) ∧ (¬ (σ.1 o 1) = (0 : Int32) → (((σ.1 o 1) = (1 : Int32) → (vp_in p1 (iln (rt o 0)) ∧ ∀ σ_7 : Hp, σ_7 = wI σ (rt o 0) p1.toNatClampNeg p2.toInt16.toInt32 → post σ_7)) ∧ (¬ (σ.1 o 1) = (1 : Int32) → (vp_in p1 (iln (rt o 0)) ∧ ∀ σ_9 : Hp, σ_9 = wI σ (rt o 0) p1.toNatClampNeg p2 → post σ_9))))))
set_option maxHeartbeats 4000000 in
set_option maxRecDepth 100000 in
theorem tX4_put {G : GT} {o : Nat} {p1 : Int32} {p2 : Int32} {σ : Hp} {post : Hp → Prop} (h : vX4_put o p1 p2 σ post) : CT G mX4_put [.ref (G.1 o), .int p1, .int p2] σ (LV post) := by
  refine CT.of (by decide +kernel) (Nat.le_of_ble_eq_true rfl) ?_
  show WP G mX4_put 0 [(0, .ref (G.1 o)), (1, .int p1), (2, .int p2)] [] σ (LV post)
  unfold vX4_put at h
  refine wr_aload_n (pc := 0) (dget kX4_put 0 rfl) 0 rfl ?_
  obtain ⟨q_1, h⟩ := h
  refine wr_getI (pc := 1) (σ := σ) fl_X4_19 q_1 fk_4_1 (dget kX4_put 1 rfl) ?_
  rcases Decidable.em ((σ.1 o 1) = (0 : Int32)) with c_2 | c_2
  · have h := h.1 c_2
    refine wr_look (pc := 4) (tgt := 32) (off := 28) (dget kX4_put 2 rfl) (by decide) (by rw [c_2]; rfl) (by decide) ?_
    refine wr_aload_n (pc := 32) (dget kX4_put 3 rfl) 0 rfl ?_
    refine wr_getR (pc := 33) fl_X4_9 q_1 fk_4_0 (dget kX4_put 4 rfl) ?_
    refine wr_iload_n (pc := 36) (dget kX4_put 5 rfl) 1 rfl ?_
    refine wr_iload_n (pc := 37) (dget kX4_put 6 rfl) 2 rfl ?_
    refine wr_i2b (pc := 38) (dget kX4_put 7 rfl) rfl ?_
    obtain ⟨q_3, h⟩ := h
    refine wr_iastl (pc := 39) rfl q_3 (dget kX4_put 8 rfl) ?_
    refine wr_tops (fun σ_4 e_σ_4 => ?_)
    have h := h σ_4 e_σ_4
    refine wr_goto (pc := 40) (tgt := 61) (dget kX4_put 9 rfl) (by decide) ?_
    exact wr_vret (pc := 61) rfl (dget kX4_put 22 rfl) ⟨rfl, h⟩
  · have h := h.2 c_2
    rcases Decidable.em ((σ.1 o 1) = (1 : Int32)) with c_5 | c_5
    · have h := h.1 c_5
      refine wr_look (pc := 4) (tgt := 43) (off := 39) (dget kX4_put 2 rfl) (by decide) (by rw [c_5]; rfl) (by decide) ?_
      refine wr_aload_n (pc := 43) (dget kX4_put 10 rfl) 0 rfl ?_
      refine wr_getR (pc := 44) fl_X4_9 q_1 fk_4_0 (dget kX4_put 11 rfl) ?_
      refine wr_iload_n (pc := 47) (dget kX4_put 12 rfl) 1 rfl ?_
      refine wr_iload_n (pc := 48) (dget kX4_put 13 rfl) 2 rfl ?_
      refine wr_i2s (pc := 49) (dget kX4_put 14 rfl) rfl ?_
      obtain ⟨q_6, h⟩ := h
      refine wr_iastl (pc := 50) rfl q_6 (dget kX4_put 15 rfl) ?_
      refine wr_tops (fun σ_7 e_σ_7 => ?_)
      have h := h σ_7 e_σ_7
      refine wr_goto (pc := 51) (tgt := 61) (dget kX4_put 16 rfl) (by decide) ?_
      exact wr_vret (pc := 61) rfl (dget kX4_put 22 rfl) ⟨rfl, h⟩
    · have h := h.2 c_5
      refine wr_look (pc := 4) (tgt := 54) (off := 50) (dget kX4_put 2 rfl) (by decide) (by rw [lv_osw c_2 (by decide)]; rw [lv_osw c_5 (by decide)]; rfl) (by decide) ?_
      refine wr_aload_n (pc := 54) (dget kX4_put 17 rfl) 0 rfl ?_
      refine wr_getR (pc := 55) fl_X4_9 q_1 fk_4_0 (dget kX4_put 18 rfl) ?_
      refine wr_iload_n (pc := 58) (dget kX4_put 19 rfl) 1 rfl ?_
      refine wr_iload_n (pc := 59) (dget kX4_put 20 rfl) 2 rfl ?_
      obtain ⟨q_8, h⟩ := h
      refine wr_iastl (pc := 60) rfl q_8 (dget kX4_put 21 rfl) ?_
      refine wr_tops (fun σ_9 e_σ_9 => ?_)
      have h := h σ_9 e_σ_9
      exact wr_vret (pc := 61) rfl (dget kX4_put 22 rfl) ⟨rfl, h⟩
