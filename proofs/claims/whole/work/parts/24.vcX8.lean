def vX8_digest_44 (post : Int64 → Hp → Prop) (ex : Int64 → Hp → Prop) : Nat → Int64 → Int32 → Hp → Prop
  | 0 => fun _ _ _ => False
  | n + 1 => fun x1 x3 σ => (((σ.1 24 3) ≤ x3 → (ex x1 σ)) ∧ (¬ (σ.1 24 3) ≤ x3 → (vX8_digestShot x1 x3 σ (fun r_3 σ_2 => (∀ x3_4 : Int32, x3_4 = x3 + (1 : Int32) → vX8_digest_44 post ex  n r_3 x3_4 σ_2)))))
set_option maxHeartbeats 4000000 in
set_option maxRecDepth 100000 in
theorem tX8_digest_44 {G : GT} {post : Int64 → Hp → Prop} {ex : Int64 → Hp → Prop} (hex : ∀ (z1 : Int64) (τ : Hp), ex z1 τ → WP G mX8_digest 71 [(0, .ref (G.1 0)), (1, .long z1)] [] τ (LL post)) : ∀ (n : Nat) (x1 : Int64) (x3 : Int32) (σ : Hp), vX8_digest_44 post ex  n x1 x3 σ → WP G mX8_digest 44 [(0, .ref (G.1 0)), (1, .long x1), (3, .int x3)] [] σ (LL post) := by
  intro n
  induction n with
  | zero => intro x1 x3 σ h; exact False.elim h
  | succ n ih =>
    intro x1 x3 σ h
    simp only [vX8_digest_44] at h
    refine wr_iload_n (pc := 44) (dget kX8_digest 24 rfl) 2 rfl ?_
    refine wr_aload_n (pc := 45) (dget kX8_digest 25 rfl) 0 rfl ?_
    refine wr_getRl (pc := 46) fl_X8_46 kd_0 fk_8_5 rt_0_5 (dget kX8_digest 26 rfl) ?_
    refine wr_getRl (pc := 49) fl_X8_118 kd_23 fk_2_1 rt_23_1 (dget kX8_digest 27 rfl) ?_
    refine wr_getI (pc := 52) (σ := σ) fl_X8_289 kd_24 fk_5_3 (dget kX8_digest 28 rfl) ?_
    refine wr_icmp_ge (pc := 55) (tgt := 71) (dget kX8_digest 29 rfl) (by decide) (fun c_1 => ?_) (fun c_1 => ?_)
    · have h := h.1 c_1
      refine wr_sub [0, 1] rfl ?_
      exact hex _ _ h
    · have h := h.2 c_1
      refine wr_aload_n (pc := 58) (dget kX8_digest 30 rfl) 0 rfl ?_
      refine wr_lload_n (pc := 59) (dget kX8_digest 31 rfl) 1 rfl ?_
      refine wr_iload_n (pc := 60) (dget kX8_digest 32 rfl) 2 rfl ?_
      refine wr_callVl (pc := 61) (Mc := mX8_digestShot) (o := 0) (rest := []) cf_X8_290 cv_X8_digestShot kd_0 rfl ⟨Nat.le_of_ble_eq_true rfl, Nat.le_of_ble_eq_true rfl⟩ rfl rfl (Nat.le_of_ble_eq_true rfl) (dget kX8_digest 33 rfl) (tX8_digestShot h) (fun r_3 σ_2 h => ?_)
      refine wr_lstore_n (pc := 64) (lv' := [(1, .long r_3), (0, .ref (G.1 0)), (3, .int x3)]) (dget kX8_digest 34 rfl) (by decide) rfl ?_
      obtain ⟨x3_4, e_x3_4⟩ : ∃ y : Int32, y = x3 + (1 : Int32) := ⟨_, rfl⟩
      have h := h x3_4 e_x3_4
      refine wr_iinc (pc := 65) (v := x3_4) (lv' := [(3, .int x3_4), (1, .long r_3), (0, .ref (G.1 0))]) (dget kX8_digest 35 rfl) 2 rfl (by rw [e_x3_4, ic_1]) (by decide) rfl ?_
      refine wr_goto (pc := 68) (tgt := 44) (dget kX8_digest 36 rfl) (by decide) ?_
      refine wr_sub [2, 1, 0] rfl ?_
      exact ih _ _ _ h
def vX8_digest_18 (post : Int64 → Hp → Prop) (ex : Int64 → Hp → Prop) : Nat → Int64 → Int32 → Hp → Prop
  | 0 => fun _ _ _ => False
  | n + 1 => fun x1 x3 σ => (((σ.1 2 5) ≤ x3 → (ex x1 σ)) ∧ (¬ (σ.1 2 5) ≤ x3 → (vX8_digestDuck x1 x3 σ (fun r_3 σ_2 => (∀ x3_4 : Int32, x3_4 = x3 + (1 : Int32) → vX8_digest_18 post ex  n r_3 x3_4 σ_2)))))
set_option maxHeartbeats 4000000 in
set_option maxRecDepth 100000 in
theorem tX8_digest_18 {G : GT} {post : Int64 → Hp → Prop} {ex : Int64 → Hp → Prop} (hex : ∀ (z1 : Int64) (τ : Hp), ex z1 τ → WP G mX8_digest 42 [(0, .ref (G.1 0)), (1, .long z1)] [] τ (LL post)) : ∀ (n : Nat) (x1 : Int64) (x3 : Int32) (σ : Hp), vX8_digest_18 post ex  n x1 x3 σ → WP G mX8_digest 18 [(0, .ref (G.1 0)), (1, .long x1), (3, .int x3)] [] σ (LL post) := by
  intro n
  induction n with
  | zero => intro x1 x3 σ h; exact False.elim h
  | succ n ih =>
    intro x1 x3 σ h
    simp only [vX8_digest_18] at h
    refine wr_iload_n (pc := 18) (dget kX8_digest 10 rfl) 2 rfl ?_
    refine wr_aload_n (pc := 19) (dget kX8_digest 11 rfl) 0 rfl ?_
    refine wr_getRl (pc := 20) fl_X8_18 kd_0 fk_8_1 rt_0_1 (dget kX8_digest 12 rfl) ?_
    refine wr_getI (pc := 23) (σ := σ) fl_X8_282 kd_2 fk_6_5 (dget kX8_digest 13 rfl) ?_
    refine wr_icmp_ge (pc := 26) (tgt := 42) (dget kX8_digest 14 rfl) (by decide) (fun c_1 => ?_) (fun c_1 => ?_)
    · have h := h.1 c_1
      refine wr_sub [0, 1] rfl ?_
      exact hex _ _ h
    · have h := h.2 c_1
      refine wr_aload_n (pc := 29) (dget kX8_digest 15 rfl) 0 rfl ?_
      refine wr_lload_n (pc := 30) (dget kX8_digest 16 rfl) 1 rfl ?_
      refine wr_iload_n (pc := 31) (dget kX8_digest 17 rfl) 2 rfl ?_
      refine wr_callVl (pc := 32) (Mc := mX8_digestDuck) (o := 0) (rest := []) cf_X8_285 cv_X8_digestDuck kd_0 rfl ⟨Nat.le_of_ble_eq_true rfl, Nat.le_of_ble_eq_true rfl⟩ rfl rfl (Nat.le_of_ble_eq_true rfl) (dget kX8_digest 18 rfl) (tX8_digestDuck h) (fun r_3 σ_2 h => ?_)
      refine wr_lstore_n (pc := 35) (lv' := [(1, .long r_3), (0, .ref (G.1 0)), (3, .int x3)]) (dget kX8_digest 19 rfl) (by decide) rfl ?_
      obtain ⟨x3_4, e_x3_4⟩ : ∃ y : Int32, y = x3 + (1 : Int32) := ⟨_, rfl⟩
      have h := h x3_4 e_x3_4
      refine wr_iinc (pc := 36) (v := x3_4) (lv' := [(3, .int x3_4), (1, .long r_3), (0, .ref (G.1 0))]) (dget kX8_digest 20 rfl) 2 rfl (by rw [e_x3_4, ic_1]) (by decide) rfl ?_
      refine wr_goto (pc := 39) (tgt := 18) (dget kX8_digest 21 rfl) (by decide) ?_
      refine wr_sub [2, 1, 0] rfl ?_
      exact ih _ _ _ h
def vX8_digest (σ : Hp) (post : Int64 → Hp → Prop) : Prop := (vX8_settle  σ (fun σ_1 => (vX8_learnChances  σ_1 (fun σ_3 => (vX8_digestTold (17 : Int64) σ_3 (fun r_6 σ_5 => (∃ fu : Nat, vX8_digest_18 post (fun z1_7 σ_8 => (∃ fu : Nat, vX8_digest_44 post (fun z1_9 σ_10 => (vX8_digestSums z1_9 σ_10 (fun r_12 σ_11 => (vX8_digestPlans r_12 σ_11 (fun r_14 σ_13 => post r_14 σ_13)))))  fu z1_7 (0 : Int32) σ_8))  fu r_6 (0 : Int32) σ_5)))))))
set_option maxHeartbeats 4000000 in
set_option maxRecDepth 100000 in
theorem tX8_digest {G : GT} {σ : Hp} {post : Int64 → Hp → Prop} (h : vX8_digest  σ post) : CT G mX8_digest [.ref (G.1 0)] σ (LL post) := by
  refine CT.of (by decide +kernel) (Nat.le_of_ble_eq_true rfl) ?_
  show WP G mX8_digest 0 [(0, .ref (G.1 0))] [] σ (LL post)
  unfold vX8_digest at h
  refine wr_aload_n (pc := 0) (dget kX8_digest 0 rfl) 0 rfl ?_
  refine wr_callVv (pc := 1) (Mc := mX8_settle) (o := 0) (rest := []) cf_X8_97 cv_X8_settle kd_0 rfl ⟨Nat.le_of_ble_eq_true rfl, Nat.le_of_ble_eq_true rfl⟩ rfl rfl (Nat.le_of_ble_eq_true rfl) (dget kX8_digest 1 rfl) (tX8_settle h) (fun σ_1 h => ?_)
  refine wr_aload_n (pc := 4) (dget kX8_digest 2 rfl) 0 rfl ?_
  refine wr_callVv (pc := 5) (Mc := mX8_learnChances) (o := 0) (rest := []) cf_X8_227 cv_X8_learnChances kd_0 rfl ⟨Nat.le_of_ble_eq_true rfl, Nat.le_of_ble_eq_true rfl⟩ rfl rfl (Nat.le_of_ble_eq_true rfl) (dget kX8_digest 3 rfl) (tX8_learnChances h) (fun σ_3 h => ?_)
  refine wr_aload_n (pc := 8) (dget kX8_digest 4 rfl) 0 rfl ?_
  refine wr_ldc2 (pc := 9) kl_X8_276 (dget kX8_digest 5 rfl) ?_
  refine wr_callVl (pc := 12) (Mc := mX8_digestTold) (o := 0) (rest := []) cf_X8_278 cv_X8_digestTold kd_0 rfl ⟨Nat.le_of_ble_eq_true rfl, Nat.le_of_ble_eq_true rfl⟩ rfl rfl (Nat.le_of_ble_eq_true rfl) (dget kX8_digest 6 rfl) (tX8_digestTold h) (fun r_6 σ_5 h => ?_)
  refine wr_lstore_n (pc := 15) (lv' := [(1, .long r_6), (0, .ref (G.1 0))]) (dget kX8_digest 7 rfl) (by decide) rfl ?_
  refine wr_iconst (pc := 16) (dget kX8_digest 8 rfl) ic_0 ?_
  refine wr_istore_n (pc := 17) (lv' := [(3, .int (0 : Int32)), (1, .long r_6), (0, .ref (G.1 0))]) (dget kX8_digest 9 rfl) (by decide) rfl ?_
  obtain ⟨fu, h⟩ := h
  refine wr_sub [2, 1, 0] rfl ?_
  refine tX8_digest_18 (fun z1_7 σ_8 h => ?_) fu _ _ _ h
  refine wr_iconst (pc := 42) (dget kX8_digest 22 rfl) ic_0 ?_
  refine wr_istore_n (pc := 43) (lv' := [(3, .int (0 : Int32)), (0, .ref (G.1 0)), (1, .long z1_7)]) (dget kX8_digest 23 rfl) (by decide) rfl ?_
  obtain ⟨fu, h⟩ := h
  refine wr_sub [1, 2, 0] rfl ?_
  refine tX8_digest_44 (fun z1_9 σ_10 h => ?_) fu _ _ _ h
  refine wr_aload_n (pc := 71) (dget kX8_digest 37 rfl) 0 rfl ?_
  refine wr_aload_n (pc := 72) (dget kX8_digest 38 rfl) 0 rfl ?_
  refine wr_lload_n (pc := 73) (dget kX8_digest 39 rfl) 1 rfl ?_
  refine wr_callVl (pc := 74) (Mc := mX8_digestSums) (o := 0) (rest := [.ref (G.1 0)]) cf_X8_293 cv_X8_digestSums kd_0 rfl ⟨Nat.le_of_ble_eq_true rfl, Nat.le_of_ble_eq_true rfl⟩ rfl rfl (Nat.le_of_ble_eq_true rfl) (dget kX8_digest 40 rfl) (tX8_digestSums h) (fun r_12 σ_11 h => ?_)
  refine wr_callVl (pc := 77) (Mc := mX8_digestPlans) (o := 0) (rest := []) cf_X8_296 cv_X8_digestPlans kd_0 rfl ⟨Nat.le_of_ble_eq_true rfl, Nat.le_of_ble_eq_true rfl⟩ rfl rfl (Nat.le_of_ble_eq_true rfl) (dget kX8_digest 41 rfl) (tX8_digestPlans h) (fun r_14 σ_13 h => ?_)
  exact wr_lret (pc := 80) rfl (dget kX8_digest 42 rfl) ⟨_, rfl, h⟩
