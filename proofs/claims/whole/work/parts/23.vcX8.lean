def vX8_tellCount (p1 : Int32) (σ : Hp) (post : Int32 → Hp → Prop) : Prop := ((p1 = (0 : Int32) → post (σ.1 2 5) σ) ∧ (¬ p1 = (0 : Int32) → ((p1 = (1 : Int32) → post (σ.1 24 3) σ) ∧ (¬ p1 = (1 : Int32) → ((p1 = (2 : Int32) → (vp_in (0 : Int32) 3 ∧ (kd (rt 1 (0 : Int32).toNatClampNeg) = 7 ∧ (vp_in (1 : Int32) 3 ∧ (kd (rt 1 (1 : Int32).toNatClampNeg) = 7 ∧ (vp_in (2 : Int32) 3 ∧ (kd (rt 1 (2 : Int32).toNatClampNeg) = 7 ∧ post (((σ.1 (rt 1 (0 : Int32).toNatClampNeg) 5) + (σ.1 (rt 1 (1 : Int32).toNatClampNeg) 5)) + (σ.1 (rt 1 (2 : Int32).toNatClampNeg) 5)) σ))))))) ∧ (¬ p1 = (2 : Int32) → ((p1 = (3 : Int32) → post (σ.1 10 4) σ) ∧ (¬ p1 = (3 : Int32) → ((p1 = (4 : Int32) → post (σ.1 23 11) σ) ∧ (¬ p1 = (4 : Int32) → ((p1 = (5 : Int32) → (vJ6_bitCount_0f7a4 (σ.1 23 12) σ (fun r_14 σ_13 => post r_14 σ_13))) ∧ (¬ p1 = (5 : Int32) → ((p1 = (6 : Int32) → (vp_in (23 : Int32) 24 ∧ (vJ6_bitCount_0f7a4 (σ.1 29 (23 : Int32).toNatClampNeg) σ (fun r_18 σ_17 => post r_18 σ_17)))) ∧ (¬ p1 = (6 : Int32) → ((p1 = (7 : Int32) → post (σ.1 47 3) σ) ∧ (¬ p1 = (7 : Int32) → ((p1 = (8 : Int32) → post (σ.1 0 15) σ) ∧ (¬ p1 = (8 : Int32) → post (-2 : Int32) σ))))))))))))))))))
set_option maxHeartbeats 4000000 in
set_option maxRecDepth 100000 in
theorem tX8_tellCount {G : GT} {p1 : Int32} {σ : Hp} {post : Int32 → Hp → Prop} (h : vX8_tellCount p1 σ post) : CT G mX8_tellCount [.ref (G.1 0), .int p1] σ (LI post) := by
  refine CT.of (by decide +kernel) (Nat.le_of_ble_eq_true rfl) ?_
  show WP G mX8_tellCount 0 [(0, .ref (G.1 0)), (1, .int p1)] [] σ (LI post)
  unfold vX8_tellCount at h
  refine wr_iload_n (pc := 0) (dget kX8_tellCount 0 rfl) 1 rfl ?_
  rcases Decidable.em (p1 = (0 : Int32)) with c_1 | c_1
  · have h := h.1 c_1
    refine wr_tabIn (pc := 1) (tgt := 52) (off := 51) (dget kX8_tellCount 1 rfl) (by rw [c_1]; decide) (by rw [c_1]; decide) (by rw [c_1]; rfl) (by decide) ?_
    refine wr_aload_n (pc := 52) (dget kX8_tellCount 2 rfl) 0 rfl ?_
    refine wr_getRl (pc := 53) fl_X8_18 kd_0 fk_8_1 rt_0_1 (dget kX8_tellCount 3 rfl) ?_
    refine wr_getI (pc := 56) (σ := σ) fl_X8_282 kd_2 fk_6_5 (dget kX8_tellCount 4 rfl) ?_
    exact wr_iret (pc := 59) rfl (dget kX8_tellCount 5 rfl) ⟨_, rfl, h⟩
  · have h := h.2 c_1
    rcases Decidable.em (p1 = (1 : Int32)) with c_2 | c_2
    · have h := h.1 c_2
      refine wr_tabIn (pc := 1) (tgt := 60) (off := 59) (dget kX8_tellCount 1 rfl) (by rw [c_2]; decide) (by rw [c_2]; decide) (by rw [c_2]; rfl) (by decide) ?_
      refine wr_aload_n (pc := 60) (dget kX8_tellCount 6 rfl) 0 rfl ?_
      refine wr_getRl (pc := 61) fl_X8_46 kd_0 fk_8_5 rt_0_5 (dget kX8_tellCount 7 rfl) ?_
      refine wr_getRl (pc := 64) fl_X8_118 kd_23 fk_2_1 rt_23_1 (dget kX8_tellCount 8 rfl) ?_
      refine wr_getI (pc := 67) (σ := σ) fl_X8_289 kd_24 fk_5_3 (dget kX8_tellCount 9 rfl) ?_
      exact wr_iret (pc := 70) rfl (dget kX8_tellCount 10 rfl) ⟨_, rfl, h⟩
    · have h := h.2 c_2
      rcases Decidable.em (p1 = (2 : Int32)) with c_3 | c_3
      · have h := h.1 c_3
        refine wr_tabIn (pc := 1) (tgt := 71) (off := 70) (dget kX8_tellCount 1 rfl) (by rw [c_3]; decide) (by rw [c_3]; decide) (by rw [c_3]; rfl) (by decide) ?_
        refine wr_aload_n (pc := 71) (dget kX8_tellCount 11 rfl) 0 rfl ?_
        refine wr_getRl (pc := 72) fl_X8_11 kd_0 fk_8_0 rt_0_0 (dget kX8_tellCount 12 rfl) ?_
        refine wr_iconst (pc := 75) (dget kX8_tellCount 13 rfl) ic_0 ?_
        obtain ⟨q_4, h⟩ := h
        refine wr_aaldl (pc := 76) (σ := σ) rl_1 q_4 (dget kX8_tellCount 14 rfl) ?_
        obtain ⟨q_5, h⟩ := h
        refine wr_getI (pc := 77) (σ := σ) fl_X8_93 q_5 fk_7_5 (dget kX8_tellCount 15 rfl) ?_
        refine wr_aload_n (pc := 80) (dget kX8_tellCount 16 rfl) 0 rfl ?_
        refine wr_getRl (pc := 81) fl_X8_11 kd_0 fk_8_0 rt_0_0 (dget kX8_tellCount 17 rfl) ?_
        refine wr_iconst (pc := 84) (dget kX8_tellCount 18 rfl) ic_1 ?_
        obtain ⟨q_6, h⟩ := h
        refine wr_aaldl (pc := 85) (σ := σ) rl_1 q_6 (dget kX8_tellCount 19 rfl) ?_
        obtain ⟨q_7, h⟩ := h
        refine wr_getI (pc := 86) (σ := σ) fl_X8_93 q_7 fk_7_5 (dget kX8_tellCount 20 rfl) ?_
        refine wr_iadd (pc := 89) (dget kX8_tellCount 21 rfl) ?_
        refine wr_aload_n (pc := 90) (dget kX8_tellCount 22 rfl) 0 rfl ?_
        refine wr_getRl (pc := 91) fl_X8_11 kd_0 fk_8_0 rt_0_0 (dget kX8_tellCount 23 rfl) ?_
        refine wr_iconst (pc := 94) (dget kX8_tellCount 24 rfl) ic_2 ?_
        obtain ⟨q_8, h⟩ := h
        refine wr_aaldl (pc := 95) (σ := σ) rl_1 q_8 (dget kX8_tellCount 25 rfl) ?_
        obtain ⟨q_9, h⟩ := h
        refine wr_getI (pc := 96) (σ := σ) fl_X8_93 q_9 fk_7_5 (dget kX8_tellCount 26 rfl) ?_
        refine wr_iadd (pc := 99) (dget kX8_tellCount 27 rfl) ?_
        exact wr_iret (pc := 100) rfl (dget kX8_tellCount 28 rfl) ⟨_, rfl, h⟩
      · have h := h.2 c_3
        rcases Decidable.em (p1 = (3 : Int32)) with c_10 | c_10
        · have h := h.1 c_10
          refine wr_tabIn (pc := 1) (tgt := 101) (off := 100) (dget kX8_tellCount 1 rfl) (by rw [c_10]; decide) (by rw [c_10]; decide) (by rw [c_10]; rfl) (by decide) ?_
          refine wr_aload_n (pc := 101) (dget kX8_tellCount 29 rfl) 0 rfl ?_
          refine wr_getRl (pc := 102) fl_X8_25 kd_0 fk_8_2 rt_0_2 (dget kX8_tellCount 30 rfl) ?_
          refine wr_getI (pc := 105) (σ := σ) fl_X8_141 kd_10 fk_1_4 (dget kX8_tellCount 31 rfl) ?_
          exact wr_iret (pc := 108) rfl (dget kX8_tellCount 32 rfl) ⟨_, rfl, h⟩
        · have h := h.2 c_10
          rcases Decidable.em (p1 = (4 : Int32)) with c_11 | c_11
          · have h := h.1 c_11
            refine wr_tabIn (pc := 1) (tgt := 109) (off := 108) (dget kX8_tellCount 1 rfl) (by rw [c_11]; decide) (by rw [c_11]; decide) (by rw [c_11]; rfl) (by decide) ?_
            refine wr_aload_n (pc := 109) (dget kX8_tellCount 33 rfl) 0 rfl ?_
            refine wr_getRl (pc := 110) fl_X8_46 kd_0 fk_8_5 rt_0_5 (dget kX8_tellCount 34 rfl) ?_
            refine wr_getI (pc := 113) (σ := σ) fl_X8_341 kd_23 fk_2_11 (dget kX8_tellCount 35 rfl) ?_
            exact wr_iret (pc := 116) rfl (dget kX8_tellCount 36 rfl) ⟨_, rfl, h⟩
          · have h := h.2 c_11
            rcases Decidable.em (p1 = (5 : Int32)) with c_12 | c_12
            · have h := h.1 c_12
              refine wr_tabIn (pc := 1) (tgt := 117) (off := 116) (dget kX8_tellCount 1 rfl) (by rw [c_12]; decide) (by rw [c_12]; decide) (by rw [c_12]; rfl) (by decide) ?_
              refine wr_aload_n (pc := 117) (dget kX8_tellCount 37 rfl) 0 rfl ?_
              refine wr_getRl (pc := 118) fl_X8_46 kd_0 fk_8_5 rt_0_5 (dget kX8_tellCount 38 rfl) ?_
              refine wr_getI (pc := 121) (σ := σ) fl_X8_344 kd_23 fk_2_12 (dget kX8_tellCount 39 rfl) ?_
              refine wr_callSi (pc := 124) (Mc := mJ6_bitCount_0f7a4) (rest := []) cf_X8_168 cs_J6_bitCount_0f7a4 ⟨Nat.le_of_ble_eq_true rfl, Nat.le_of_ble_eq_true rfl⟩ rfl rfl (Nat.le_of_ble_eq_true rfl) (dget kX8_tellCount 40 rfl) (tJ6_bitCount_0f7a4 h) (fun r_14 σ_13 h => ?_)
              exact wr_iret (pc := 127) rfl (dget kX8_tellCount 41 rfl) ⟨_, rfl, h⟩
            · have h := h.2 c_12
              rcases Decidable.em (p1 = (6 : Int32)) with c_15 | c_15
              · have h := h.1 c_15
                refine wr_tabIn (pc := 1) (tgt := 128) (off := 127) (dget kX8_tellCount 1 rfl) (by rw [c_15]; decide) (by rw [c_15]; decide) (by rw [c_15]; rfl) (by decide) ?_
                refine wr_aload_n (pc := 128) (dget kX8_tellCount 42 rfl) 0 rfl ?_
                refine wr_getRl (pc := 129) fl_X8_46 kd_0 fk_8_5 rt_0_5 (dget kX8_tellCount 43 rfl) ?_
                refine wr_getRl (pc := 132) fl_X8_165 kd_23 fk_2_6 rt_23_6 (dget kX8_tellCount 44 rfl) ?_
                refine wr_bipush (pc := 135) (dget kX8_tellCount 45 rfl) bp_23 ?_
                obtain ⟨q_16, h⟩ := h
                refine wr_ialdl (pc := 137) (σ := σ) il_29 q_16 (dget kX8_tellCount 46 rfl) ?_
                refine wr_callSi (pc := 138) (Mc := mJ6_bitCount_0f7a4) (rest := []) cf_X8_168 cs_J6_bitCount_0f7a4 ⟨Nat.le_of_ble_eq_true rfl, Nat.le_of_ble_eq_true rfl⟩ rfl rfl (Nat.le_of_ble_eq_true rfl) (dget kX8_tellCount 47 rfl) (tJ6_bitCount_0f7a4 h) (fun r_18 σ_17 h => ?_)
                exact wr_iret (pc := 141) rfl (dget kX8_tellCount 48 rfl) ⟨_, rfl, h⟩
              · have h := h.2 c_15
                rcases Decidable.em (p1 = (7 : Int32)) with c_19 | c_19
                · have h := h.1 c_19
                  refine wr_tabIn (pc := 1) (tgt := 142) (off := 141) (dget kX8_tellCount 1 rfl) (by rw [c_19]; decide) (by rw [c_19]; decide) (by rw [c_19]; rfl) (by decide) ?_
                  refine wr_aload_n (pc := 142) (dget kX8_tellCount 49 rfl) 0 rfl ?_
                  refine wr_getRl (pc := 143) fl_X8_56 kd_0 fk_8_7 rt_0_7 (dget kX8_tellCount 50 rfl) ?_
                  refine wr_getI (pc := 146) (σ := σ) fl_X8_212 kd_47 fk_3_3 (dget kX8_tellCount 51 rfl) ?_
                  exact wr_iret (pc := 149) rfl (dget kX8_tellCount 52 rfl) ⟨_, rfl, h⟩
                · have h := h.2 c_19
                  rcases Decidable.em (p1 = (8 : Int32)) with c_20 | c_20
                  · have h := h.1 c_20
                    refine wr_tabIn (pc := 1) (tgt := 150) (off := 149) (dget kX8_tellCount 1 rfl) (by rw [c_20]; decide) (by rw [c_20]; decide) (by rw [c_20]; rfl) (by decide) ?_
                    refine wr_aload_n (pc := 150) (dget kX8_tellCount 53 rfl) 0 rfl ?_
                    refine wr_getI (pc := 151) (σ := σ) fl_X8_311 kd_0 fk_8_15 (dget kX8_tellCount 54 rfl) ?_
                    exact wr_iret (pc := 154) rfl (dget kX8_tellCount 55 rfl) ⟨_, rfl, h⟩
                  · have h := h.2 c_20
                    refine wr_tabOut (pc := 1) (tgt := 155) (dget kX8_tellCount 1 rfl) (by have := sw_ne c_1 (by decide : ((0 : Int32)).toInt = 0); have := sw_ne c_2 (by decide : ((1 : Int32)).toInt = 1); have := sw_ne c_3 (by decide : ((2 : Int32)).toInt = 2); have := sw_ne c_10 (by decide : ((3 : Int32)).toInt = 3); have := sw_ne c_11 (by decide : ((4 : Int32)).toInt = 4); have := sw_ne c_12 (by decide : ((5 : Int32)).toInt = 5); have := sw_ne c_15 (by decide : ((6 : Int32)).toInt = 6); have := sw_ne c_19 (by decide : ((7 : Int32)).toInt = 7); have := sw_ne c_20 (by decide : ((8 : Int32)).toInt = 8); omega) (by decide) ?_
                    refine wr_bipush (pc := 155) (dget kX8_tellCount 56 rfl) bp_m2 ?_
                    exact wr_iret (pc := 157) rfl (dget kX8_tellCount 57 rfl) ⟨_, rfl, h⟩
def vX8_count (p1 : Int32) (σ : Hp) (post : Int32 → Hp → Prop) : Prop := (vX8_settle  σ (fun σ_1 => (vX8_tellCount p1 σ_1 (fun r_4 σ_3 => post r_4 σ_3))))
set_option maxHeartbeats 4000000 in
set_option maxRecDepth 100000 in
theorem tX8_count {G : GT} {p1 : Int32} {σ : Hp} {post : Int32 → Hp → Prop} (h : vX8_count p1 σ post) : CT G mX8_count [.ref (G.1 0), .int p1] σ (LI post) := by
  refine CT.of (by decide +kernel) (Nat.le_of_ble_eq_true rfl) ?_
  show WP G mX8_count 0 [(0, .ref (G.1 0)), (1, .int p1)] [] σ (LI post)
  unfold vX8_count at h
  refine wr_aload_n (pc := 0) (dget kX8_count 0 rfl) 0 rfl ?_
  refine wr_callVv (pc := 1) (Mc := mX8_settle) (o := 0) (rest := []) cf_X8_97 cv_X8_settle kd_0 rfl ⟨Nat.le_of_ble_eq_true rfl, Nat.le_of_ble_eq_true rfl⟩ rfl rfl (Nat.le_of_ble_eq_true rfl) (dget kX8_count 1 rfl) (tX8_settle h) (fun σ_1 h => ?_)
  refine wr_aload_n (pc := 4) (dget kX8_count 2 rfl) 0 rfl ?_
  refine wr_iload_n (pc := 5) (dget kX8_count 3 rfl) 1 rfl ?_
  refine wr_callVi (pc := 6) (Mc := mX8_tellCount) (o := 0) (rest := []) cf_X8_273 cv_X8_tellCount kd_0 rfl ⟨Nat.le_of_ble_eq_true rfl, Nat.le_of_ble_eq_true rfl⟩ rfl rfl (Nat.le_of_ble_eq_true rfl) (dget kX8_count 4 rfl) (tX8_tellCount h) (fun r_4 σ_3 h => ?_)
  exact wr_iret (pc := 9) rfl (dget kX8_count 5 rfl) ⟨_, rfl, h⟩
def vX8_mix (p1 : Int64) (p2 : Int64) (σ : Hp) (post : Int64 → Hp → Prop) : Prop := post (((31 : Int64) * p1) + p2) σ
set_option maxHeartbeats 4000000 in
set_option maxRecDepth 100000 in
theorem tX8_mix {G : GT} {p1 : Int64} {p2 : Int64} {σ : Hp} {post : Int64 → Hp → Prop} (h : vX8_mix p1 p2 σ post) : CT G mX8_mix [.long p1, .long p2] σ (LL post) := by
  refine CT.of (by decide +kernel) (Nat.le_of_ble_eq_true rfl) ?_
  show WP G mX8_mix 0 [(0, .long p1), (2, .long p2)] [] σ (LL post)
  unfold vX8_mix at h
  refine wr_ldc2 (pc := 0) kl_X8_299 (dget kX8_mix 0 rfl) ?_
  refine wr_lload_n (pc := 3) (dget kX8_mix 1 rfl) 0 rfl ?_
  refine wr_lmul (pc := 4) (dget kX8_mix 2 rfl) ?_
  refine wr_lload_n (pc := 5) (dget kX8_mix 3 rfl) 1 rfl ?_
  refine wr_ladd (pc := 6) (dget kX8_mix 4 rfl) ?_
  exact wr_lret (pc := 7) rfl (dget kX8_mix 5 rfl) ⟨_, rfl, h⟩
def vX8_digestDuck_66 (post : Int64 → Hp → Prop) (ex : Int64 → Hp → Prop) (x3 : Int32) (x7 : Int32) (x8 : Int32) (x9 : Int32) : Nat → Int64 → Int32 → Hp → Prop
  | 0 => fun _ _ _ => False
  | n + 1 => fun x4 x10 σ => (((2 : Int32) < x10 → (ex x4 σ)) ∧ (¬ (2 : Int32) < x10 → (vX2_tellDuckBehind 23 x9 x3 x10 σ (fun r_3 σ_2 => (vX8_mix x4 r_3.toInt64 σ_2 (fun r_5 σ_4 => (∀ x10_6 : Int32, x10_6 = x10 + (1 : Int32) → vX8_digestDuck_66 post ex x3 x7 x8 x9 n r_5 x10_6 σ_4)))))))
set_option maxHeartbeats 4000000 in
set_option maxRecDepth 100000 in
theorem tX8_digestDuck_66 {G : GT} {post : Int64 → Hp → Prop} {ex : Int64 → Hp → Prop} {x3 : Int32} {x7 : Int32} {x8 : Int32} {x9 : Int32} (hex : ∀ (z4 : Int64) (τ : Hp), ex z4 τ → WP G mX8_digestDuck 98 [(0, .ref (G.1 0)), (3, .int x3), (4, .long z4), (6, .ref (G.1 200)), (7, .int x7), (8, .int x8)] [] τ (LL post)) : ∀ (n : Nat) (x4 : Int64) (x10 : Int32) (σ : Hp), vX8_digestDuck_66 post ex x3 x7 x8 x9 n x4 x10 σ → WP G mX8_digestDuck 66 [(0, .ref (G.1 0)), (3, .int x3), (4, .long x4), (6, .ref (G.1 200)), (7, .int x7), (8, .int x8), (9, .int x9), (10, .int x10)] [] σ (LL post) := by
  intro n
  induction n with
  | zero => intro x4 x10 σ h; exact False.elim h
  | succ n ih =>
    intro x4 x10 σ h
    simp only [vX8_digestDuck_66] at h
    refine wr_iload (pc := 66) (dget kX8_digestDuck 34 rfl) 7 rfl ?_
    refine wr_iconst (pc := 68) (dget kX8_digestDuck 35 rfl) ic_2 ?_
    refine wr_icmp_gt (pc := 69) (tgt := 98) (dget kX8_digestDuck 36 rfl) (by decide) (fun c_1 => ?_) (fun c_1 => ?_)
    · have h := h.1 c_1
      refine wr_sub [0, 1, 2, 3, 4, 5] rfl ?_
      exact hex _ _ h
    · have h := h.2 c_1
      refine wr_lload (pc := 72) (dget kX8_digestDuck 37 rfl) 2 rfl ?_
      refine wr_aload_n (pc := 74) (dget kX8_digestDuck 38 rfl) 0 rfl ?_
      refine wr_getRl (pc := 75) fl_X8_46 kd_0 fk_8_5 rt_0_5 (dget kX8_digestDuck 39 rfl) ?_
      refine wr_iload (pc := 78) (dget kX8_digestDuck 40 rfl) 6 rfl ?_
      refine wr_iload_n (pc := 80) (dget kX8_digestDuck 41 rfl) 1 rfl ?_
      refine wr_iload (pc := 81) (dget kX8_digestDuck 42 rfl) 7 rfl ?_
      refine wr_callVi (pc := 83) (Mc := mX2_tellDuckBehind) (o := 23) (rest := [.long x4]) cf_X8_159 cv_X2_tellDuckBehind kd_23 rfl ⟨Nat.le_of_ble_eq_true rfl, Nat.le_of_ble_eq_true rfl⟩ rfl rfl (Nat.le_of_ble_eq_true rfl) (dget kX8_digestDuck 43 rfl) (tX2_tellDuckBehind h) (fun r_3 σ_2 h => ?_)
      refine wr_i2l (pc := 86) (dget kX8_digestDuck 44 rfl) rfl ?_
      refine wr_callSl (pc := 87) (Mc := mX8_mix) (rest := []) cf_X8_301 cs_X8_mix ⟨Nat.le_of_ble_eq_true rfl, Nat.le_of_ble_eq_true rfl⟩ rfl rfl (Nat.le_of_ble_eq_true rfl) (dget kX8_digestDuck 45 rfl) (tX8_mix h) (fun r_5 σ_4 h => ?_)
      refine wr_lstore (pc := 90) (lv' := [(4, .long r_5), (0, .ref (G.1 0)), (3, .int x3), (6, .ref (G.1 200)), (7, .int x7), (8, .int x8), (9, .int x9), (10, .int x10)]) (dget kX8_digestDuck 46 rfl) (by decide) rfl ?_
      obtain ⟨x10_6, e_x10_6⟩ : ∃ y : Int32, y = x10 + (1 : Int32) := ⟨_, rfl⟩
      have h := h x10_6 e_x10_6
      refine wr_iinc (pc := 92) (v := x10_6) (lv' := [(10, .int x10_6), (4, .long r_5), (0, .ref (G.1 0)), (3, .int x3), (6, .ref (G.1 200)), (7, .int x7), (8, .int x8), (9, .int x9)]) (dget kX8_digestDuck 47 rfl) 7 rfl (by rw [e_x10_6, ic_1]) (by decide) rfl ?_
      refine wr_goto (pc := 95) (tgt := 66) (dget kX8_digestDuck 48 rfl) (by decide) ?_
      refine wr_sub [2, 3, 1, 4, 5, 6, 7, 0] rfl ?_
      exact ih _ _ _ h
def vX8_digestDuck_49 (post : Int64 → Hp → Prop) (ex : Int64 → Hp → Prop) (x3 : Int32) (x7 : Int32) : Nat → Int64 → Int32 → Hp → Prop
  | 0 => fun _ _ _ => False
  | n + 1 => fun x4 x8 σ => ((x7 ≤ x8 → (ex x4 σ)) ∧ (¬ x7 ≤ x8 → (vp_in x8 4 ∧ (∀ x9_3 : Int32, x9_3 = (dtk x8.toNatClampNeg) → (∃ fu : Nat, vX8_digestDuck_66 post (fun z4_4 σ_5 => (∀ x8_6 : Int32, x8_6 = x8 + (1 : Int32) → vX8_digestDuck_49 post ex x3 x7 n z4_4 x8_6 σ_5)) x3 x7 x8 x9_3 fu x4 (0 : Int32) σ)))))
set_option maxHeartbeats 4000000 in
set_option maxRecDepth 100000 in
theorem tX8_digestDuck_49 {G : GT} {post : Int64 → Hp → Prop} {ex : Int64 → Hp → Prop} {x3 : Int32} {x7 : Int32} (hex : ∀ (z4 : Int64) (τ : Hp), ex z4 τ → WP G mX8_digestDuck 104 [(0, .ref (G.1 0)), (3, .int x3), (4, .long z4)] [] τ (LL post)) : ∀ (n : Nat) (x4 : Int64) (x8 : Int32) (σ : Hp), vX8_digestDuck_49 post ex x3 x7 n x4 x8 σ → WP G mX8_digestDuck 49 [(0, .ref (G.1 0)), (3, .int x3), (4, .long x4), (6, .ref (G.1 200)), (7, .int x7), (8, .int x8)] [] σ (LL post) := by
  intro n
  induction n with
  | zero => intro x4 x8 σ h; exact False.elim h
  | succ n ih =>
    intro x4 x8 σ h
    simp only [vX8_digestDuck_49] at h
    refine wr_iload (pc := 49) (dget kX8_digestDuck 25 rfl) 5 rfl ?_
    refine wr_iload (pc := 51) (dget kX8_digestDuck 26 rfl) 4 rfl ?_
    refine wr_icmp_ge (pc := 53) (tgt := 104) (dget kX8_digestDuck 27 rfl) (by decide) (fun c_1 => ?_) (fun c_1 => ?_)
    · have h := h.1 c_1
      refine wr_sub [0, 1, 2] rfl ?_
      exact hex _ _ h
    · have h := h.2 c_1
      refine wr_aload (pc := 56) (dget kX8_digestDuck 28 rfl) 3 rfl ?_
      refine wr_iload (pc := 58) (dget kX8_digestDuck 29 rfl) 5 rfl ?_
      obtain ⟨q_2, h⟩ := h
      refine wr_dld (pc := 60) q_2 (dget kX8_digestDuck 30 rfl) ?_
      refine wr_topi (fun x9_3 e_x9_3 => ?_)
      have h := h x9_3 e_x9_3
      refine wr_istore (pc := 61) (lv' := [(9, .int x9_3), (0, .ref (G.1 0)), (3, .int x3), (4, .long x4), (6, .ref (G.1 200)), (7, .int x7), (8, .int x8)]) (dget kX8_digestDuck 31 rfl) (by decide) rfl ?_
      refine wr_iconst (pc := 63) (dget kX8_digestDuck 32 rfl) ic_0 ?_
      refine wr_istore (pc := 64) (lv' := [(10, .int (0 : Int32)), (9, .int x9_3), (0, .ref (G.1 0)), (3, .int x3), (4, .long x4), (6, .ref (G.1 200)), (7, .int x7), (8, .int x8)]) (dget kX8_digestDuck 33 rfl) (by decide) rfl ?_
      obtain ⟨fu, h⟩ := h
      refine wr_sub [2, 3, 4, 5, 6, 7, 1, 0] rfl ?_
      refine tX8_digestDuck_66 (fun z4_4 σ_5 h => ?_) fu _ _ _ h
      obtain ⟨x8_6, e_x8_6⟩ : ∃ y : Int32, y = x8 + (1 : Int32) := ⟨_, rfl⟩
      have h := h x8_6 e_x8_6
      refine wr_iinc (pc := 98) (v := x8_6) (lv' := [(8, .int x8_6), (0, .ref (G.1 0)), (3, .int x3), (4, .long z4_4), (6, .ref (G.1 200)), (7, .int x7)]) (dget kX8_digestDuck 49 rfl) 5 rfl (by rw [e_x8_6, ic_1]) (by decide) rfl ?_
      refine wr_goto (pc := 101) (tgt := 49) (dget kX8_digestDuck 50 rfl) (by decide) ?_
      refine wr_sub [1, 2, 3, 4, 5, 0] rfl ?_
      exact ih _ _ _ h
def vX8_digestDuck_6 (post : Int64 → Hp → Prop) (ex : Int64 → Hp → Prop) (x3 : Int32) : Nat → Int64 → Int32 → Hp → Prop
  | 0 => fun _ _ _ => False
  | n + 1 => fun x4 x6 σ => (((3 : Int32) < x6 → (ex x4 σ)) ∧ (¬ (3 : Int32) < x6 → (vX6_tellDuck x3 x6 σ (fun r_3 σ_2 => (vX8_mix x4 r_3.toInt64 σ_2 (fun r_5 σ_4 => (∀ x6_6 : Int32, x6_6 = x6 + (1 : Int32) → vX8_digestDuck_6 post ex x3 n r_5 x6_6 σ_4)))))))
set_option maxHeartbeats 4000000 in
set_option maxRecDepth 100000 in
theorem tX8_digestDuck_6 {G : GT} {post : Int64 → Hp → Prop} {ex : Int64 → Hp → Prop} {x3 : Int32} (hex : ∀ (z4 : Int64) (τ : Hp), ex z4 τ → WP G mX8_digestDuck 36 [(0, .ref (G.1 0)), (3, .int x3), (4, .long z4)] [] τ (LL post)) : ∀ (n : Nat) (x4 : Int64) (x6 : Int32) (σ : Hp), vX8_digestDuck_6 post ex x3 n x4 x6 σ → WP G mX8_digestDuck 6 [(0, .ref (G.1 0)), (3, .int x3), (4, .long x4), (6, .int x6)] [] σ (LL post) := by
  intro n
  induction n with
  | zero => intro x4 x6 σ h; exact False.elim h
  | succ n ih =>
    intro x4 x6 σ h
    simp only [vX8_digestDuck_6] at h
    refine wr_iload (pc := 6) (dget kX8_digestDuck 4 rfl) 3 rfl ?_
    refine wr_iconst (pc := 8) (dget kX8_digestDuck 5 rfl) ic_3 ?_
    refine wr_icmp_gt (pc := 9) (tgt := 36) (dget kX8_digestDuck 6 rfl) (by decide) (fun c_1 => ?_) (fun c_1 => ?_)
    · have h := h.1 c_1
      refine wr_sub [0, 1, 2] rfl ?_
      exact hex _ _ h
    · have h := h.2 c_1
      refine wr_lload (pc := 12) (dget kX8_digestDuck 7 rfl) 2 rfl ?_
      refine wr_aload_n (pc := 14) (dget kX8_digestDuck 8 rfl) 0 rfl ?_
      refine wr_getRl (pc := 15) fl_X8_18 kd_0 fk_8_1 rt_0_1 (dget kX8_digestDuck 9 rfl) ?_
      refine wr_iload_n (pc := 18) (dget kX8_digestDuck 10 rfl) 1 rfl ?_
      refine wr_iload (pc := 19) (dget kX8_digestDuck 11 rfl) 3 rfl ?_
      refine wr_callVi (pc := 21) (Mc := mX6_tellDuck) (o := 2) (rest := [.long x4]) cf_X8_111 cv_X6_tellDuck kd_2 rfl ⟨Nat.le_of_ble_eq_true rfl, Nat.le_of_ble_eq_true rfl⟩ rfl rfl (Nat.le_of_ble_eq_true rfl) (dget kX8_digestDuck 12 rfl) (tX6_tellDuck h) (fun r_3 σ_2 h => ?_)
      refine wr_i2l (pc := 24) (dget kX8_digestDuck 13 rfl) rfl ?_
      refine wr_callSl (pc := 25) (Mc := mX8_mix) (rest := []) cf_X8_301 cs_X8_mix ⟨Nat.le_of_ble_eq_true rfl, Nat.le_of_ble_eq_true rfl⟩ rfl rfl (Nat.le_of_ble_eq_true rfl) (dget kX8_digestDuck 14 rfl) (tX8_mix h) (fun r_5 σ_4 h => ?_)
      refine wr_lstore (pc := 28) (lv' := [(4, .long r_5), (0, .ref (G.1 0)), (3, .int x3), (6, .int x6)]) (dget kX8_digestDuck 15 rfl) (by decide) rfl ?_
      obtain ⟨x6_6, e_x6_6⟩ : ∃ y : Int32, y = x6 + (1 : Int32) := ⟨_, rfl⟩
      have h := h x6_6 e_x6_6
      refine wr_iinc (pc := 30) (v := x6_6) (lv' := [(6, .int x6_6), (4, .long r_5), (0, .ref (G.1 0)), (3, .int x3)]) (dget kX8_digestDuck 16 rfl) 3 rfl (by rw [e_x6_6, ic_1]) (by decide) rfl ?_
      refine wr_goto (pc := 33) (tgt := 6) (dget kX8_digestDuck 17 rfl) (by decide) ?_
      refine wr_sub [2, 3, 1, 0] rfl ?_
      exact ih _ _ _ h
def vX8_digestDuck (p1 : Int64) (p2 : Int32) (σ : Hp) (post : Int64 → Hp → Prop) : Prop := (∃ fu : Nat, vX8_digestDuck_6 post (fun z4_1 σ_2 => (∃ fu : Nat, vX8_digestDuck_49 post (fun z4_3 σ_4 => (vX8_kindsThatMightBe p2 σ_4 (fun r_6 σ_5 => (vX8_mix z4_3 r_6.toInt64 σ_5 (fun r_8 σ_7 => post r_8 σ_7))))) p2 (4 : Int32) fu z4_1 (0 : Int32) σ_2)) p2 fu p1 (0 : Int32) σ)
set_option maxHeartbeats 4000000 in
set_option maxRecDepth 100000 in
theorem tX8_digestDuck {G : GT} {p1 : Int64} {p2 : Int32} {σ : Hp} {post : Int64 → Hp → Prop} (h : vX8_digestDuck p1 p2 σ post) : CT G mX8_digestDuck [.ref (G.1 0), .long p1, .int p2] σ (LL post) := by
  refine CT.of (by decide +kernel) (Nat.le_of_ble_eq_true rfl) ?_
  show WP G mX8_digestDuck 0 [(0, .ref (G.1 0)), (1, .long p1), (3, .int p2)] [] σ (LL post)
  unfold vX8_digestDuck at h
  refine wr_lload_n (pc := 0) (dget kX8_digestDuck 0 rfl) 1 rfl ?_
  refine wr_lstore (pc := 1) (lv' := [(4, .long p1), (0, .ref (G.1 0)), (1, .long p1), (3, .int p2)]) (dget kX8_digestDuck 1 rfl) (by decide) rfl ?_
  refine wr_iconst (pc := 3) (dget kX8_digestDuck 2 rfl) ic_0 ?_
  refine wr_istore (pc := 4) (lv' := [(6, .int (0 : Int32)), (4, .long p1), (0, .ref (G.1 0)), (1, .long p1), (3, .int p2)]) (dget kX8_digestDuck 3 rfl) (by decide) rfl ?_
  obtain ⟨fu, h⟩ := h
  refine wr_sub [2, 4, 1, 0] rfl ?_
  refine tX8_digestDuck_6 (fun z4_1 σ_2 h => ?_) fu _ _ _ h
  refine wr_getsD (pc := 36) rfl dgl (dget kX8_digestDuck 18 rfl) ?_
  refine wr_astore (pc := 39) (lv' := [(6, .ref (G.1 200)), (0, .ref (G.1 0)), (3, .int p2), (4, .long z4_1)]) (dget kX8_digestDuck 19 rfl) (by decide) rfl ?_
  refine wr_aload (pc := 41) (dget kX8_digestDuck 20 rfl) 0 rfl ?_
  refine wr_dlen (pc := 43) (dget kX8_digestDuck 21 rfl) ?_
  refine wr_istore (pc := 44) (lv' := [(7, .int (4 : Int32)), (6, .ref (G.1 200)), (0, .ref (G.1 0)), (3, .int p2), (4, .long z4_1)]) (dget kX8_digestDuck 22 rfl) (by decide) rfl ?_
  refine wr_iconst (pc := 46) (dget kX8_digestDuck 23 rfl) ic_0 ?_
  refine wr_istore (pc := 47) (lv' := [(8, .int (0 : Int32)), (7, .int (4 : Int32)), (6, .ref (G.1 200)), (0, .ref (G.1 0)), (3, .int p2), (4, .long z4_1)]) (dget kX8_digestDuck 24 rfl) (by decide) rfl ?_
  obtain ⟨fu, h⟩ := h
  refine wr_sub [3, 4, 5, 2, 1, 0] rfl ?_
  refine tX8_digestDuck_49 (fun z4_3 σ_4 h => ?_) fu _ _ _ h
  refine wr_lload (pc := 104) (dget kX8_digestDuck 51 rfl) 2 rfl ?_
  refine wr_aload_n (pc := 106) (dget kX8_digestDuck 52 rfl) 0 rfl ?_
  refine wr_iload_n (pc := 107) (dget kX8_digestDuck 53 rfl) 1 rfl ?_
  refine wr_callVi (pc := 108) (Mc := mX8_kindsThatMightBe) (o := 0) (rest := [.long z4_3]) cf_X8_219 cv_X8_kindsThatMightBe kd_0 rfl ⟨Nat.le_of_ble_eq_true rfl, Nat.le_of_ble_eq_true rfl⟩ rfl rfl (Nat.le_of_ble_eq_true rfl) (dget kX8_digestDuck 54 rfl) (tX8_kindsThatMightBe h) (fun r_6 σ_5 h => ?_)
  refine wr_i2l (pc := 111) (dget kX8_digestDuck 55 rfl) rfl ?_
  refine wr_callSl (pc := 112) (Mc := mX8_mix) (rest := []) cf_X8_301 cs_X8_mix ⟨Nat.le_of_ble_eq_true rfl, Nat.le_of_ble_eq_true rfl⟩ rfl rfl (Nat.le_of_ble_eq_true rfl) (dget kX8_digestDuck 56 rfl) (tX8_mix h) (fun r_8 σ_7 h => ?_)
  exact wr_lret (pc := 115) rfl (dget kX8_digestDuck 57 rfl) ⟨_, rfl, h⟩
def vX8_mixFound (p1 : Int64) (σ : Hp) (post : Int64 → Hp → Prop) : Prop := (vX8_mix p1 ((σ.1 0 13)).toInt64 σ (fun r_2 σ_1 => (vX8_mix r_2 ((σ_1.1 0 14)).toInt64 σ_1 (fun r_4 σ_3 => post r_4 σ_3))))
set_option maxHeartbeats 4000000 in
set_option maxRecDepth 100000 in
theorem tX8_mixFound {G : GT} {p1 : Int64} {σ : Hp} {post : Int64 → Hp → Prop} (h : vX8_mixFound p1 σ post) : CT G mX8_mixFound [.ref (G.1 0), .long p1] σ (LL post) := by
  refine CT.of (by decide +kernel) (Nat.le_of_ble_eq_true rfl) ?_
  show WP G mX8_mixFound 0 [(0, .ref (G.1 0)), (1, .long p1)] [] σ (LL post)
  unfold vX8_mixFound at h
  refine wr_lload_n (pc := 0) (dget kX8_mixFound 0 rfl) 1 rfl ?_
  refine wr_aload_n (pc := 1) (dget kX8_mixFound 1 rfl) 0 rfl ?_
  refine wr_getI (pc := 2) (σ := σ) fl_X8_185 kd_0 fk_8_13 (dget kX8_mixFound 2 rfl) ?_
  refine wr_i2l (pc := 5) (dget kX8_mixFound 3 rfl) rfl ?_
  refine wr_callSl (pc := 6) (Mc := mX8_mix) (rest := []) cf_X8_301 cs_X8_mix ⟨Nat.le_of_ble_eq_true rfl, Nat.le_of_ble_eq_true rfl⟩ rfl rfl (Nat.le_of_ble_eq_true rfl) (dget kX8_mixFound 4 rfl) (tX8_mix h) (fun r_2 σ_1 h => ?_)
  refine wr_aload_n (pc := 9) (dget kX8_mixFound 5 rfl) 0 rfl ?_
  refine wr_getI (pc := 10) (σ := σ_1) fl_X8_182 kd_0 fk_8_14 (dget kX8_mixFound 6 rfl) ?_
  refine wr_i2l (pc := 13) (dget kX8_mixFound 7 rfl) rfl ?_
  refine wr_callSl (pc := 14) (Mc := mX8_mix) (rest := []) cf_X8_301 cs_X8_mix ⟨Nat.le_of_ble_eq_true rfl, Nat.le_of_ble_eq_true rfl⟩ rfl rfl (Nat.le_of_ble_eq_true rfl) (dget kX8_mixFound 8 rfl) (tX8_mix h) (fun r_4 σ_3 h => ?_)
  exact wr_lret (pc := 17) rfl (dget kX8_mixFound 9 rfl) ⟨_, rfl, h⟩
def vX8_digestPlans (p1 : Int64) (σ : Hp) (post : Int64 → Hp → Prop) : Prop := (vX8_seekMend  σ (fun σ_1 => (vX8_mixFound p1 σ_1 (fun r_4 σ_3 => (vX8_eventsToSpare  σ_3 (fun r_6 σ_5 => (vX8_sparedOf r_6 (-1 : Int32) σ_5 (fun r_8 σ_7 => (vX8_mix r_4 r_8.toInt64 σ_7 (fun r_10 σ_9 => (vX8_sparedOf r_6 (0 : Int32) σ_9 (fun r_12 σ_11 => (vX8_mix r_10 r_12.toInt64 σ_11 (fun r_14 σ_13 => (vX8_eventsThatNeverWere  σ_13 (fun r_16 σ_15 => (vX8_mix r_14 r_16.toInt64 σ_15 (fun r_18 σ_17 => (vX8_pullsThatMightBe  σ_17 (fun r_20 σ_19 => (vX8_mix r_18 r_20.toInt64 σ_19 (fun r_22 σ_21 => (vX8_tickToAsk  σ_21 (fun r_24 σ_23 => (vX8_mix r_22 r_24.toInt64 σ_23 (fun r_26 σ_25 => (vX8_tryFair (7 : Int32) (9 : Int32) σ_25 (fun σ_27 => (vX2_tellSum 35 (0 : Int32) σ_27 (fun r_30 σ_29 => (vX8_mix r_26 r_30.toInt64 σ_29 (fun r_32 σ_31 => (vX2_tellSum 35 (1 : Int32) σ_31 (fun r_34 σ_33 => (vX8_mix r_32 r_34.toInt64 σ_33 (fun r_36 σ_35 => post r_36 σ_35))))))))))))))))))))))))))))))))))))
set_option maxHeartbeats 4000000 in
set_option maxRecDepth 100000 in
theorem tX8_digestPlans {G : GT} {p1 : Int64} {σ : Hp} {post : Int64 → Hp → Prop} (h : vX8_digestPlans p1 σ post) : CT G mX8_digestPlans [.ref (G.1 0), .long p1] σ (LL post) := by
  refine CT.of (by decide +kernel) (Nat.le_of_ble_eq_true rfl) ?_
  show WP G mX8_digestPlans 0 [(0, .ref (G.1 0)), (1, .long p1)] [] σ (LL post)
  unfold vX8_digestPlans at h
  refine wr_aload_n (pc := 0) (dget kX8_digestPlans 0 rfl) 0 rfl ?_
  refine wr_callVv (pc := 1) (Mc := mX8_seekMend) (o := 0) (rest := []) cf_X8_201 cv_X8_seekMend kd_0 rfl ⟨Nat.le_of_ble_eq_true rfl, Nat.le_of_ble_eq_true rfl⟩ rfl rfl (Nat.le_of_ble_eq_true rfl) (dget kX8_digestPlans 1 rfl) (tX8_seekMend h) (fun σ_1 h => ?_)
  refine wr_aload_n (pc := 4) (dget kX8_digestPlans 2 rfl) 0 rfl ?_
  refine wr_lload_n (pc := 5) (dget kX8_digestPlans 3 rfl) 1 rfl ?_
  refine wr_callVl (pc := 6) (Mc := mX8_mixFound) (o := 0) (rest := []) cf_X8_308 cv_X8_mixFound kd_0 rfl ⟨Nat.le_of_ble_eq_true rfl, Nat.le_of_ble_eq_true rfl⟩ rfl rfl (Nat.le_of_ble_eq_true rfl) (dget kX8_digestPlans 4 rfl) (tX8_mixFound h) (fun r_4 σ_3 h => ?_)
  refine wr_lstore_n (pc := 9) (lv' := [(3, .long r_4), (0, .ref (G.1 0)), (1, .long p1)]) (dget kX8_digestPlans 5 rfl) (by decide) rfl ?_
  refine wr_aload_n (pc := 10) (dget kX8_digestPlans 6 rfl) 1 rfl ?_
  refine wr_callVi (pc := 11) (Mc := mX8_eventsToSpare) (o := 0) (rest := []) cf_X8_204 cv_X8_eventsToSpare kd_0 rfl ⟨Nat.le_of_ble_eq_true rfl, Nat.le_of_ble_eq_true rfl⟩ rfl rfl (Nat.le_of_ble_eq_true rfl) (dget kX8_digestPlans 7 rfl) (tX8_eventsToSpare h) (fun r_6 σ_5 h => ?_)
  refine wr_istore (pc := 14) (lv' := [(5, .int r_6), (3, .long r_4), (0, .ref (G.1 0)), (1, .long p1)]) (dget kX8_digestPlans 8 rfl) (by decide) rfl ?_
  refine wr_lload_n (pc := 16) (dget kX8_digestPlans 9 rfl) 1 rfl ?_
  refine wr_iload (pc := 17) (dget kX8_digestPlans 10 rfl) 0 rfl ?_
  refine wr_iconst (pc := 19) (dget kX8_digestPlans 11 rfl) ic_m1 ?_
  refine wr_callSi (pc := 20) (Mc := mX8_sparedOf) (rest := [.long r_4]) cf_X8_207 cs_X8_sparedOf ⟨Nat.le_of_ble_eq_true rfl, Nat.le_of_ble_eq_true rfl⟩ rfl rfl (Nat.le_of_ble_eq_true rfl) (dget kX8_digestPlans 12 rfl) (tX8_sparedOf h) (fun r_8 σ_7 h => ?_)
  refine wr_i2l (pc := 23) (dget kX8_digestPlans 13 rfl) rfl ?_
  refine wr_callSl (pc := 24) (Mc := mX8_mix) (rest := []) cf_X8_301 cs_X8_mix ⟨Nat.le_of_ble_eq_true rfl, Nat.le_of_ble_eq_true rfl⟩ rfl rfl (Nat.le_of_ble_eq_true rfl) (dget kX8_digestPlans 14 rfl) (tX8_mix h) (fun r_10 σ_9 h => ?_)
  refine wr_iload (pc := 27) (dget kX8_digestPlans 15 rfl) 0 rfl ?_
  refine wr_iconst (pc := 29) (dget kX8_digestPlans 16 rfl) ic_0 ?_
  refine wr_callSi (pc := 30) (Mc := mX8_sparedOf) (rest := [.long r_10]) cf_X8_207 cs_X8_sparedOf ⟨Nat.le_of_ble_eq_true rfl, Nat.le_of_ble_eq_true rfl⟩ rfl rfl (Nat.le_of_ble_eq_true rfl) (dget kX8_digestPlans 17 rfl) (tX8_sparedOf h) (fun r_12 σ_11 h => ?_)
  refine wr_i2l (pc := 33) (dget kX8_digestPlans 18 rfl) rfl ?_
  refine wr_callSl (pc := 34) (Mc := mX8_mix) (rest := []) cf_X8_301 cs_X8_mix ⟨Nat.le_of_ble_eq_true rfl, Nat.le_of_ble_eq_true rfl⟩ rfl rfl (Nat.le_of_ble_eq_true rfl) (dget kX8_digestPlans 19 rfl) (tX8_mix h) (fun r_14 σ_13 h => ?_)
  refine wr_lstore_n (pc := 37) (lv' := [(3, .long r_14), (5, .int r_6), (0, .ref (G.1 0)), (1, .long p1)]) (dget kX8_digestPlans 20 rfl) (by decide) rfl ?_
  refine wr_lload_n (pc := 38) (dget kX8_digestPlans 21 rfl) 0 rfl ?_
  refine wr_aload_n (pc := 39) (dget kX8_digestPlans 22 rfl) 2 rfl ?_
  refine wr_callVi (pc := 40) (Mc := mX8_eventsThatNeverWere) (o := 0) (rest := [.long r_14]) cf_X8_213 cv_X8_eventsThatNeverWere kd_0 rfl ⟨Nat.le_of_ble_eq_true rfl, Nat.le_of_ble_eq_true rfl⟩ rfl rfl (Nat.le_of_ble_eq_true rfl) (dget kX8_digestPlans 23 rfl) (tX8_eventsThatNeverWere h) (fun r_16 σ_15 h => ?_)
  refine wr_i2l (pc := 43) (dget kX8_digestPlans 24 rfl) rfl ?_
  refine wr_callSl (pc := 44) (Mc := mX8_mix) (rest := []) cf_X8_301 cs_X8_mix ⟨Nat.le_of_ble_eq_true rfl, Nat.le_of_ble_eq_true rfl⟩ rfl rfl (Nat.le_of_ble_eq_true rfl) (dget kX8_digestPlans 25 rfl) (tX8_mix h) (fun r_18 σ_17 h => ?_)
  refine wr_aload_n (pc := 47) (dget kX8_digestPlans 26 rfl) 2 rfl ?_
  refine wr_callVi (pc := 48) (Mc := mX8_pullsThatMightBe) (o := 0) (rest := [.long r_18]) cf_X8_216 cv_X8_pullsThatMightBe kd_0 rfl ⟨Nat.le_of_ble_eq_true rfl, Nat.le_of_ble_eq_true rfl⟩ rfl rfl (Nat.le_of_ble_eq_true rfl) (dget kX8_digestPlans 27 rfl) (tX8_pullsThatMightBe h) (fun r_20 σ_19 h => ?_)
  refine wr_i2l (pc := 51) (dget kX8_digestPlans 28 rfl) rfl ?_
  refine wr_callSl (pc := 52) (Mc := mX8_mix) (rest := []) cf_X8_301 cs_X8_mix ⟨Nat.le_of_ble_eq_true rfl, Nat.le_of_ble_eq_true rfl⟩ rfl rfl (Nat.le_of_ble_eq_true rfl) (dget kX8_digestPlans 29 rfl) (tX8_mix h) (fun r_22 σ_21 h => ?_)
  refine wr_lstore_n (pc := 55) (lv' := [(3, .long r_22), (5, .int r_6), (0, .ref (G.1 0)), (1, .long p1)]) (dget kX8_digestPlans 30 rfl) (by decide) rfl ?_
  refine wr_lload_n (pc := 56) (dget kX8_digestPlans 31 rfl) 0 rfl ?_
  refine wr_aload_n (pc := 57) (dget kX8_digestPlans 32 rfl) 2 rfl ?_
  refine wr_callVi (pc := 58) (Mc := mX8_tickToAsk) (o := 0) (rest := [.long r_22]) cf_X8_222 cv_X8_tickToAsk kd_0 rfl ⟨Nat.le_of_ble_eq_true rfl, Nat.le_of_ble_eq_true rfl⟩ rfl rfl (Nat.le_of_ble_eq_true rfl) (dget kX8_digestPlans 33 rfl) (tX8_tickToAsk h) (fun r_24 σ_23 h => ?_)
  refine wr_i2l (pc := 61) (dget kX8_digestPlans 34 rfl) rfl ?_
  refine wr_callSl (pc := 62) (Mc := mX8_mix) (rest := []) cf_X8_301 cs_X8_mix ⟨Nat.le_of_ble_eq_true rfl, Nat.le_of_ble_eq_true rfl⟩ rfl rfl (Nat.le_of_ble_eq_true rfl) (dget kX8_digestPlans 35 rfl) (tX8_mix h) (fun r_26 σ_25 h => ?_)
  refine wr_lstore_n (pc := 65) (lv' := [(3, .long r_26), (5, .int r_6), (0, .ref (G.1 0)), (1, .long p1)]) (dget kX8_digestPlans 36 rfl) (by decide) rfl ?_
  refine wr_aload_n (pc := 66) (dget kX8_digestPlans 37 rfl) 2 rfl ?_
  refine wr_bipush (pc := 67) (dget kX8_digestPlans 38 rfl) bp_7 ?_
  refine wr_bipush (pc := 69) (dget kX8_digestPlans 39 rfl) bp_9 ?_
  refine wr_callVv (pc := 71) (Mc := mX8_tryFair) (o := 0) (rest := []) cf_X8_234 cv_X8_tryFair kd_0 rfl ⟨Nat.le_of_ble_eq_true rfl, Nat.le_of_ble_eq_true rfl⟩ rfl rfl (Nat.le_of_ble_eq_true rfl) (dget kX8_digestPlans 40 rfl) (tX8_tryFair h) (fun σ_27 h => ?_)
  refine wr_lload_n (pc := 74) (dget kX8_digestPlans 41 rfl) 0 rfl ?_
  refine wr_aload_n (pc := 75) (dget kX8_digestPlans 42 rfl) 2 rfl ?_
  refine wr_getRl (pc := 76) fl_X8_50 kd_0 fk_8_6 rt_0_6 (dget kX8_digestPlans 43 rfl) ?_
  refine wr_iconst (pc := 79) (dget kX8_digestPlans 44 rfl) ic_0 ?_
  refine wr_callVi (pc := 80) (Mc := mX2_tellSum) (o := 35) (rest := [.long r_26]) cf_X8_176 cv_X2_tellSum kd_35 rfl ⟨Nat.le_of_ble_eq_true rfl, Nat.le_of_ble_eq_true rfl⟩ rfl rfl (Nat.le_of_ble_eq_true rfl) (dget kX8_digestPlans 45 rfl) (tX2_tellSum h) (fun r_30 σ_29 h => ?_)
  refine wr_i2l (pc := 83) (dget kX8_digestPlans 46 rfl) rfl ?_
  refine wr_callSl (pc := 84) (Mc := mX8_mix) (rest := []) cf_X8_301 cs_X8_mix ⟨Nat.le_of_ble_eq_true rfl, Nat.le_of_ble_eq_true rfl⟩ rfl rfl (Nat.le_of_ble_eq_true rfl) (dget kX8_digestPlans 47 rfl) (tX8_mix h) (fun r_32 σ_31 h => ?_)
  refine wr_aload_n (pc := 87) (dget kX8_digestPlans 48 rfl) 2 rfl ?_
  refine wr_getRl (pc := 88) fl_X8_50 kd_0 fk_8_6 rt_0_6 (dget kX8_digestPlans 49 rfl) ?_
  refine wr_iconst (pc := 91) (dget kX8_digestPlans 50 rfl) ic_1 ?_
  refine wr_callVi (pc := 92) (Mc := mX2_tellSum) (o := 35) (rest := [.long r_32]) cf_X8_176 cv_X2_tellSum kd_35 rfl ⟨Nat.le_of_ble_eq_true rfl, Nat.le_of_ble_eq_true rfl⟩ rfl rfl (Nat.le_of_ble_eq_true rfl) (dget kX8_digestPlans 51 rfl) (tX2_tellSum h) (fun r_34 σ_33 h => ?_)
  refine wr_i2l (pc := 95) (dget kX8_digestPlans 52 rfl) rfl ?_
  refine wr_callSl (pc := 96) (Mc := mX8_mix) (rest := []) cf_X8_301 cs_X8_mix ⟨Nat.le_of_ble_eq_true rfl, Nat.le_of_ble_eq_true rfl⟩ rfl rfl (Nat.le_of_ble_eq_true rfl) (dget kX8_digestPlans 53 rfl) (tX8_mix h) (fun r_36 σ_35 h => ?_)
  exact wr_lret (pc := 99) rfl (dget kX8_digestPlans 54 rfl) ⟨_, rfl, h⟩
def vX8_digestShot_42 (post : Int64 → Hp → Prop) (ex : Int64 → Hp → Prop) (x3 : Int32) : Nat → Int64 → Int32 → Hp → Prop
  | 0 => fun _ _ _ => False
  | n + 1 => fun x4 x6 σ => (((2 : Int32) < x6 → (ex x4 σ)) ∧ (¬ (2 : Int32) < x6 → (vX2_tellOutcome 23 x3 x6 σ (fun r_3 σ_2 => (vX8_mix x4 r_3.toInt64 σ_2 (fun r_5 σ_4 => (∀ x6_6 : Int32, x6_6 = x6 + (1 : Int32) → vX8_digestShot_42 post ex x3 n r_5 x6_6 σ_4)))))))
set_option maxHeartbeats 4000000 in
set_option maxRecDepth 100000 in
theorem tX8_digestShot_42 {G : GT} {post : Int64 → Hp → Prop} {ex : Int64 → Hp → Prop} {x3 : Int32} (hex : ∀ (z4 : Int64) (τ : Hp), ex z4 τ → WP G mX8_digestShot 72 [(0, .ref (G.1 0)), (3, .int x3), (4, .long z4)] [] τ (LL post)) : ∀ (n : Nat) (x4 : Int64) (x6 : Int32) (σ : Hp), vX8_digestShot_42 post ex x3 n x4 x6 σ → WP G mX8_digestShot 42 [(0, .ref (G.1 0)), (3, .int x3), (4, .long x4), (6, .int x6)] [] σ (LL post) := by
  intro n
  induction n with
  | zero => intro x4 x6 σ h; exact False.elim h
  | succ n ih =>
    intro x4 x6 σ h
    simp only [vX8_digestShot_42] at h
    refine wr_iload (pc := 42) (dget kX8_digestShot 21 rfl) 3 rfl ?_
    refine wr_iconst (pc := 44) (dget kX8_digestShot 22 rfl) ic_2 ?_
    refine wr_icmp_gt (pc := 45) (tgt := 72) (dget kX8_digestShot 23 rfl) (by decide) (fun c_1 => ?_) (fun c_1 => ?_)
    · have h := h.1 c_1
      refine wr_sub [0, 1, 2] rfl ?_
      exact hex _ _ h
    · have h := h.2 c_1
      refine wr_lload (pc := 48) (dget kX8_digestShot 24 rfl) 2 rfl ?_
      refine wr_aload_n (pc := 50) (dget kX8_digestShot 25 rfl) 0 rfl ?_
      refine wr_getRl (pc := 51) fl_X8_46 kd_0 fk_8_5 rt_0_5 (dget kX8_digestShot 26 rfl) ?_
      refine wr_iload_n (pc := 54) (dget kX8_digestShot 27 rfl) 1 rfl ?_
      refine wr_iload (pc := 55) (dget kX8_digestShot 28 rfl) 3 rfl ?_
      refine wr_callVi (pc := 57) (Mc := mX2_tellOutcome) (o := 23) (rest := [.long x4]) cf_X8_173 cv_X2_tellOutcome kd_23 rfl ⟨Nat.le_of_ble_eq_true rfl, Nat.le_of_ble_eq_true rfl⟩ rfl rfl (Nat.le_of_ble_eq_true rfl) (dget kX8_digestShot 29 rfl) (tX2_tellOutcome h) (fun r_3 σ_2 h => ?_)
      refine wr_i2l (pc := 60) (dget kX8_digestShot 30 rfl) rfl ?_
      refine wr_callSl (pc := 61) (Mc := mX8_mix) (rest := []) cf_X8_301 cs_X8_mix ⟨Nat.le_of_ble_eq_true rfl, Nat.le_of_ble_eq_true rfl⟩ rfl rfl (Nat.le_of_ble_eq_true rfl) (dget kX8_digestShot 31 rfl) (tX8_mix h) (fun r_5 σ_4 h => ?_)
      refine wr_lstore (pc := 64) (lv' := [(4, .long r_5), (0, .ref (G.1 0)), (3, .int x3), (6, .int x6)]) (dget kX8_digestShot 32 rfl) (by decide) rfl ?_
      obtain ⟨x6_6, e_x6_6⟩ : ∃ y : Int32, y = x6 + (1 : Int32) := ⟨_, rfl⟩
      have h := h x6_6 e_x6_6
      refine wr_iinc (pc := 66) (v := x6_6) (lv' := [(6, .int x6_6), (4, .long r_5), (0, .ref (G.1 0)), (3, .int x3)]) (dget kX8_digestShot 33 rfl) 3 rfl (by rw [e_x6_6, ic_1]) (by decide) rfl ?_
      refine wr_goto (pc := 69) (tgt := 42) (dget kX8_digestShot 34 rfl) (by decide) ?_
      refine wr_sub [2, 3, 1, 0] rfl ?_
      exact ih _ _ _ h
def vX8_digestShot_6 (post : Int64 → Hp → Prop) (ex : Int64 → Hp → Prop) (x3 : Int32) : Nat → Int64 → Int32 → Hp → Prop
  | 0 => fun _ _ _ => False
  | n + 1 => fun x4 x6 σ => (((2 : Int32) < x6 → (ex x4 σ)) ∧ (¬ (2 : Int32) < x6 → (vX5_tellShot 24 x3 x6 σ (fun r_3 σ_2 => (vX8_mix x4 r_3.toInt64 σ_2 (fun r_5 σ_4 => (∀ x6_6 : Int32, x6_6 = x6 + (1 : Int32) → vX8_digestShot_6 post ex x3 n r_5 x6_6 σ_4)))))))
set_option maxHeartbeats 4000000 in
set_option maxRecDepth 100000 in
theorem tX8_digestShot_6 {G : GT} {post : Int64 → Hp → Prop} {ex : Int64 → Hp → Prop} {x3 : Int32} (hex : ∀ (z4 : Int64) (τ : Hp), ex z4 τ → WP G mX8_digestShot 39 [(0, .ref (G.1 0)), (3, .int x3), (4, .long z4)] [] τ (LL post)) : ∀ (n : Nat) (x4 : Int64) (x6 : Int32) (σ : Hp), vX8_digestShot_6 post ex x3 n x4 x6 σ → WP G mX8_digestShot 6 [(0, .ref (G.1 0)), (3, .int x3), (4, .long x4), (6, .int x6)] [] σ (LL post) := by
  intro n
  induction n with
  | zero => intro x4 x6 σ h; exact False.elim h
  | succ n ih =>
    intro x4 x6 σ h
    simp only [vX8_digestShot_6] at h
    refine wr_iload (pc := 6) (dget kX8_digestShot 4 rfl) 3 rfl ?_
    refine wr_iconst (pc := 8) (dget kX8_digestShot 5 rfl) ic_2 ?_
    refine wr_icmp_gt (pc := 9) (tgt := 39) (dget kX8_digestShot 6 rfl) (by decide) (fun c_1 => ?_) (fun c_1 => ?_)
    · have h := h.1 c_1
      refine wr_sub [0, 1, 2] rfl ?_
      exact hex _ _ h
    · have h := h.2 c_1
      refine wr_lload (pc := 12) (dget kX8_digestShot 7 rfl) 2 rfl ?_
      refine wr_aload_n (pc := 14) (dget kX8_digestShot 8 rfl) 0 rfl ?_
      refine wr_getRl (pc := 15) fl_X8_46 kd_0 fk_8_5 rt_0_5 (dget kX8_digestShot 9 rfl) ?_
      refine wr_getRl (pc := 18) fl_X8_118 kd_23 fk_2_1 rt_23_1 (dget kX8_digestShot 10 rfl) ?_
      refine wr_iload_n (pc := 21) (dget kX8_digestShot 11 rfl) 1 rfl ?_
      refine wr_iload (pc := 22) (dget kX8_digestShot 12 rfl) 3 rfl ?_
      refine wr_callVi (pc := 24) (Mc := mX5_tellShot) (o := 24) (rest := [.long x4]) cf_X8_122 cv_X5_tellShot kd_24 rfl ⟨Nat.le_of_ble_eq_true rfl, Nat.le_of_ble_eq_true rfl⟩ rfl rfl (Nat.le_of_ble_eq_true rfl) (dget kX8_digestShot 13 rfl) (tX5_tellShot h) (fun r_3 σ_2 h => ?_)
      refine wr_i2l (pc := 27) (dget kX8_digestShot 14 rfl) rfl ?_
      refine wr_callSl (pc := 28) (Mc := mX8_mix) (rest := []) cf_X8_301 cs_X8_mix ⟨Nat.le_of_ble_eq_true rfl, Nat.le_of_ble_eq_true rfl⟩ rfl rfl (Nat.le_of_ble_eq_true rfl) (dget kX8_digestShot 15 rfl) (tX8_mix h) (fun r_5 σ_4 h => ?_)
      refine wr_lstore (pc := 31) (lv' := [(4, .long r_5), (0, .ref (G.1 0)), (3, .int x3), (6, .int x6)]) (dget kX8_digestShot 16 rfl) (by decide) rfl ?_
      obtain ⟨x6_6, e_x6_6⟩ : ∃ y : Int32, y = x6 + (1 : Int32) := ⟨_, rfl⟩
      have h := h x6_6 e_x6_6
      refine wr_iinc (pc := 33) (v := x6_6) (lv' := [(6, .int x6_6), (4, .long r_5), (0, .ref (G.1 0)), (3, .int x3)]) (dget kX8_digestShot 17 rfl) 3 rfl (by rw [e_x6_6, ic_1]) (by decide) rfl ?_
      refine wr_goto (pc := 36) (tgt := 6) (dget kX8_digestShot 18 rfl) (by decide) ?_
      refine wr_sub [2, 3, 1, 0] rfl ?_
      exact ih _ _ _ h
def vX8_digestShot (p1 : Int64) (p2 : Int32) (σ : Hp) (post : Int64 → Hp → Prop) : Prop := (∃ fu : Nat, vX8_digestShot_6 post (fun z4_1 σ_2 => (∃ fu : Nat, vX8_digestShot_42 post (fun z4_3 σ_4 => (vX8_seekAim p2 σ_4 (fun σ_5 => (vX8_mixFound z4_3 σ_5 (fun r_8 σ_7 => (vX8_seekFire p2 σ_7 (fun σ_9 => (vX8_mixFound r_8 σ_9 (fun r_12 σ_11 => (vX8_chanceLearned (5 : Int32) p2 (0 : Int32) σ_11 (fun r_14 σ_13 => (vX8_mix r_12 r_14 σ_13 (fun r_16 σ_15 => (vX8_chanceLearned (5 : Int32) p2 (1 : Int32) σ_15 (fun r_18 σ_17 => (vX8_mix r_16 r_18 σ_17 (fun r_20 σ_19 => post r_20 σ_19))))))))))))))))) p2 fu z4_1 (0 : Int32) σ_2)) p2 fu p1 (0 : Int32) σ)
set_option maxHeartbeats 4000000 in
set_option maxRecDepth 100000 in
theorem tX8_digestShot {G : GT} {p1 : Int64} {p2 : Int32} {σ : Hp} {post : Int64 → Hp → Prop} (h : vX8_digestShot p1 p2 σ post) : CT G mX8_digestShot [.ref (G.1 0), .long p1, .int p2] σ (LL post) := by
  refine CT.of (by decide +kernel) (Nat.le_of_ble_eq_true rfl) ?_
  show WP G mX8_digestShot 0 [(0, .ref (G.1 0)), (1, .long p1), (3, .int p2)] [] σ (LL post)
  unfold vX8_digestShot at h
  refine wr_lload_n (pc := 0) (dget kX8_digestShot 0 rfl) 1 rfl ?_
  refine wr_lstore (pc := 1) (lv' := [(4, .long p1), (0, .ref (G.1 0)), (1, .long p1), (3, .int p2)]) (dget kX8_digestShot 1 rfl) (by decide) rfl ?_
  refine wr_iconst (pc := 3) (dget kX8_digestShot 2 rfl) ic_0 ?_
  refine wr_istore (pc := 4) (lv' := [(6, .int (0 : Int32)), (4, .long p1), (0, .ref (G.1 0)), (1, .long p1), (3, .int p2)]) (dget kX8_digestShot 3 rfl) (by decide) rfl ?_
  obtain ⟨fu, h⟩ := h
  refine wr_sub [2, 4, 1, 0] rfl ?_
  refine tX8_digestShot_6 (fun z4_1 σ_2 h => ?_) fu _ _ _ h
  refine wr_iconst (pc := 39) (dget kX8_digestShot 19 rfl) ic_0 ?_
  refine wr_istore (pc := 40) (lv' := [(6, .int (0 : Int32)), (0, .ref (G.1 0)), (3, .int p2), (4, .long z4_1)]) (dget kX8_digestShot 20 rfl) (by decide) rfl ?_
  obtain ⟨fu, h⟩ := h
  refine wr_sub [1, 2, 3, 0] rfl ?_
  refine tX8_digestShot_42 (fun z4_3 σ_4 h => ?_) fu _ _ _ h
  refine wr_aload_n (pc := 72) (dget kX8_digestShot 35 rfl) 0 rfl ?_
  refine wr_iload_n (pc := 73) (dget kX8_digestShot 36 rfl) 1 rfl ?_
  refine wr_callVv (pc := 74) (Mc := mX8_seekAim) (o := 0) (rest := []) cf_X8_195 cv_X8_seekAim kd_0 rfl ⟨Nat.le_of_ble_eq_true rfl, Nat.le_of_ble_eq_true rfl⟩ rfl rfl (Nat.le_of_ble_eq_true rfl) (dget kX8_digestShot 37 rfl) (tX8_seekAim h) (fun σ_5 h => ?_)
  refine wr_aload_n (pc := 77) (dget kX8_digestShot 38 rfl) 0 rfl ?_
  refine wr_lload (pc := 78) (dget kX8_digestShot 39 rfl) 2 rfl ?_
  refine wr_callVl (pc := 80) (Mc := mX8_mixFound) (o := 0) (rest := []) cf_X8_308 cv_X8_mixFound kd_0 rfl ⟨Nat.le_of_ble_eq_true rfl, Nat.le_of_ble_eq_true rfl⟩ rfl rfl (Nat.le_of_ble_eq_true rfl) (dget kX8_digestShot 40 rfl) (tX8_mixFound h) (fun r_8 σ_7 h => ?_)
  refine wr_lstore (pc := 83) (lv' := [(4, .long r_8), (0, .ref (G.1 0)), (3, .int p2)]) (dget kX8_digestShot 41 rfl) (by decide) rfl ?_
  refine wr_aload_n (pc := 85) (dget kX8_digestShot 42 rfl) 1 rfl ?_
  refine wr_iload_n (pc := 86) (dget kX8_digestShot 43 rfl) 2 rfl ?_
  refine wr_callVv (pc := 87) (Mc := mX8_seekFire) (o := 0) (rest := []) cf_X8_198 cv_X8_seekFire kd_0 rfl ⟨Nat.le_of_ble_eq_true rfl, Nat.le_of_ble_eq_true rfl⟩ rfl rfl (Nat.le_of_ble_eq_true rfl) (dget kX8_digestShot 44 rfl) (tX8_seekFire h) (fun σ_9 h => ?_)
  refine wr_aload_n (pc := 90) (dget kX8_digestShot 45 rfl) 1 rfl ?_
  refine wr_lload (pc := 91) (dget kX8_digestShot 46 rfl) 0 rfl ?_
  refine wr_callVl (pc := 93) (Mc := mX8_mixFound) (o := 0) (rest := []) cf_X8_308 cv_X8_mixFound kd_0 rfl ⟨Nat.le_of_ble_eq_true rfl, Nat.le_of_ble_eq_true rfl⟩ rfl rfl (Nat.le_of_ble_eq_true rfl) (dget kX8_digestShot 47 rfl) (tX8_mixFound h) (fun r_12 σ_11 h => ?_)
  refine wr_lstore (pc := 96) (lv' := [(4, .long r_12), (0, .ref (G.1 0)), (3, .int p2)]) (dget kX8_digestShot 48 rfl) (by decide) rfl ?_
  refine wr_lload (pc := 98) (dget kX8_digestShot 49 rfl) 0 rfl ?_
  refine wr_aload_n (pc := 100) (dget kX8_digestShot 50 rfl) 1 rfl ?_
  refine wr_iconst (pc := 101) (dget kX8_digestShot 51 rfl) ic_5 ?_
  refine wr_iload_n (pc := 102) (dget kX8_digestShot 52 rfl) 2 rfl ?_
  refine wr_iconst (pc := 103) (dget kX8_digestShot 53 rfl) ic_0 ?_
  refine wr_callVl (pc := 104) (Mc := mX8_chanceLearned) (o := 0) (rest := [.long r_12]) cf_X8_230 cv_X8_chanceLearned kd_0 rfl ⟨Nat.le_of_ble_eq_true rfl, Nat.le_of_ble_eq_true rfl⟩ rfl rfl (Nat.le_of_ble_eq_true rfl) (dget kX8_digestShot 54 rfl) (tX8_chanceLearned h) (fun r_14 σ_13 h => ?_)
  refine wr_callSl (pc := 107) (Mc := mX8_mix) (rest := []) cf_X8_301 cs_X8_mix ⟨Nat.le_of_ble_eq_true rfl, Nat.le_of_ble_eq_true rfl⟩ rfl rfl (Nat.le_of_ble_eq_true rfl) (dget kX8_digestShot 55 rfl) (tX8_mix h) (fun r_16 σ_15 h => ?_)
  refine wr_lstore (pc := 110) (lv' := [(4, .long r_16), (0, .ref (G.1 0)), (3, .int p2)]) (dget kX8_digestShot 56 rfl) (by decide) rfl ?_
  refine wr_lload (pc := 112) (dget kX8_digestShot 57 rfl) 0 rfl ?_
  refine wr_aload_n (pc := 114) (dget kX8_digestShot 58 rfl) 1 rfl ?_
  refine wr_iconst (pc := 115) (dget kX8_digestShot 59 rfl) ic_5 ?_
  refine wr_iload_n (pc := 116) (dget kX8_digestShot 60 rfl) 2 rfl ?_
  refine wr_iconst (pc := 117) (dget kX8_digestShot 61 rfl) ic_1 ?_
  refine wr_callVl (pc := 118) (Mc := mX8_chanceLearned) (o := 0) (rest := [.long r_16]) cf_X8_230 cv_X8_chanceLearned kd_0 rfl ⟨Nat.le_of_ble_eq_true rfl, Nat.le_of_ble_eq_true rfl⟩ rfl rfl (Nat.le_of_ble_eq_true rfl) (dget kX8_digestShot 62 rfl) (tX8_chanceLearned h) (fun r_18 σ_17 h => ?_)
  refine wr_callSl (pc := 121) (Mc := mX8_mix) (rest := []) cf_X8_301 cs_X8_mix ⟨Nat.le_of_ble_eq_true rfl, Nat.le_of_ble_eq_true rfl⟩ rfl rfl (Nat.le_of_ble_eq_true rfl) (dget kX8_digestShot 63 rfl) (tX8_mix h) (fun r_20 σ_19 h => ?_)
  exact wr_lret (pc := 124) rfl (dget kX8_digestShot 64 rfl) ⟨_, rfl, h⟩
def vX8_digestSums_5 (post : Int64 → Hp → Prop) (ex : Int64 → Hp → Prop) : Nat → Int64 → Int32 → Hp → Prop
  | 0 => fun _ _ _ => False
  | n + 1 => fun x3 x5 σ => (((2 : Int32) < x5 → (ex x3 σ)) ∧ (¬ (2 : Int32) < x5 → (vX2_tellSum 23 x5 σ (fun r_3 σ_2 => (vX8_mix x3 r_3.toInt64 σ_2 (fun r_5 σ_4 => (∀ x5_6 : Int32, x5_6 = x5 + (1 : Int32) → vX8_digestSums_5 post ex  n r_5 x5_6 σ_4)))))))
set_option maxHeartbeats 4000000 in
set_option maxRecDepth 100000 in
theorem tX8_digestSums_5 {G : GT} {post : Int64 → Hp → Prop} {ex : Int64 → Hp → Prop} (hex : ∀ (z3 : Int64) (τ : Hp), ex z3 τ → WP G mX8_digestSums 32 [(0, .ref (G.1 0)), (3, .long z3)] [] τ (LL post)) : ∀ (n : Nat) (x3 : Int64) (x5 : Int32) (σ : Hp), vX8_digestSums_5 post ex  n x3 x5 σ → WP G mX8_digestSums 5 [(0, .ref (G.1 0)), (3, .long x3), (5, .int x5)] [] σ (LL post) := by
  intro n
  induction n with
  | zero => intro x3 x5 σ h; exact False.elim h
  | succ n ih =>
    intro x3 x5 σ h
    simp only [vX8_digestSums_5] at h
    refine wr_iload (pc := 5) (dget kX8_digestSums 4 rfl) 2 rfl ?_
    refine wr_iconst (pc := 7) (dget kX8_digestSums 5 rfl) ic_2 ?_
    refine wr_icmp_gt (pc := 8) (tgt := 32) (dget kX8_digestSums 6 rfl) (by decide) (fun c_1 => ?_) (fun c_1 => ?_)
    · have h := h.1 c_1
      refine wr_sub [0, 1] rfl ?_
      exact hex _ _ h
    · have h := h.2 c_1
      refine wr_lload_n (pc := 11) (dget kX8_digestSums 7 rfl) 1 rfl ?_
      refine wr_aload_n (pc := 12) (dget kX8_digestSums 8 rfl) 0 rfl ?_
      refine wr_getRl (pc := 13) fl_X8_46 kd_0 fk_8_5 rt_0_5 (dget kX8_digestSums 9 rfl) ?_
      refine wr_iload (pc := 16) (dget kX8_digestSums 10 rfl) 2 rfl ?_
      refine wr_callVi (pc := 18) (Mc := mX2_tellSum) (o := 23) (rest := [.long x3]) cf_X8_176 cv_X2_tellSum kd_23 rfl ⟨Nat.le_of_ble_eq_true rfl, Nat.le_of_ble_eq_true rfl⟩ rfl rfl (Nat.le_of_ble_eq_true rfl) (dget kX8_digestSums 11 rfl) (tX2_tellSum h) (fun r_3 σ_2 h => ?_)
      refine wr_i2l (pc := 21) (dget kX8_digestSums 12 rfl) rfl ?_
      refine wr_callSl (pc := 22) (Mc := mX8_mix) (rest := []) cf_X8_301 cs_X8_mix ⟨Nat.le_of_ble_eq_true rfl, Nat.le_of_ble_eq_true rfl⟩ rfl rfl (Nat.le_of_ble_eq_true rfl) (dget kX8_digestSums 13 rfl) (tX8_mix h) (fun r_5 σ_4 h => ?_)
      refine wr_lstore_n (pc := 25) (lv' := [(3, .long r_5), (0, .ref (G.1 0)), (5, .int x5)]) (dget kX8_digestSums 14 rfl) (by decide) rfl ?_
      obtain ⟨x5_6, e_x5_6⟩ : ∃ y : Int32, y = x5 + (1 : Int32) := ⟨_, rfl⟩
      have h := h x5_6 e_x5_6
      refine wr_iinc (pc := 26) (v := x5_6) (lv' := [(5, .int x5_6), (3, .long r_5), (0, .ref (G.1 0))]) (dget kX8_digestSums 15 rfl) 2 rfl (by rw [e_x5_6, ic_1]) (by decide) rfl ?_
      refine wr_goto (pc := 29) (tgt := 5) (dget kX8_digestSums 16 rfl) (by decide) ?_
      refine wr_sub [2, 1, 0] rfl ?_
      exact ih _ _ _ h
def vX8_digestSums (p1 : Int64) (σ : Hp) (post : Int64 → Hp → Prop) : Prop := (∃ fu : Nat, vX8_digestSums_5 post (fun z3_1 σ_2 => (vX8_seekRun  σ_2 (fun σ_3 => (vX8_mix z3_1 ((σ_3.1 0 14)).toInt64 σ_3 (fun r_6 σ_5 => (vX8_mix r_6 ((σ_5.1 0 13)).toInt64 σ_5 (fun r_8 σ_7 => (vX8_easiestDuck  σ_7 (fun r_10 σ_9 => (vX8_mix r_8 r_10.toInt64 σ_9 (fun r_12 σ_11 => (vX8_safeDucks  σ_11 (fun r_14 σ_13 => (vX8_mix r_12 r_14.toInt64 σ_13 (fun r_16 σ_15 => post r_16 σ_15)))))))))))))))  fu p1 (0 : Int32) σ)
set_option maxHeartbeats 4000000 in
set_option maxRecDepth 100000 in
theorem tX8_digestSums {G : GT} {p1 : Int64} {σ : Hp} {post : Int64 → Hp → Prop} (h : vX8_digestSums p1 σ post) : CT G mX8_digestSums [.ref (G.1 0), .long p1] σ (LL post) := by
  refine CT.of (by decide +kernel) (Nat.le_of_ble_eq_true rfl) ?_
  show WP G mX8_digestSums 0 [(0, .ref (G.1 0)), (1, .long p1)] [] σ (LL post)
  unfold vX8_digestSums at h
  refine wr_lload_n (pc := 0) (dget kX8_digestSums 0 rfl) 1 rfl ?_
  refine wr_lstore_n (pc := 1) (lv' := [(3, .long p1), (0, .ref (G.1 0)), (1, .long p1)]) (dget kX8_digestSums 1 rfl) (by decide) rfl ?_
  refine wr_iconst (pc := 2) (dget kX8_digestSums 2 rfl) ic_0 ?_
  refine wr_istore (pc := 3) (lv' := [(5, .int (0 : Int32)), (3, .long p1), (0, .ref (G.1 0)), (1, .long p1)]) (dget kX8_digestSums 3 rfl) (by decide) rfl ?_
  obtain ⟨fu, h⟩ := h
  refine wr_sub [2, 1, 0] rfl ?_
  refine tX8_digestSums_5 (fun z3_1 σ_2 h => ?_) fu _ _ _ h
  refine wr_aload_n (pc := 32) (dget kX8_digestSums 17 rfl) 0 rfl ?_
  refine wr_callVv (pc := 33) (Mc := mX8_seekRun) (o := 0) (rest := []) cf_X8_179 cv_X8_seekRun kd_0 rfl ⟨Nat.le_of_ble_eq_true rfl, Nat.le_of_ble_eq_true rfl⟩ rfl rfl (Nat.le_of_ble_eq_true rfl) (dget kX8_digestSums 18 rfl) (tX8_seekRun h) (fun σ_3 h => ?_)
  refine wr_lload_n (pc := 36) (dget kX8_digestSums 19 rfl) 1 rfl ?_
  refine wr_aload_n (pc := 37) (dget kX8_digestSums 20 rfl) 0 rfl ?_
  refine wr_getI (pc := 38) (σ := σ_3) fl_X8_182 kd_0 fk_8_14 (dget kX8_digestSums 21 rfl) ?_
  refine wr_i2l (pc := 41) (dget kX8_digestSums 22 rfl) rfl ?_
  refine wr_callSl (pc := 42) (Mc := mX8_mix) (rest := []) cf_X8_301 cs_X8_mix ⟨Nat.le_of_ble_eq_true rfl, Nat.le_of_ble_eq_true rfl⟩ rfl rfl (Nat.le_of_ble_eq_true rfl) (dget kX8_digestSums 23 rfl) (tX8_mix h) (fun r_6 σ_5 h => ?_)
  refine wr_aload_n (pc := 45) (dget kX8_digestSums 24 rfl) 0 rfl ?_
  refine wr_getI (pc := 46) (σ := σ_5) fl_X8_185 kd_0 fk_8_13 (dget kX8_digestSums 25 rfl) ?_
  refine wr_i2l (pc := 49) (dget kX8_digestSums 26 rfl) rfl ?_
  refine wr_callSl (pc := 50) (Mc := mX8_mix) (rest := []) cf_X8_301 cs_X8_mix ⟨Nat.le_of_ble_eq_true rfl, Nat.le_of_ble_eq_true rfl⟩ rfl rfl (Nat.le_of_ble_eq_true rfl) (dget kX8_digestSums 27 rfl) (tX8_mix h) (fun r_8 σ_7 h => ?_)
  refine wr_lstore_n (pc := 53) (lv' := [(3, .long r_8), (0, .ref (G.1 0))]) (dget kX8_digestSums 28 rfl) (by decide) rfl ?_
  refine wr_lload_n (pc := 54) (dget kX8_digestSums 29 rfl) 0 rfl ?_
  refine wr_aload_n (pc := 55) (dget kX8_digestSums 30 rfl) 1 rfl ?_
  refine wr_callVi (pc := 56) (Mc := mX8_easiestDuck) (o := 0) (rest := [.long r_8]) cf_X8_188 cv_X8_easiestDuck kd_0 rfl ⟨Nat.le_of_ble_eq_true rfl, Nat.le_of_ble_eq_true rfl⟩ rfl rfl (Nat.le_of_ble_eq_true rfl) (dget kX8_digestSums 31 rfl) (tX8_easiestDuck h) (fun r_10 σ_9 h => ?_)
  refine wr_i2l (pc := 59) (dget kX8_digestSums 32 rfl) rfl ?_
  refine wr_callSl (pc := 60) (Mc := mX8_mix) (rest := []) cf_X8_301 cs_X8_mix ⟨Nat.le_of_ble_eq_true rfl, Nat.le_of_ble_eq_true rfl⟩ rfl rfl (Nat.le_of_ble_eq_true rfl) (dget kX8_digestSums 33 rfl) (tX8_mix h) (fun r_12 σ_11 h => ?_)
  refine wr_aload_n (pc := 63) (dget kX8_digestSums 34 rfl) 1 rfl ?_
  refine wr_callVi (pc := 64) (Mc := mX8_safeDucks) (o := 0) (rest := [.long r_12]) cf_X8_192 cv_X8_safeDucks kd_0 rfl ⟨Nat.le_of_ble_eq_true rfl, Nat.le_of_ble_eq_true rfl⟩ rfl rfl (Nat.le_of_ble_eq_true rfl) (dget kX8_digestSums 35 rfl) (tX8_safeDucks h) (fun r_14 σ_13 h => ?_)
  refine wr_i2l (pc := 67) (dget kX8_digestSums 36 rfl) rfl ?_
  refine wr_callSl (pc := 68) (Mc := mX8_mix) (rest := []) cf_X8_301 cs_X8_mix ⟨Nat.le_of_ble_eq_true rfl, Nat.le_of_ble_eq_true rfl⟩ rfl rfl (Nat.le_of_ble_eq_true rfl) (dget kX8_digestSums 37 rfl) (tX8_mix h) (fun r_16 σ_15 h => ?_)
  exact wr_lret (pc := 71) rfl (dget kX8_digestSums 38 rfl) ⟨_, rfl, h⟩
def vX8_digestTold_130 (post : Int64 → Hp → Prop) (ex : Int64 → Hp → Prop) : Nat → Int64 → Int32 → Hp → Prop
  | 0 => fun _ _ _ => False
  | n + 1 => fun x3 x5 σ => (((24 : Int32) ≤ x5 → (ex x3 σ)) ∧ (¬ (24 : Int32) ≤ x5 → (vp_in x5 24 ∧ (vJ6_bitCount_0f7a4 (σ.1 29 x5.toNatClampNeg) σ (fun r_4 σ_3 => (vX8_mix x3 r_4.toInt64 σ_3 (fun r_6 σ_5 => (∀ x5_7 : Int32, x5_7 = x5 + (1 : Int32) → vX8_digestTold_130 post ex  n r_6 x5_7 σ_5))))))))
set_option maxHeartbeats 4000000 in
set_option maxRecDepth 100000 in
theorem tX8_digestTold_130 {G : GT} {post : Int64 → Hp → Prop} {ex : Int64 → Hp → Prop} (hex : ∀ (z3 : Int64) (τ : Hp), ex z3 τ → WP G mX8_digestTold 162 [(3, .long z3)] [] τ (LL post)) : ∀ (n : Nat) (x3 : Int64) (x5 : Int32) (σ : Hp), vX8_digestTold_130 post ex  n x3 x5 σ → WP G mX8_digestTold 130 [(0, .ref (G.1 0)), (3, .long x3), (5, .int x5)] [] σ (LL post) := by
  intro n
  induction n with
  | zero => intro x3 x5 σ h; exact False.elim h
  | succ n ih =>
    intro x3 x5 σ h
    simp only [vX8_digestTold_130] at h
    refine wr_iload (pc := 130) (dget kX8_digestTold 67 rfl) 2 rfl ?_
    refine wr_bipush (pc := 132) (dget kX8_digestTold 68 rfl) bp_24 ?_
    refine wr_icmp_ge (pc := 134) (tgt := 162) (dget kX8_digestTold 69 rfl) (by decide) (fun c_1 => ?_) (fun c_1 => ?_)
    · have h := h.1 c_1
      refine wr_sub [1] rfl ?_
      exact hex _ _ h
    · have h := h.2 c_1
      refine wr_lload_n (pc := 137) (dget kX8_digestTold 70 rfl) 1 rfl ?_
      refine wr_aload_n (pc := 138) (dget kX8_digestTold 71 rfl) 0 rfl ?_
      refine wr_getRl (pc := 139) fl_X8_46 kd_0 fk_8_5 rt_0_5 (dget kX8_digestTold 72 rfl) ?_
      refine wr_getRl (pc := 142) fl_X8_165 kd_23 fk_2_6 rt_23_6 (dget kX8_digestTold 73 rfl) ?_
      refine wr_iload (pc := 145) (dget kX8_digestTold 74 rfl) 2 rfl ?_
      obtain ⟨q_2, h⟩ := h
      refine wr_ialdl (pc := 147) (σ := σ) il_29 q_2 (dget kX8_digestTold 75 rfl) ?_
      refine wr_callSi (pc := 148) (Mc := mJ6_bitCount_0f7a4) (rest := [.long x3]) cf_X8_168 cs_J6_bitCount_0f7a4 ⟨Nat.le_of_ble_eq_true rfl, Nat.le_of_ble_eq_true rfl⟩ rfl rfl (Nat.le_of_ble_eq_true rfl) (dget kX8_digestTold 76 rfl) (tJ6_bitCount_0f7a4 h) (fun r_4 σ_3 h => ?_)
      refine wr_i2l (pc := 151) (dget kX8_digestTold 77 rfl) rfl ?_
      refine wr_callSl (pc := 152) (Mc := mX8_mix) (rest := []) cf_X8_301 cs_X8_mix ⟨Nat.le_of_ble_eq_true rfl, Nat.le_of_ble_eq_true rfl⟩ rfl rfl (Nat.le_of_ble_eq_true rfl) (dget kX8_digestTold 78 rfl) (tX8_mix h) (fun r_6 σ_5 h => ?_)
      refine wr_lstore_n (pc := 155) (lv' := [(3, .long r_6), (0, .ref (G.1 0)), (5, .int x5)]) (dget kX8_digestTold 79 rfl) (by decide) rfl ?_
      obtain ⟨x5_7, e_x5_7⟩ : ∃ y : Int32, y = x5 + (1 : Int32) := ⟨_, rfl⟩
      have h := h x5_7 e_x5_7
      refine wr_iinc (pc := 156) (v := x5_7) (lv' := [(5, .int x5_7), (3, .long r_6), (0, .ref (G.1 0))]) (dget kX8_digestTold 80 rfl) 2 rfl (by rw [e_x5_7, ic_1]) (by decide) rfl ?_
      refine wr_goto (pc := 159) (tgt := 130) (dget kX8_digestTold 81 rfl) (by decide) ?_
      refine wr_sub [2, 1, 0] rfl ?_
      exact ih _ _ _ h
def vX8_digestTold_89 (post : Int64 → Hp → Prop) (ex : Int64 → Hp → Prop) (x5 : Int32) : Nat → Int64 → Int32 → Hp → Prop
  | 0 => fun _ _ _ => False
  | n + 1 => fun x3 x6 σ => (((12 : Int32) ≤ x6 → (ex x3 σ)) ∧ (¬ (12 : Int32) ≤ x6 → (vX0_duckAt 15 (10 : Int32) x5 x6 σ (fun r_3 σ_2 => (vX8_mix x3 r_3.toInt64 σ_2 (fun r_5 σ_4 => (∀ x6_6 : Int32, x6_6 = x6 + (1 : Int32) → vX8_digestTold_89 post ex x5 n r_5 x6_6 σ_4)))))))
set_option maxHeartbeats 4000000 in
set_option maxRecDepth 100000 in
theorem tX8_digestTold_89 {G : GT} {post : Int64 → Hp → Prop} {ex : Int64 → Hp → Prop} {x5 : Int32} (hex : ∀ (z3 : Int64) (τ : Hp), ex z3 τ → WP G mX8_digestTold 121 [(0, .ref (G.1 0)), (3, .long z3), (5, .int x5)] [] τ (LL post)) : ∀ (n : Nat) (x3 : Int64) (x6 : Int32) (σ : Hp), vX8_digestTold_89 post ex x5 n x3 x6 σ → WP G mX8_digestTold 89 [(0, .ref (G.1 0)), (3, .long x3), (5, .int x5), (6, .int x6)] [] σ (LL post) := by
  intro n
  induction n with
  | zero => intro x3 x6 σ h; exact False.elim h
  | succ n ih =>
    intro x3 x6 σ h
    simp only [vX8_digestTold_89] at h
    refine wr_iload (pc := 89) (dget kX8_digestTold 48 rfl) 3 rfl ?_
    refine wr_bipush (pc := 91) (dget kX8_digestTold 49 rfl) bp_12 ?_
    refine wr_icmp_ge (pc := 93) (tgt := 121) (dget kX8_digestTold 50 rfl) (by decide) (fun c_1 => ?_) (fun c_1 => ?_)
    · have h := h.1 c_1
      refine wr_sub [0, 1, 2] rfl ?_
      exact hex _ _ h
    · have h := h.2 c_1
      refine wr_lload_n (pc := 96) (dget kX8_digestTold 51 rfl) 1 rfl ?_
      refine wr_aload_n (pc := 97) (dget kX8_digestTold 52 rfl) 0 rfl ?_
      refine wr_getRl (pc := 98) fl_X8_34 kd_0 fk_8_3 rt_0_3 (dget kX8_digestTold 53 rfl) ?_
      refine wr_bipush (pc := 101) (dget kX8_digestTold 54 rfl) bp_10 ?_
      refine wr_iload (pc := 103) (dget kX8_digestTold 55 rfl) 2 rfl ?_
      refine wr_iload (pc := 105) (dget kX8_digestTold 56 rfl) 3 rfl ?_
      refine wr_callVi (pc := 107) (Mc := mX0_duckAt) (o := 15) (rest := [.long x3]) cf_X8_162 cv_X0_duckAt kd_15 rfl ⟨Nat.le_of_ble_eq_true rfl, Nat.le_of_ble_eq_true rfl⟩ rfl rfl (Nat.le_of_ble_eq_true rfl) (dget kX8_digestTold 57 rfl) (tX0_duckAt h) (fun r_3 σ_2 h => ?_)
      refine wr_i2l (pc := 110) (dget kX8_digestTold 58 rfl) rfl ?_
      refine wr_callSl (pc := 111) (Mc := mX8_mix) (rest := []) cf_X8_301 cs_X8_mix ⟨Nat.le_of_ble_eq_true rfl, Nat.le_of_ble_eq_true rfl⟩ rfl rfl (Nat.le_of_ble_eq_true rfl) (dget kX8_digestTold 59 rfl) (tX8_mix h) (fun r_5 σ_4 h => ?_)
      refine wr_lstore_n (pc := 114) (lv' := [(3, .long r_5), (0, .ref (G.1 0)), (5, .int x5), (6, .int x6)]) (dget kX8_digestTold 60 rfl) (by decide) rfl ?_
      obtain ⟨x6_6, e_x6_6⟩ : ∃ y : Int32, y = x6 + (1 : Int32) := ⟨_, rfl⟩
      have h := h x6_6 e_x6_6
      refine wr_iinc (pc := 115) (v := x6_6) (lv' := [(6, .int x6_6), (3, .long r_5), (0, .ref (G.1 0)), (5, .int x5)]) (dget kX8_digestTold 61 rfl) 3 rfl (by rw [e_x6_6, ic_1]) (by decide) rfl ?_
      refine wr_goto (pc := 118) (tgt := 89) (dget kX8_digestTold 62 rfl) (by decide) ?_
      refine wr_sub [2, 1, 3, 0] rfl ?_
      exact ih _ _ _ h
def vX8_digestTold_64 (post : Int64 → Hp → Prop) (ex : Int64 → Hp → Prop) : Nat → Int64 → Int32 → Hp → Prop
  | 0 => fun _ _ _ => False
  | n + 1 => fun x3 x5 σ => (((3 : Int32) ≤ x5 → (ex x3 σ)) ∧ (¬ (3 : Int32) ≤ x5 → (vp_in x5 3 ∧ (vX8_mix x3 ((σ.1 3 x5.toNatClampNeg)).toInt64 σ (fun r_4 σ_3 => (∃ fu : Nat, vX8_digestTold_89 post (fun z3_5 σ_6 => (∀ x5_7 : Int32, x5_7 = x5 + (1 : Int32) → vX8_digestTold_64 post ex  n z3_5 x5_7 σ_6)) x5 fu r_4 (0 : Int32) σ_3))))))
set_option maxHeartbeats 4000000 in
set_option maxRecDepth 100000 in
theorem tX8_digestTold_64 {G : GT} {post : Int64 → Hp → Prop} {ex : Int64 → Hp → Prop} (hex : ∀ (z3 : Int64) (τ : Hp), ex z3 τ → WP G mX8_digestTold 127 [(0, .ref (G.1 0)), (3, .long z3)] [] τ (LL post)) : ∀ (n : Nat) (x3 : Int64) (x5 : Int32) (σ : Hp), vX8_digestTold_64 post ex  n x3 x5 σ → WP G mX8_digestTold 64 [(0, .ref (G.1 0)), (3, .long x3), (5, .int x5)] [] σ (LL post) := by
  intro n
  induction n with
  | zero => intro x3 x5 σ h; exact False.elim h
  | succ n ih =>
    intro x3 x5 σ h
    simp only [vX8_digestTold_64] at h
    refine wr_iload (pc := 64) (dget kX8_digestTold 34 rfl) 2 rfl ?_
    refine wr_iconst (pc := 66) (dget kX8_digestTold 35 rfl) ic_3 ?_
    refine wr_icmp_ge (pc := 67) (tgt := 127) (dget kX8_digestTold 36 rfl) (by decide) (fun c_1 => ?_) (fun c_1 => ?_)
    · have h := h.1 c_1
      refine wr_sub [0, 1] rfl ?_
      exact hex _ _ h
    · have h := h.2 c_1
      refine wr_lload_n (pc := 70) (dget kX8_digestTold 37 rfl) 1 rfl ?_
      refine wr_aload_n (pc := 71) (dget kX8_digestTold 38 rfl) 0 rfl ?_
      refine wr_getRl (pc := 72) fl_X8_18 kd_0 fk_8_1 rt_0_1 (dget kX8_digestTold 39 rfl) ?_
      refine wr_getRl (pc := 75) fl_X8_104 kd_2 fk_6_0 rt_2_0 (dget kX8_digestTold 40 rfl) ?_
      refine wr_iload (pc := 78) (dget kX8_digestTold 41 rfl) 2 rfl ?_
      obtain ⟨q_2, h⟩ := h
      refine wr_ialdl (pc := 80) (σ := σ) il_3 q_2 (dget kX8_digestTold 42 rfl) ?_
      refine wr_i2l (pc := 81) (dget kX8_digestTold 43 rfl) rfl ?_
      refine wr_callSl (pc := 82) (Mc := mX8_mix) (rest := []) cf_X8_301 cs_X8_mix ⟨Nat.le_of_ble_eq_true rfl, Nat.le_of_ble_eq_true rfl⟩ rfl rfl (Nat.le_of_ble_eq_true rfl) (dget kX8_digestTold 44 rfl) (tX8_mix h) (fun r_4 σ_3 h => ?_)
      refine wr_lstore_n (pc := 85) (lv' := [(3, .long r_4), (0, .ref (G.1 0)), (5, .int x5)]) (dget kX8_digestTold 45 rfl) (by decide) rfl ?_
      refine wr_iconst (pc := 86) (dget kX8_digestTold 46 rfl) ic_0 ?_
      refine wr_istore (pc := 87) (lv' := [(6, .int (0 : Int32)), (3, .long r_4), (0, .ref (G.1 0)), (5, .int x5)]) (dget kX8_digestTold 47 rfl) (by decide) rfl ?_
      obtain ⟨fu, h⟩ := h
      refine wr_sub [2, 1, 3, 0] rfl ?_
      refine tX8_digestTold_89 (fun z3_5 σ_6 h => ?_) fu _ _ _ h
      obtain ⟨x5_7, e_x5_7⟩ : ∃ y : Int32, y = x5 + (1 : Int32) := ⟨_, rfl⟩
      have h := h x5_7 e_x5_7
      refine wr_iinc (pc := 121) (v := x5_7) (lv' := [(5, .int x5_7), (0, .ref (G.1 0)), (3, .long z3_5)]) (dget kX8_digestTold 63 rfl) 2 rfl (by rw [e_x5_7, ic_1]) (by decide) rfl ?_
      refine wr_goto (pc := 124) (tgt := 64) (dget kX8_digestTold 64 rfl) (by decide) ?_
      refine wr_sub [1, 2, 0] rfl ?_
      exact ih _ _ _ h
def vX8_digestTold_33 (post : Int64 → Hp → Prop) (ex : Int64 → Hp → Prop) : Nat → Int64 → Int32 → Hp → Prop
  | 0 => fun _ _ _ => False
  | n + 1 => fun x3 x5 σ => (((3 : Int32) ≤ x5 → (ex x3 σ)) ∧ (¬ (3 : Int32) ≤ x5 → (vp_in x5 3 ∧ (kd (rt 1 x5.toNatClampNeg) = 7 ∧ (vX8_mix x3 ((σ.1 (rt 1 x5.toNatClampNeg) 7)).toInt64 σ (fun r_5 σ_4 => (∀ x5_6 : Int32, x5_6 = x5 + (1 : Int32) → vX8_digestTold_33 post ex  n r_5 x5_6 σ_4)))))))
set_option maxHeartbeats 4000000 in
set_option maxRecDepth 100000 in
theorem tX8_digestTold_33 {G : GT} {post : Int64 → Hp → Prop} {ex : Int64 → Hp → Prop} (hex : ∀ (z3 : Int64) (τ : Hp), ex z3 τ → WP G mX8_digestTold 61 [(0, .ref (G.1 0)), (3, .long z3)] [] τ (LL post)) : ∀ (n : Nat) (x3 : Int64) (x5 : Int32) (σ : Hp), vX8_digestTold_33 post ex  n x3 x5 σ → WP G mX8_digestTold 33 [(0, .ref (G.1 0)), (3, .long x3), (5, .int x5)] [] σ (LL post) := by
  intro n
  induction n with
  | zero => intro x3 x5 σ h; exact False.elim h
  | succ n ih =>
    intro x3 x5 σ h
    simp only [vX8_digestTold_33] at h
    refine wr_iload (pc := 33) (dget kX8_digestTold 18 rfl) 2 rfl ?_
    refine wr_iconst (pc := 35) (dget kX8_digestTold 19 rfl) ic_3 ?_
    refine wr_icmp_ge (pc := 36) (tgt := 61) (dget kX8_digestTold 20 rfl) (by decide) (fun c_1 => ?_) (fun c_1 => ?_)
    · have h := h.1 c_1
      refine wr_sub [0, 1] rfl ?_
      exact hex _ _ h
    · have h := h.2 c_1
      refine wr_lload_n (pc := 39) (dget kX8_digestTold 21 rfl) 1 rfl ?_
      refine wr_aload_n (pc := 40) (dget kX8_digestTold 22 rfl) 0 rfl ?_
      refine wr_getRl (pc := 41) fl_X8_11 kd_0 fk_8_0 rt_0_0 (dget kX8_digestTold 23 rfl) ?_
      refine wr_iload (pc := 44) (dget kX8_digestTold 24 rfl) 2 rfl ?_
      obtain ⟨q_2, h⟩ := h
      refine wr_aaldl (pc := 46) (σ := σ) rl_1 q_2 (dget kX8_digestTold 25 rfl) ?_
      obtain ⟨q_3, h⟩ := h
      refine wr_getI (pc := 47) (σ := σ) fl_X8_100 q_3 fk_7_7 (dget kX8_digestTold 26 rfl) ?_
      refine wr_i2l (pc := 50) (dget kX8_digestTold 27 rfl) rfl ?_
      refine wr_callSl (pc := 51) (Mc := mX8_mix) (rest := []) cf_X8_301 cs_X8_mix ⟨Nat.le_of_ble_eq_true rfl, Nat.le_of_ble_eq_true rfl⟩ rfl rfl (Nat.le_of_ble_eq_true rfl) (dget kX8_digestTold 28 rfl) (tX8_mix h) (fun r_5 σ_4 h => ?_)
      refine wr_lstore_n (pc := 54) (lv' := [(3, .long r_5), (0, .ref (G.1 0)), (5, .int x5)]) (dget kX8_digestTold 29 rfl) (by decide) rfl ?_
      obtain ⟨x5_6, e_x5_6⟩ : ∃ y : Int32, y = x5 + (1 : Int32) := ⟨_, rfl⟩
      have h := h x5_6 e_x5_6
      refine wr_iinc (pc := 55) (v := x5_6) (lv' := [(5, .int x5_6), (3, .long r_5), (0, .ref (G.1 0))]) (dget kX8_digestTold 30 rfl) 2 rfl (by rw [e_x5_6, ic_1]) (by decide) rfl ?_
      refine wr_goto (pc := 58) (tgt := 33) (dget kX8_digestTold 31 rfl) (by decide) ?_
      refine wr_sub [2, 1, 0] rfl ?_
      exact ih _ _ _ h
def vX8_digestTold_5 (post : Int64 → Hp → Prop) (ex : Int64 → Hp → Prop) : Nat → Int64 → Int32 → Hp → Prop
  | 0 => fun _ _ _ => False
  | n + 1 => fun x3 x5 σ => (((7 : Int32) < x5 → (ex x3 σ)) ∧ (¬ (7 : Int32) < x5 → (vX8_tellCount x5 σ (fun r_3 σ_2 => (vX8_mix x3 r_3.toInt64 σ_2 (fun r_5 σ_4 => (∀ x5_6 : Int32, x5_6 = x5 + (1 : Int32) → vX8_digestTold_5 post ex  n r_5 x5_6 σ_4)))))))
set_option maxHeartbeats 4000000 in
set_option maxRecDepth 100000 in
theorem tX8_digestTold_5 {G : GT} {post : Int64 → Hp → Prop} {ex : Int64 → Hp → Prop} (hex : ∀ (z3 : Int64) (τ : Hp), ex z3 τ → WP G mX8_digestTold 30 [(0, .ref (G.1 0)), (3, .long z3)] [] τ (LL post)) : ∀ (n : Nat) (x3 : Int64) (x5 : Int32) (σ : Hp), vX8_digestTold_5 post ex  n x3 x5 σ → WP G mX8_digestTold 5 [(0, .ref (G.1 0)), (3, .long x3), (5, .int x5)] [] σ (LL post) := by
  intro n
  induction n with
  | zero => intro x3 x5 σ h; exact False.elim h
  | succ n ih =>
    intro x3 x5 σ h
    simp only [vX8_digestTold_5] at h
    refine wr_iload (pc := 5) (dget kX8_digestTold 4 rfl) 2 rfl ?_
    refine wr_bipush (pc := 7) (dget kX8_digestTold 5 rfl) bp_7 ?_
    refine wr_icmp_gt (pc := 9) (tgt := 30) (dget kX8_digestTold 6 rfl) (by decide) (fun c_1 => ?_) (fun c_1 => ?_)
    · have h := h.1 c_1
      refine wr_sub [0, 1] rfl ?_
      exact hex _ _ h
    · have h := h.2 c_1
      refine wr_lload_n (pc := 12) (dget kX8_digestTold 7 rfl) 1 rfl ?_
      refine wr_aload_n (pc := 13) (dget kX8_digestTold 8 rfl) 0 rfl ?_
      refine wr_iload (pc := 14) (dget kX8_digestTold 9 rfl) 2 rfl ?_
      refine wr_callVi (pc := 16) (Mc := mX8_tellCount) (o := 0) (rest := [.long x3]) cf_X8_273 cv_X8_tellCount kd_0 rfl ⟨Nat.le_of_ble_eq_true rfl, Nat.le_of_ble_eq_true rfl⟩ rfl rfl (Nat.le_of_ble_eq_true rfl) (dget kX8_digestTold 10 rfl) (tX8_tellCount h) (fun r_3 σ_2 h => ?_)
      refine wr_i2l (pc := 19) (dget kX8_digestTold 11 rfl) rfl ?_
      refine wr_callSl (pc := 20) (Mc := mX8_mix) (rest := []) cf_X8_301 cs_X8_mix ⟨Nat.le_of_ble_eq_true rfl, Nat.le_of_ble_eq_true rfl⟩ rfl rfl (Nat.le_of_ble_eq_true rfl) (dget kX8_digestTold 12 rfl) (tX8_mix h) (fun r_5 σ_4 h => ?_)
      refine wr_lstore_n (pc := 23) (lv' := [(3, .long r_5), (0, .ref (G.1 0)), (5, .int x5)]) (dget kX8_digestTold 13 rfl) (by decide) rfl ?_
      obtain ⟨x5_6, e_x5_6⟩ : ∃ y : Int32, y = x5 + (1 : Int32) := ⟨_, rfl⟩
      have h := h x5_6 e_x5_6
      refine wr_iinc (pc := 24) (v := x5_6) (lv' := [(5, .int x5_6), (3, .long r_5), (0, .ref (G.1 0))]) (dget kX8_digestTold 14 rfl) 2 rfl (by rw [e_x5_6, ic_1]) (by decide) rfl ?_
      refine wr_goto (pc := 27) (tgt := 5) (dget kX8_digestTold 15 rfl) (by decide) ?_
      refine wr_sub [2, 1, 0] rfl ?_
      exact ih _ _ _ h
def vX8_digestTold (p1 : Int64) (σ : Hp) (post : Int64 → Hp → Prop) : Prop := (∃ fu : Nat, vX8_digestTold_5 post (fun z3_1 σ_2 => (∃ fu : Nat, vX8_digestTold_33 post (fun z3_3 σ_4 => (∃ fu : Nat, vX8_digestTold_64 post (fun z3_5 σ_6 => (∃ fu : Nat, vX8_digestTold_130 post (fun z3_7 σ_8 => post z3_7 σ_8)  fu z3_5 (0 : Int32) σ_6))  fu z3_3 (0 : Int32) σ_4))  fu z3_1 (0 : Int32) σ_2))  fu p1 (0 : Int32) σ)
set_option maxHeartbeats 4000000 in
set_option maxRecDepth 100000 in
theorem tX8_digestTold {G : GT} {p1 : Int64} {σ : Hp} {post : Int64 → Hp → Prop} (h : vX8_digestTold p1 σ post) : CT G mX8_digestTold [.ref (G.1 0), .long p1] σ (LL post) := by
  refine CT.of (by decide +kernel) (Nat.le_of_ble_eq_true rfl) ?_
  show WP G mX8_digestTold 0 [(0, .ref (G.1 0)), (1, .long p1)] [] σ (LL post)
  unfold vX8_digestTold at h
  refine wr_lload_n (pc := 0) (dget kX8_digestTold 0 rfl) 1 rfl ?_
  refine wr_lstore_n (pc := 1) (lv' := [(3, .long p1), (0, .ref (G.1 0)), (1, .long p1)]) (dget kX8_digestTold 1 rfl) (by decide) rfl ?_
  refine wr_iconst (pc := 2) (dget kX8_digestTold 2 rfl) ic_0 ?_
  refine wr_istore (pc := 3) (lv' := [(5, .int (0 : Int32)), (3, .long p1), (0, .ref (G.1 0)), (1, .long p1)]) (dget kX8_digestTold 3 rfl) (by decide) rfl ?_
  obtain ⟨fu, h⟩ := h
  refine wr_sub [2, 1, 0] rfl ?_
  refine tX8_digestTold_5 (fun z3_1 σ_2 h => ?_) fu _ _ _ h
  refine wr_iconst (pc := 30) (dget kX8_digestTold 16 rfl) ic_0 ?_
  refine wr_istore (pc := 31) (lv' := [(5, .int (0 : Int32)), (0, .ref (G.1 0)), (3, .long z3_1)]) (dget kX8_digestTold 17 rfl) (by decide) rfl ?_
  obtain ⟨fu, h⟩ := h
  refine wr_sub [1, 2, 0] rfl ?_
  refine tX8_digestTold_33 (fun z3_3 σ_4 h => ?_) fu _ _ _ h
  refine wr_iconst (pc := 61) (dget kX8_digestTold 32 rfl) ic_0 ?_
  refine wr_istore (pc := 62) (lv' := [(5, .int (0 : Int32)), (0, .ref (G.1 0)), (3, .long z3_3)]) (dget kX8_digestTold 33 rfl) (by decide) rfl ?_
  obtain ⟨fu, h⟩ := h
  refine wr_sub [1, 2, 0] rfl ?_
  refine tX8_digestTold_64 (fun z3_5 σ_6 h => ?_) fu _ _ _ h
  refine wr_iconst (pc := 127) (dget kX8_digestTold 65 rfl) ic_0 ?_
  refine wr_istore (pc := 128) (lv' := [(5, .int (0 : Int32)), (0, .ref (G.1 0)), (3, .long z3_5)]) (dget kX8_digestTold 66 rfl) (by decide) rfl ?_
  obtain ⟨fu, h⟩ := h
  refine wr_sub [1, 2, 0] rfl ?_
  refine tX8_digestTold_130 (fun z3_7 σ_8 h => ?_) fu _ _ _ h
  refine wr_lload_n (pc := 162) (dget kX8_digestTold 82 rfl) 0 rfl ?_
  exact wr_lret (pc := 163) rfl (dget kX8_digestTold 83 rfl) ⟨_, rfl, h⟩
def vX8_digest_44 (post : Int64 → Hp → Prop) (ex : Int64 → Hp → Prop) : Nat → Int64 → Int32 → Hp → Prop
  | 0 => fun _ _ _ => False
  | n + 1 => fun x1 x3 σ => (((σ.1 24 3) ≤ x3 → (ex x1 σ)) ∧ (¬ (σ.1 24 3) ≤ x3 → (vX8_digestShot x1 x3 σ (fun r_3 σ_2 => (∀ x3_4 : Int32, x3_4 = x3 + (1 : Int32) → vX8_digest_44 post ex  n r_3 x3_4 σ_2)))))
set_option maxHeartbeats 4000000 in
set_option maxRecDepth 100000 in
theorem tX8_digest_44 {G : GT} {post : Int64 → Hp → Prop} {ex : Int64 → Hp → Prop} (hex : ∀ (z1 : Int64) (τ : Hp), ex z1 τ → WP G mX8_digest 71 [(0, .ref (G.1 0)), (1, .long z1)] [] τ (LL post)) : ∀ (n : Nat) (x1 : Int64) (x3 : Int32) (σ : Hp), vX8_digest_44 post ex  n x1 x3 σ → WP G mX8_digest 44 [(0, .ref (G.1 0)), (1, .long x1), (3, .int x3)] [] σ (LL post) := by
  intro n
  induction n with
  | zero => intro x1 x3 σ h; exact False.elim h
  | succ n ih =>
    intro x1 x3 σ h
    simp only [vX8_digest_44] at h
    refine wr_iload_n (pc := 44) (dget kX8_digest 24 rfl) 2 rfl ?_
    refine wr_aload_n (pc := 45) (dget kX8_digest 25 rfl) 0 rfl ?_
    refine wr_getRl (pc := 46) fl_X8_46 kd_0 fk_8_5 rt_0_5 (dget kX8_digest 26 rfl) ?_
    refine wr_getRl (pc := 49) fl_X8_118 kd_23 fk_2_1 rt_23_1 (dget kX8_digest 27 rfl) ?_
    refine wr_getI (pc := 52) (σ := σ) fl_X8_289 kd_24 fk_5_3 (dget kX8_digest 28 rfl) ?_
    refine wr_icmp_ge (pc := 55) (tgt := 71) (dget kX8_digest 29 rfl) (by decide) (fun c_1 => ?_) (fun c_1 => ?_)
    · have h := h.1 c_1
      refine wr_sub [0, 1] rfl ?_
      exact hex _ _ h
    · have h := h.2 c_1
      refine wr_aload_n (pc := 58) (dget kX8_digest 30 rfl) 0 rfl ?_
      refine wr_lload_n (pc := 59) (dget kX8_digest 31 rfl) 1 rfl ?_
      refine wr_iload_n (pc := 60) (dget kX8_digest 32 rfl) 2 rfl ?_
      refine wr_callVl (pc := 61) (Mc := mX8_digestShot) (o := 0) (rest := []) cf_X8_290 cv_X8_digestShot kd_0 rfl ⟨Nat.le_of_ble_eq_true rfl, Nat.le_of_ble_eq_true rfl⟩ rfl rfl (Nat.le_of_ble_eq_true rfl) (dget kX8_digest 33 rfl) (tX8_digestShot h) (fun r_3 σ_2 h => ?_)
      refine wr_lstore_n (pc := 64) (lv' := [(1, .long r_3), (0, .ref (G.1 0)), (3, .int x3)]) (dget kX8_digest 34 rfl) (by decide) rfl ?_
      obtain ⟨x3_4, e_x3_4⟩ : ∃ y : Int32, y = x3 + (1 : Int32) := ⟨_, rfl⟩
      have h := h x3_4 e_x3_4
      refine wr_iinc (pc := 65) (v := x3_4) (lv' := [(3, .int x3_4), (1, .long r_3), (0, .ref (G.1 0))]) (dget kX8_digest 35 rfl) 2 rfl (by rw [e_x3_4, ic_1]) (by decide) rfl ?_
      refine wr_goto (pc := 68) (tgt := 44) (dget kX8_digest 36 rfl) (by decide) ?_
      refine wr_sub [2, 1, 0] rfl ?_
      exact ih _ _ _ h
def vX8_digest_18 (post : Int64 → Hp → Prop) (ex : Int64 → Hp → Prop) : Nat → Int64 → Int32 → Hp → Prop
  | 0 => fun _ _ _ => False
  | n + 1 => fun x1 x3 σ => (((σ.1 2 5) ≤ x3 → (ex x1 σ)) ∧ (¬ (σ.1 2 5) ≤ x3 → (vX8_digestDuck x1 x3 σ (fun r_3 σ_2 => (∀ x3_4 : Int32, x3_4 = x3 + (1 : Int32) → vX8_digest_18 post ex  n r_3 x3_4 σ_2)))))
set_option maxHeartbeats 4000000 in
set_option maxRecDepth 100000 in
theorem tX8_digest_18 {G : GT} {post : Int64 → Hp → Prop} {ex : Int64 → Hp → Prop} (hex : ∀ (z1 : Int64) (τ : Hp), ex z1 τ → WP G mX8_digest 42 [(0, .ref (G.1 0)), (1, .long z1)] [] τ (LL post)) : ∀ (n : Nat) (x1 : Int64) (x3 : Int32) (σ : Hp), vX8_digest_18 post ex  n x1 x3 σ → WP G mX8_digest 18 [(0, .ref (G.1 0)), (1, .long x1), (3, .int x3)] [] σ (LL post) := by
  intro n
  induction n with
  | zero => intro x1 x3 σ h; exact False.elim h
  | succ n ih =>
    intro x1 x3 σ h
    simp only [vX8_digest_18] at h
    refine wr_iload_n (pc := 18) (dget kX8_digest 10 rfl) 2 rfl ?_
    refine wr_aload_n (pc := 19) (dget kX8_digest 11 rfl) 0 rfl ?_
    refine wr_getRl (pc := 20) fl_X8_18 kd_0 fk_8_1 rt_0_1 (dget kX8_digest 12 rfl) ?_
    refine wr_getI (pc := 23) (σ := σ) fl_X8_282 kd_2 fk_6_5 (dget kX8_digest 13 rfl) ?_
    refine wr_icmp_ge (pc := 26) (tgt := 42) (dget kX8_digest 14 rfl) (by decide) (fun c_1 => ?_) (fun c_1 => ?_)
    · have h := h.1 c_1
      refine wr_sub [0, 1] rfl ?_
      exact hex _ _ h
    · have h := h.2 c_1
      refine wr_aload_n (pc := 29) (dget kX8_digest 15 rfl) 0 rfl ?_
      refine wr_lload_n (pc := 30) (dget kX8_digest 16 rfl) 1 rfl ?_
      refine wr_iload_n (pc := 31) (dget kX8_digest 17 rfl) 2 rfl ?_
      refine wr_callVl (pc := 32) (Mc := mX8_digestDuck) (o := 0) (rest := []) cf_X8_285 cv_X8_digestDuck kd_0 rfl ⟨Nat.le_of_ble_eq_true rfl, Nat.le_of_ble_eq_true rfl⟩ rfl rfl (Nat.le_of_ble_eq_true rfl) (dget kX8_digest 18 rfl) (tX8_digestDuck h) (fun r_3 σ_2 h => ?_)
      refine wr_lstore_n (pc := 35) (lv' := [(1, .long r_3), (0, .ref (G.1 0)), (3, .int x3)]) (dget kX8_digest 19 rfl) (by decide) rfl ?_
      obtain ⟨x3_4, e_x3_4⟩ : ∃ y : Int32, y = x3 + (1 : Int32) := ⟨_, rfl⟩
      have h := h x3_4 e_x3_4
      refine wr_iinc (pc := 36) (v := x3_4) (lv' := [(3, .int x3_4), (1, .long r_3), (0, .ref (G.1 0))]) (dget kX8_digest 20 rfl) 2 rfl (by rw [e_x3_4, ic_1]) (by decide) rfl ?_
      refine wr_goto (pc := 39) (tgt := 18) (dget kX8_digest 21 rfl) (by decide) ?_
      refine wr_sub [2, 1, 0] rfl ?_
      exact ih _ _ _ h
def vX8_digest (σ : Hp) (post : Int64 → Hp → Prop) : Prop := (vX8_settle  σ (fun σ_1 => (vX8_learnChances  σ_1 (fun σ_3 => (vX8_digestTold (17 : Int64) σ_3 (fun r_6 σ_5 => (∃ fu : Nat, vX8_digest_18 post (fun z1_7 σ_8 => (∃ fu : Nat, vX8_digest_44 post (fun z1_9 σ_10 => (vX8_digestSums z1_9 σ_10 (fun r_12 σ_11 => (vX8_digestPlans r_12 σ_11 (fun r_14 σ_13 => post r_14 σ_13)))))  fu z1_7 (0 : Int32) σ_8))  fu r_6 (0 : Int32) σ_5)))))))
set_option maxHeartbeats 4000000 in
set_option maxRecDepth 100000 in
theorem tX8_digest {G : GT} {σ : Hp} {post : Int64 → Hp → Prop} (h : vX8_digest  σ post) : CT G mX8_digest [.ref (G.1 0)] σ (LL post) := by
  refine CT.of (by decide +kernel) (Nat.le_of_ble_eq_true rfl) ?_
  show WP G mX8_digest 0 [(0, .ref (G.1 0))] [] σ (LL post)
  unfold vX8_digest at h
  refine wr_aload_n (pc := 0) (dget kX8_digest 0 rfl) 0 rfl ?_
  refine wr_callVv (pc := 1) (Mc := mX8_settle) (o := 0) (rest := []) cf_X8_97 cv_X8_settle kd_0 rfl ⟨Nat.le_of_ble_eq_true rfl, Nat.le_of_ble_eq_true rfl⟩ rfl rfl (Nat.le_of_ble_eq_true rfl) (dget kX8_digest 1 rfl) (tX8_settle h) (fun σ_1 h => ?_)
  refine wr_aload_n (pc := 4) (dget kX8_digest 2 rfl) 0 rfl ?_
  refine wr_callVv (pc := 5) (Mc := mX8_learnChances) (o := 0) (rest := []) cf_X8_227 cv_X8_learnChances kd_0 rfl ⟨Nat.le_of_ble_eq_true rfl, Nat.le_of_ble_eq_true rfl⟩ rfl rfl (Nat.le_of_ble_eq_true rfl) (dget kX8_digest 3 rfl) (tX8_learnChances h) (fun σ_3 h => ?_)
  refine wr_aload_n (pc := 8) (dget kX8_digest 4 rfl) 0 rfl ?_
  refine wr_ldc2 (pc := 9) kl_X8_276 (dget kX8_digest 5 rfl) ?_
  refine wr_callVl (pc := 12) (Mc := mX8_digestTold) (o := 0) (rest := []) cf_X8_278 cv_X8_digestTold kd_0 rfl ⟨Nat.le_of_ble_eq_true rfl, Nat.le_of_ble_eq_true rfl⟩ rfl rfl (Nat.le_of_ble_eq_true rfl) (dget kX8_digest 6 rfl) (tX8_digestTold h) (fun r_6 σ_5 h => ?_)
  refine wr_lstore_n (pc := 15) (lv' := [(1, .long r_6), (0, .ref (G.1 0))]) (dget kX8_digest 7 rfl) (by decide) rfl ?_
  refine wr_iconst (pc := 16) (dget kX8_digest 8 rfl) ic_0 ?_
  refine wr_istore_n (pc := 17) (lv' := [(3, .int (0 : Int32)), (1, .long r_6), (0, .ref (G.1 0))]) (dget kX8_digest 9 rfl) (by decide) rfl ?_
  obtain ⟨fu, h⟩ := h
  refine wr_sub [2, 1, 0] rfl ?_
  refine tX8_digest_18 (fun z1_7 σ_8 h => ?_) fu _ _ _ h
  refine wr_iconst (pc := 42) (dget kX8_digest 22 rfl) ic_0 ?_
  refine wr_istore_n (pc := 43) (lv' := [(3, .int (0 : Int32)), (0, .ref (G.1 0)), (1, .long z1_7)]) (dget kX8_digest 23 rfl) (by decide) rfl ?_
  obtain ⟨fu, h⟩ := h
  refine wr_sub [1, 2, 0] rfl ?_
  refine tX8_digest_44 (fun z1_9 σ_10 h => ?_) fu _ _ _ h
  refine wr_aload_n (pc := 71) (dget kX8_digest 37 rfl) 0 rfl ?_
  refine wr_aload_n (pc := 72) (dget kX8_digest 38 rfl) 0 rfl ?_
  refine wr_lload_n (pc := 73) (dget kX8_digest 39 rfl) 1 rfl ?_
  refine wr_callVl (pc := 74) (Mc := mX8_digestSums) (o := 0) (rest := [.ref (G.1 0)]) cf_X8_293 cv_X8_digestSums kd_0 rfl ⟨Nat.le_of_ble_eq_true rfl, Nat.le_of_ble_eq_true rfl⟩ rfl rfl (Nat.le_of_ble_eq_true rfl) (dget kX8_digest 40 rfl) (tX8_digestSums h) (fun r_12 σ_11 h => ?_)
  refine wr_callVl (pc := 77) (Mc := mX8_digestPlans) (o := 0) (rest := []) cf_X8_296 cv_X8_digestPlans kd_0 rfl ⟨Nat.le_of_ble_eq_true rfl, Nat.le_of_ble_eq_true rfl⟩ rfl rfl (Nat.le_of_ble_eq_true rfl) (dget kX8_digest 41 rfl) (tX8_digestPlans h) (fun r_14 σ_13 h => ?_)
  exact wr_lret (pc := 80) rfl (dget kX8_digest 42 rfl) ⟨_, rfl, h⟩
