def vX9_tellsShot_46 (post : Int64 → Hp → Prop) (ex : Int64 → Hp → Prop) (x3 : Int32) : Nat → Int64 → Int32 → Hp → Prop
  | 0 => fun _ _ _ => False
  | n + 1 => fun x4 x6 σ => (((3 : Int32) ≤ x6 → (ex x4 σ)) ∧ (¬ (3 : Int32) ≤ x6 → (vX9_hitsBy x3 x6 σ (fun r_3 σ_2 => (∀ x4_4 : Int64, x4_4 = (((31 : Int64) * x4) + r_3.toInt64) → (∀ x6_5 : Int32, x6_5 = x6 + (1 : Int32) → vX9_tellsShot_46 post ex x3 n x4_4 x6_5 σ_2))))))
set_option maxHeartbeats 4000000 in
set_option maxRecDepth 100000 in
theorem tX9_tellsShot_46 {G : GT} {post : Int64 → Hp → Prop} {ex : Int64 → Hp → Prop} {x3 : Int32} (hex : ∀ (z4 : Int64) (τ : Hp), ex z4 τ → WP G mX9_tellsShot 75 [(0, .ref (G.1 71)), (3, .int x3), (4, .long z4)] [] τ (LL post)) : ∀ (n : Nat) (x4 : Int64) (x6 : Int32) (σ : Hp), vX9_tellsShot_46 post ex x3 n x4 x6 σ → WP G mX9_tellsShot 46 [(0, .ref (G.1 71)), (3, .int x3), (4, .long x4), (6, .int x6)] [] σ (LL post) := by
  intro n
  induction n with
  | zero => intro x4 x6 σ h; exact False.elim h
  | succ n ih =>
    intro x4 x6 σ h
    simp only [vX9_tellsShot_46] at h
    refine wr_iload (pc := 46) (dget kX9_tellsShot 27 rfl) 3 rfl ?_
    refine wr_iconst (pc := 48) (dget kX9_tellsShot 28 rfl) ic_3 ?_
    refine wr_icmp_ge (pc := 49) (tgt := 75) (dget kX9_tellsShot 29 rfl) (by decide) (fun c_1 => ?_) (fun c_1 => ?_)
    · have h := h.1 c_1
      refine wr_sub [0, 1, 2] rfl ?_
      exact hex _ _ h
    · have h := h.2 c_1
      refine wr_ldc2 (pc := 52) kl_X9_313 (dget kX9_tellsShot 30 rfl) ?_
      refine wr_lload (pc := 55) (dget kX9_tellsShot 31 rfl) 2 rfl ?_
      refine wr_lmul (pc := 57) (dget kX9_tellsShot 32 rfl) ?_
      refine wr_aload_n (pc := 58) (dget kX9_tellsShot 33 rfl) 0 rfl ?_
      refine wr_iload_n (pc := 59) (dget kX9_tellsShot 34 rfl) 1 rfl ?_
      refine wr_iload (pc := 60) (dget kX9_tellsShot 35 rfl) 3 rfl ?_
      refine wr_callVi (pc := 62) (Mc := mX9_hitsBy) (o := 71) (rest := [.long ((31 : Int64) * x4)]) cf_X9_218 cv_X9_hitsBy kd_71 rfl ⟨Nat.le_of_ble_eq_true rfl, Nat.le_of_ble_eq_true rfl⟩ rfl rfl (Nat.le_of_ble_eq_true rfl) (dget kX9_tellsShot 36 rfl) (tX9_hitsBy h) (fun r_3 σ_2 h => ?_)
      refine wr_i2l (pc := 65) (dget kX9_tellsShot 37 rfl) rfl ?_
      refine wr_ladd (pc := 66) (dget kX9_tellsShot 38 rfl) ?_
      refine wr_topl (fun x4_4 e_x4_4 => ?_)
      have h := h x4_4 e_x4_4
      refine wr_lstore (pc := 67) (lv' := [(4, .long x4_4), (0, .ref (G.1 71)), (3, .int x3), (6, .int x6)]) (dget kX9_tellsShot 39 rfl) (by decide) rfl ?_
      obtain ⟨x6_5, e_x6_5⟩ : ∃ y : Int32, y = x6 + (1 : Int32) := ⟨_, rfl⟩
      have h := h x6_5 e_x6_5
      refine wr_iinc (pc := 69) (v := x6_5) (lv' := [(6, .int x6_5), (4, .long x4_4), (0, .ref (G.1 71)), (3, .int x3)]) (dget kX9_tellsShot 40 rfl) 3 rfl (by rw [e_x6_5, ic_1]) (by decide) rfl ?_
      refine wr_goto (pc := 72) (tgt := 46) (dget kX9_tellsShot 41 rfl) (by decide) ?_
      refine wr_sub [2, 3, 1, 0] rfl ?_
      exact ih _ _ _ h
def vX9_tellsShot_10 (post : Int64 → Hp → Prop) (ex : Int64 → Hp → Prop) (x3 : Int32) : Nat → Int64 → Int32 → Hp → Prop
  | 0 => fun _ _ _ => False
  | n + 1 => fun x4 x6 σ => (((3 : Int32) ≤ x6 → (ex x4 σ)) ∧ (¬ (3 : Int32) ≤ x6 → (vp_in (((3 : Int32) * x3) + x6) 36 ∧ (∀ x4_3 : Int64, x4_3 = (((31 : Int64) * x4) + ((σ.1 80 ((((3 : Int32) * x3) + x6)).toNatClampNeg)).toInt64) → (∀ x6_4 : Int32, x6_4 = x6 + (1 : Int32) → vX9_tellsShot_10 post ex x3 n x4_3 x6_4 σ)))))
set_option maxHeartbeats 4000000 in
set_option maxRecDepth 100000 in
theorem tX9_tellsShot_10 {G : GT} {post : Int64 → Hp → Prop} {ex : Int64 → Hp → Prop} {x3 : Int32} (hex : ∀ (z4 : Int64) (τ : Hp), ex z4 τ → WP G mX9_tellsShot 43 [(0, .ref (G.1 71)), (3, .int x3), (4, .long z4)] [] τ (LL post)) : ∀ (n : Nat) (x4 : Int64) (x6 : Int32) (σ : Hp), vX9_tellsShot_10 post ex x3 n x4 x6 σ → WP G mX9_tellsShot 10 [(0, .ref (G.1 71)), (3, .int x3), (4, .long x4), (6, .int x6)] [] σ (LL post) := by
  intro n
  induction n with
  | zero => intro x4 x6 σ h; exact False.elim h
  | succ n ih =>
    intro x4 x6 σ h
    simp only [vX9_tellsShot_10] at h
    refine wr_iload (pc := 10) (dget kX9_tellsShot 6 rfl) 3 rfl ?_
    refine wr_iconst (pc := 12) (dget kX9_tellsShot 7 rfl) ic_3 ?_
    refine wr_icmp_ge (pc := 13) (tgt := 43) (dget kX9_tellsShot 8 rfl) (by decide) (fun c_1 => ?_) (fun c_1 => ?_)
    · have h := h.1 c_1
      refine wr_sub [0, 1, 2] rfl ?_
      exact hex _ _ h
    · have h := h.2 c_1
      refine wr_ldc2 (pc := 16) kl_X9_313 (dget kX9_tellsShot 9 rfl) ?_
      refine wr_lload (pc := 19) (dget kX9_tellsShot 10 rfl) 2 rfl ?_
      refine wr_lmul (pc := 21) (dget kX9_tellsShot 11 rfl) ?_
      refine wr_aload_n (pc := 22) (dget kX9_tellsShot 12 rfl) 0 rfl ?_
      refine wr_getRl (pc := 23) fl_X9_34 kd_71 fk_9_11 rt_71_11 (dget kX9_tellsShot 13 rfl) ?_
      refine wr_iconst (pc := 26) (dget kX9_tellsShot 14 rfl) ic_3 ?_
      refine wr_iload_n (pc := 27) (dget kX9_tellsShot 15 rfl) 1 rfl ?_
      refine wr_imul (pc := 28) (dget kX9_tellsShot 16 rfl) ?_
      refine wr_iload (pc := 29) (dget kX9_tellsShot 17 rfl) 3 rfl ?_
      refine wr_iadd (pc := 31) (dget kX9_tellsShot 18 rfl) ?_
      obtain ⟨q_2, h⟩ := h
      refine wr_ialdl (pc := 32) (σ := σ) il_80 q_2 (dget kX9_tellsShot 19 rfl) ?_
      refine wr_i2l (pc := 33) (dget kX9_tellsShot 20 rfl) rfl ?_
      refine wr_ladd (pc := 34) (dget kX9_tellsShot 21 rfl) ?_
      refine wr_topl (fun x4_3 e_x4_3 => ?_)
      have h := h x4_3 e_x4_3
      refine wr_lstore (pc := 35) (lv' := [(4, .long x4_3), (0, .ref (G.1 71)), (3, .int x3), (6, .int x6)]) (dget kX9_tellsShot 22 rfl) (by decide) rfl ?_
      obtain ⟨x6_4, e_x6_4⟩ : ∃ y : Int32, y = x6 + (1 : Int32) := ⟨_, rfl⟩
      have h := h x6_4 e_x6_4
      refine wr_iinc (pc := 37) (v := x6_4) (lv' := [(6, .int x6_4), (4, .long x4_3), (0, .ref (G.1 71)), (3, .int x3)]) (dget kX9_tellsShot 23 rfl) 3 rfl (by rw [e_x6_4, ic_1]) (by decide) rfl ?_
      refine wr_goto (pc := 40) (tgt := 10) (dget kX9_tellsShot 24 rfl) (by decide) ?_
      refine wr_sub [2, 3, 1, 0] rfl ?_
      exact ih _ _ _ h
def vX9_tellsShot (p1 : Int64) (p2 : Int32) (σ : Hp) (post : Int64 → Hp → Prop) : Prop := (vX9_lives  σ (fun σ_1 => (∃ fu : Nat, vX9_tellsShot_10 post (fun z4_3 σ_4 => (∃ fu : Nat, vX9_tellsShot_46 post (fun z4_5 σ_6 => (vX9_shotBetter (((3 : Int32) * p2) + (2 : Int32)) (6 : Int32) (0 : Int32) σ_6 (fun r_8 σ_7 => (∀ x4_9 : Int64, x4_9 = (((31 : Int64) * z4_5) + r_8.toInt64) → (vX9_shotBetter (((3 : Int32) * p2) + (2 : Int32)) (6 : Int32) (1 : Int32) σ_7 (fun r_11 σ_10 => (∀ x4_12 : Int64, x4_12 = (((31 : Int64) * x4_9) + r_11.toInt64) → (vX9_shotBetter ((3 : Int32) * p2) (24 : Int32) (0 : Int32) σ_10 (fun r_14 σ_13 => (∀ x4_15 : Int64, x4_15 = (((31 : Int64) * x4_12) + r_14.toInt64) → (vX9_shotBetter ((3 : Int32) * p2) (24 : Int32) (1 : Int32) σ_13 (fun r_17 σ_16 => (∀ x4_18 : Int64, x4_18 = (((31 : Int64) * x4_15) + r_17.toInt64) → (vX9_chanceOf (5 : Int32) p2 (0 : Int32) σ_16 (fun r_20 σ_19 => (∀ x4_21 : Int64, x4_21 = (((31 : Int64) * x4_18) + r_20) → (vX9_chanceOf (5 : Int32) p2 (1 : Int32) σ_19 (fun r_23 σ_22 => post (((31 : Int64) * x4_21) + r_23) σ_22)))))))))))))))))) p2 fu z4_3 (0 : Int32) σ_4)) p2 fu p1 (0 : Int32) σ_1)))
set_option maxHeartbeats 4000000 in
set_option maxRecDepth 100000 in
theorem tX9_tellsShot {G : GT} {p1 : Int64} {p2 : Int32} {σ : Hp} {post : Int64 → Hp → Prop} (h : vX9_tellsShot p1 p2 σ post) : CT G mX9_tellsShot [.ref (G.1 71), .long p1, .int p2] σ (LL post) := by
  refine CT.of (by decide +kernel) (Nat.le_of_ble_eq_true rfl) ?_
  show WP G mX9_tellsShot 0 [(0, .ref (G.1 71)), (1, .long p1), (3, .int p2)] [] σ (LL post)
  unfold vX9_tellsShot at h
  refine wr_aload_n (pc := 0) (dget kX9_tellsShot 0 rfl) 0 rfl ?_
  refine wr_callVv (pc := 1) (Mc := mX9_lives) (o := 71) (rest := []) cf_X9_203 cv_X9_lives kd_71 rfl ⟨Nat.le_of_ble_eq_true rfl, Nat.le_of_ble_eq_true rfl⟩ rfl rfl (Nat.le_of_ble_eq_true rfl) (dget kX9_tellsShot 1 rfl) (tX9_lives h) (fun σ_1 h => ?_)
  refine wr_lload_n (pc := 4) (dget kX9_tellsShot 2 rfl) 1 rfl ?_
  refine wr_lstore (pc := 5) (lv' := [(4, .long p1), (0, .ref (G.1 71)), (1, .long p1), (3, .int p2)]) (dget kX9_tellsShot 3 rfl) (by decide) rfl ?_
  refine wr_iconst (pc := 7) (dget kX9_tellsShot 4 rfl) ic_0 ?_
  refine wr_istore (pc := 8) (lv' := [(6, .int (0 : Int32)), (4, .long p1), (0, .ref (G.1 71)), (1, .long p1), (3, .int p2)]) (dget kX9_tellsShot 5 rfl) (by decide) rfl ?_
  obtain ⟨fu, h⟩ := h
  refine wr_sub [2, 4, 1, 0] rfl ?_
  refine tX9_tellsShot_10 (fun z4_3 σ_4 h => ?_) fu _ _ _ h
  refine wr_iconst (pc := 43) (dget kX9_tellsShot 25 rfl) ic_0 ?_
  refine wr_istore (pc := 44) (lv' := [(6, .int (0 : Int32)), (0, .ref (G.1 71)), (3, .int p2), (4, .long z4_3)]) (dget kX9_tellsShot 26 rfl) (by decide) rfl ?_
  obtain ⟨fu, h⟩ := h
  refine wr_sub [1, 2, 3, 0] rfl ?_
  refine tX9_tellsShot_46 (fun z4_5 σ_6 h => ?_) fu _ _ _ h
  refine wr_ldc2 (pc := 75) kl_X9_313 (dget kX9_tellsShot 42 rfl) ?_
  refine wr_lload (pc := 78) (dget kX9_tellsShot 43 rfl) 2 rfl ?_
  refine wr_lmul (pc := 80) (dget kX9_tellsShot 44 rfl) ?_
  refine wr_aload_n (pc := 81) (dget kX9_tellsShot 45 rfl) 0 rfl ?_
  refine wr_iconst (pc := 82) (dget kX9_tellsShot 46 rfl) ic_3 ?_
  refine wr_iload_n (pc := 83) (dget kX9_tellsShot 47 rfl) 1 rfl ?_
  refine wr_imul (pc := 84) (dget kX9_tellsShot 48 rfl) ?_
  refine wr_iconst (pc := 85) (dget kX9_tellsShot 49 rfl) ic_2 ?_
  refine wr_iadd (pc := 86) (dget kX9_tellsShot 50 rfl) ?_
  refine wr_bipush (pc := 87) (dget kX9_tellsShot 51 rfl) bp_6 ?_
  refine wr_iconst (pc := 89) (dget kX9_tellsShot 52 rfl) ic_0 ?_
  refine wr_callVi (pc := 90) (Mc := mX9_shotBetter) (o := 71) (rest := [.long ((31 : Int64) * z4_5)]) cf_X9_242 cv_X9_shotBetter kd_71 rfl ⟨Nat.le_of_ble_eq_true rfl, Nat.le_of_ble_eq_true rfl⟩ rfl rfl (Nat.le_of_ble_eq_true rfl) (dget kX9_tellsShot 53 rfl) (tX9_shotBetter h) (fun r_8 σ_7 h => ?_)
  refine wr_i2l (pc := 93) (dget kX9_tellsShot 54 rfl) rfl ?_
  refine wr_ladd (pc := 94) (dget kX9_tellsShot 55 rfl) ?_
  refine wr_topl (fun x4_9 e_x4_9 => ?_)
  have h := h x4_9 e_x4_9
  refine wr_lstore (pc := 95) (lv' := [(4, .long x4_9), (0, .ref (G.1 71)), (3, .int p2)]) (dget kX9_tellsShot 56 rfl) (by decide) rfl ?_
  refine wr_ldc2 (pc := 97) kl_X9_313 (dget kX9_tellsShot 57 rfl) ?_
  refine wr_lload (pc := 100) (dget kX9_tellsShot 58 rfl) 0 rfl ?_
  refine wr_lmul (pc := 102) (dget kX9_tellsShot 59 rfl) ?_
  refine wr_aload_n (pc := 103) (dget kX9_tellsShot 60 rfl) 1 rfl ?_
  refine wr_iconst (pc := 104) (dget kX9_tellsShot 61 rfl) ic_3 ?_
  refine wr_iload_n (pc := 105) (dget kX9_tellsShot 62 rfl) 2 rfl ?_
  refine wr_imul (pc := 106) (dget kX9_tellsShot 63 rfl) ?_
  refine wr_iconst (pc := 107) (dget kX9_tellsShot 64 rfl) ic_2 ?_
  refine wr_iadd (pc := 108) (dget kX9_tellsShot 65 rfl) ?_
  refine wr_bipush (pc := 109) (dget kX9_tellsShot 66 rfl) bp_6 ?_
  refine wr_iconst (pc := 111) (dget kX9_tellsShot 67 rfl) ic_1 ?_
  refine wr_callVi (pc := 112) (Mc := mX9_shotBetter) (o := 71) (rest := [.long ((31 : Int64) * x4_9)]) cf_X9_242 cv_X9_shotBetter kd_71 rfl ⟨Nat.le_of_ble_eq_true rfl, Nat.le_of_ble_eq_true rfl⟩ rfl rfl (Nat.le_of_ble_eq_true rfl) (dget kX9_tellsShot 68 rfl) (tX9_shotBetter h) (fun r_11 σ_10 h => ?_)
  refine wr_i2l (pc := 115) (dget kX9_tellsShot 69 rfl) rfl ?_
  refine wr_ladd (pc := 116) (dget kX9_tellsShot 70 rfl) ?_
  refine wr_topl (fun x4_12 e_x4_12 => ?_)
  have h := h x4_12 e_x4_12
  refine wr_lstore (pc := 117) (lv' := [(4, .long x4_12), (0, .ref (G.1 71)), (3, .int p2)]) (dget kX9_tellsShot 71 rfl) (by decide) rfl ?_
  refine wr_ldc2 (pc := 119) kl_X9_313 (dget kX9_tellsShot 72 rfl) ?_
  refine wr_lload (pc := 122) (dget kX9_tellsShot 73 rfl) 0 rfl ?_
  refine wr_lmul (pc := 124) (dget kX9_tellsShot 74 rfl) ?_
  refine wr_aload_n (pc := 125) (dget kX9_tellsShot 75 rfl) 1 rfl ?_
  refine wr_iconst (pc := 126) (dget kX9_tellsShot 76 rfl) ic_3 ?_
  refine wr_iload_n (pc := 127) (dget kX9_tellsShot 77 rfl) 2 rfl ?_
  refine wr_imul (pc := 128) (dget kX9_tellsShot 78 rfl) ?_
  refine wr_bipush (pc := 129) (dget kX9_tellsShot 79 rfl) bp_24 ?_
  refine wr_iconst (pc := 131) (dget kX9_tellsShot 80 rfl) ic_0 ?_
  refine wr_callVi (pc := 132) (Mc := mX9_shotBetter) (o := 71) (rest := [.long ((31 : Int64) * x4_12)]) cf_X9_242 cv_X9_shotBetter kd_71 rfl ⟨Nat.le_of_ble_eq_true rfl, Nat.le_of_ble_eq_true rfl⟩ rfl rfl (Nat.le_of_ble_eq_true rfl) (dget kX9_tellsShot 81 rfl) (tX9_shotBetter h) (fun r_14 σ_13 h => ?_)
  refine wr_i2l (pc := 135) (dget kX9_tellsShot 82 rfl) rfl ?_
  refine wr_ladd (pc := 136) (dget kX9_tellsShot 83 rfl) ?_
  refine wr_topl (fun x4_15 e_x4_15 => ?_)
  have h := h x4_15 e_x4_15
  refine wr_lstore (pc := 137) (lv' := [(4, .long x4_15), (0, .ref (G.1 71)), (3, .int p2)]) (dget kX9_tellsShot 84 rfl) (by decide) rfl ?_
  refine wr_ldc2 (pc := 139) kl_X9_313 (dget kX9_tellsShot 85 rfl) ?_
  refine wr_lload (pc := 142) (dget kX9_tellsShot 86 rfl) 0 rfl ?_
  refine wr_lmul (pc := 144) (dget kX9_tellsShot 87 rfl) ?_
  refine wr_aload_n (pc := 145) (dget kX9_tellsShot 88 rfl) 1 rfl ?_
  refine wr_iconst (pc := 146) (dget kX9_tellsShot 89 rfl) ic_3 ?_
  refine wr_iload_n (pc := 147) (dget kX9_tellsShot 90 rfl) 2 rfl ?_
  refine wr_imul (pc := 148) (dget kX9_tellsShot 91 rfl) ?_
  refine wr_bipush (pc := 149) (dget kX9_tellsShot 92 rfl) bp_24 ?_
  refine wr_iconst (pc := 151) (dget kX9_tellsShot 93 rfl) ic_1 ?_
  refine wr_callVi (pc := 152) (Mc := mX9_shotBetter) (o := 71) (rest := [.long ((31 : Int64) * x4_15)]) cf_X9_242 cv_X9_shotBetter kd_71 rfl ⟨Nat.le_of_ble_eq_true rfl, Nat.le_of_ble_eq_true rfl⟩ rfl rfl (Nat.le_of_ble_eq_true rfl) (dget kX9_tellsShot 94 rfl) (tX9_shotBetter h) (fun r_17 σ_16 h => ?_)
  refine wr_i2l (pc := 155) (dget kX9_tellsShot 95 rfl) rfl ?_
  refine wr_ladd (pc := 156) (dget kX9_tellsShot 96 rfl) ?_
  refine wr_topl (fun x4_18 e_x4_18 => ?_)
  have h := h x4_18 e_x4_18
  refine wr_lstore (pc := 157) (lv' := [(4, .long x4_18), (0, .ref (G.1 71)), (3, .int p2)]) (dget kX9_tellsShot 97 rfl) (by decide) rfl ?_
  refine wr_ldc2 (pc := 159) kl_X9_313 (dget kX9_tellsShot 98 rfl) ?_
  refine wr_lload (pc := 162) (dget kX9_tellsShot 99 rfl) 0 rfl ?_
  refine wr_lmul (pc := 164) (dget kX9_tellsShot 100 rfl) ?_
  refine wr_aload_n (pc := 165) (dget kX9_tellsShot 101 rfl) 1 rfl ?_
  refine wr_iconst (pc := 166) (dget kX9_tellsShot 102 rfl) ic_5 ?_
  refine wr_iload_n (pc := 167) (dget kX9_tellsShot 103 rfl) 2 rfl ?_
  refine wr_iconst (pc := 168) (dget kX9_tellsShot 104 rfl) ic_0 ?_
  refine wr_callVl (pc := 169) (Mc := mX9_chanceOf) (o := 71) (rest := [.long ((31 : Int64) * x4_18)]) cf_X9_290 cv_X9_chanceOf kd_71 rfl ⟨Nat.le_of_ble_eq_true rfl, Nat.le_of_ble_eq_true rfl⟩ rfl rfl (Nat.le_of_ble_eq_true rfl) (dget kX9_tellsShot 105 rfl) (tX9_chanceOf h) (fun r_20 σ_19 h => ?_)
  refine wr_ladd (pc := 172) (dget kX9_tellsShot 106 rfl) ?_
  refine wr_topl (fun x4_21 e_x4_21 => ?_)
  have h := h x4_21 e_x4_21
  refine wr_lstore (pc := 173) (lv' := [(4, .long x4_21), (0, .ref (G.1 71)), (3, .int p2)]) (dget kX9_tellsShot 107 rfl) (by decide) rfl ?_
  refine wr_ldc2 (pc := 175) kl_X9_313 (dget kX9_tellsShot 108 rfl) ?_
  refine wr_lload (pc := 178) (dget kX9_tellsShot 109 rfl) 0 rfl ?_
  refine wr_lmul (pc := 180) (dget kX9_tellsShot 110 rfl) ?_
  refine wr_aload_n (pc := 181) (dget kX9_tellsShot 111 rfl) 1 rfl ?_
  refine wr_iconst (pc := 182) (dget kX9_tellsShot 112 rfl) ic_5 ?_
  refine wr_iload_n (pc := 183) (dget kX9_tellsShot 113 rfl) 2 rfl ?_
  refine wr_iconst (pc := 184) (dget kX9_tellsShot 114 rfl) ic_1 ?_
  refine wr_callVl (pc := 185) (Mc := mX9_chanceOf) (o := 71) (rest := [.long ((31 : Int64) * x4_21)]) cf_X9_290 cv_X9_chanceOf kd_71 rfl ⟨Nat.le_of_ble_eq_true rfl, Nat.le_of_ble_eq_true rfl⟩ rfl rfl (Nat.le_of_ble_eq_true rfl) (dget kX9_tellsShot 115 rfl) (tX9_chanceOf h) (fun r_23 σ_22 h => ?_)
  refine wr_ladd (pc := 188) (dget kX9_tellsShot 116 rfl) ?_
  exact wr_lret (pc := 189) rfl (dget kX9_tellsShot 117 rfl) ⟨_, rfl, h⟩
def vX9_digest_200 (post : Int64 → Hp → Prop) (ex : Int64 → Hp → Prop) : Nat → Int64 → Int32 → Hp → Prop
  | 0 => fun _ _ _ => False
  | n + 1 => fun x1 x3 σ => (((3 : Int32) ≤ x3 → (ex x1 σ)) ∧ (¬ (3 : Int32) ≤ x3 → (vX9_sumBy x3 σ (fun r_3 σ_2 => (∀ x1_4 : Int64, x1_4 = (((31 : Int64) * x1) + r_3.toInt64) → (∀ x3_5 : Int32, x3_5 = x3 + (1 : Int32) → vX9_digest_200 post ex  n x1_4 x3_5 σ_2))))))
set_option maxHeartbeats 4000000 in
set_option maxRecDepth 100000 in
theorem tX9_digest_200 {G : GT} {post : Int64 → Hp → Prop} {ex : Int64 → Hp → Prop} (hex : ∀ (z1 : Int64) (τ : Hp), ex z1 τ → WP G mX9_digest 224 [(0, .ref (G.1 71)), (1, .long z1)] [] τ (LL post)) : ∀ (n : Nat) (x1 : Int64) (x3 : Int32) (σ : Hp), vX9_digest_200 post ex  n x1 x3 σ → WP G mX9_digest 200 [(0, .ref (G.1 71)), (1, .long x1), (3, .int x3)] [] σ (LL post) := by
  intro n
  induction n with
  | zero => intro x1 x3 σ h; exact False.elim h
  | succ n ih =>
    intro x1 x3 σ h
    simp only [vX9_digest_200] at h
    refine wr_iload_n (pc := 200) (dget kX9_digest 117 rfl) 2 rfl ?_
    refine wr_iconst (pc := 201) (dget kX9_digest 118 rfl) ic_3 ?_
    refine wr_icmp_ge (pc := 202) (tgt := 224) (dget kX9_digest 119 rfl) (by decide) (fun c_1 => ?_) (fun c_1 => ?_)
    · have h := h.1 c_1
      refine wr_sub [0, 1] rfl ?_
      exact hex _ _ h
    · have h := h.2 c_1
      refine wr_ldc2 (pc := 205) kl_X9_313 (dget kX9_digest 120 rfl) ?_
      refine wr_lload_n (pc := 208) (dget kX9_digest 121 rfl) 1 rfl ?_
      refine wr_lmul (pc := 209) (dget kX9_digest 122 rfl) ?_
      refine wr_aload_n (pc := 210) (dget kX9_digest 123 rfl) 0 rfl ?_
      refine wr_iload_n (pc := 211) (dget kX9_digest 124 rfl) 2 rfl ?_
      refine wr_callVi (pc := 212) (Mc := mX9_sumBy) (o := 71) (rest := [.long ((31 : Int64) * x1)]) cf_X9_227 cv_X9_sumBy kd_71 rfl ⟨Nat.le_of_ble_eq_true rfl, Nat.le_of_ble_eq_true rfl⟩ rfl rfl (Nat.le_of_ble_eq_true rfl) (dget kX9_digest 125 rfl) (tX9_sumBy h) (fun r_3 σ_2 h => ?_)
      refine wr_i2l (pc := 215) (dget kX9_digest 126 rfl) rfl ?_
      refine wr_ladd (pc := 216) (dget kX9_digest 127 rfl) ?_
      refine wr_topl (fun x1_4 e_x1_4 => ?_)
      have h := h x1_4 e_x1_4
      refine wr_lstore_n (pc := 217) (lv' := [(1, .long x1_4), (0, .ref (G.1 71)), (3, .int x3)]) (dget kX9_digest 128 rfl) (by decide) rfl ?_
      obtain ⟨x3_5, e_x3_5⟩ : ∃ y : Int32, y = x3 + (1 : Int32) := ⟨_, rfl⟩
      have h := h x3_5 e_x3_5
      refine wr_iinc (pc := 218) (v := x3_5) (lv' := [(3, .int x3_5), (1, .long x1_4), (0, .ref (G.1 71))]) (dget kX9_digest 129 rfl) 2 rfl (by rw [e_x3_5, ic_1]) (by decide) rfl ?_
      refine wr_goto (pc := 221) (tgt := 200) (dget kX9_digest 130 rfl) (by decide) ?_
      refine wr_sub [2, 1, 0] rfl ?_
      exact ih _ _ _ h
def vX9_digest_173 (post : Int64 → Hp → Prop) (ex : Int64 → Hp → Prop) : Nat → Int64 → Int32 → Hp → Prop
  | 0 => fun _ _ _ => False
  | n + 1 => fun x1 x3 σ => (((σ.1 71 10) ≤ x3 → (ex x1 σ)) ∧ (¬ (σ.1 71 10) ≤ x3 → (vX9_tellsShot x1 x3 σ (fun r_3 σ_2 => (∀ x3_4 : Int32, x3_4 = x3 + (1 : Int32) → vX9_digest_173 post ex  n r_3 x3_4 σ_2)))))
set_option maxHeartbeats 4000000 in
set_option maxRecDepth 100000 in
theorem tX9_digest_173 {G : GT} {post : Int64 → Hp → Prop} {ex : Int64 → Hp → Prop} (hex : ∀ (z1 : Int64) (τ : Hp), ex z1 τ → WP G mX9_digest 194 [(0, .ref (G.1 71)), (1, .long z1)] [] τ (LL post)) : ∀ (n : Nat) (x1 : Int64) (x3 : Int32) (σ : Hp), vX9_digest_173 post ex  n x1 x3 σ → WP G mX9_digest 173 [(0, .ref (G.1 71)), (1, .long x1), (3, .int x3)] [] σ (LL post) := by
  intro n
  induction n with
  | zero => intro x1 x3 σ h; exact False.elim h
  | succ n ih =>
    intro x1 x3 σ h
    simp only [vX9_digest_173] at h
    refine wr_iload_n (pc := 173) (dget kX9_digest 102 rfl) 2 rfl ?_
    refine wr_aload_n (pc := 174) (dget kX9_digest 103 rfl) 0 rfl ?_
    refine wr_getI (pc := 175) (σ := σ) fl_X9_132 kd_71 fk_9_10 (dget kX9_digest 104 rfl) ?_
    refine wr_icmp_ge (pc := 178) (tgt := 194) (dget kX9_digest 105 rfl) (by decide) (fun c_1 => ?_) (fun c_1 => ?_)
    · have h := h.1 c_1
      refine wr_sub [0, 1] rfl ?_
      exact hex _ _ h
    · have h := h.2 c_1
      refine wr_aload_n (pc := 181) (dget kX9_digest 106 rfl) 0 rfl ?_
      refine wr_lload_n (pc := 182) (dget kX9_digest 107 rfl) 1 rfl ?_
      refine wr_iload_n (pc := 183) (dget kX9_digest 108 rfl) 2 rfl ?_
      refine wr_callVl (pc := 184) (Mc := mX9_tellsShot) (o := 71) (rest := []) cf_X9_328 cv_X9_tellsShot kd_71 rfl ⟨Nat.le_of_ble_eq_true rfl, Nat.le_of_ble_eq_true rfl⟩ rfl rfl (Nat.le_of_ble_eq_true rfl) (dget kX9_digest 109 rfl) (tX9_tellsShot h) (fun r_3 σ_2 h => ?_)
      refine wr_lstore_n (pc := 187) (lv' := [(1, .long r_3), (0, .ref (G.1 71)), (3, .int x3)]) (dget kX9_digest 110 rfl) (by decide) rfl ?_
      obtain ⟨x3_4, e_x3_4⟩ : ∃ y : Int32, y = x3 + (1 : Int32) := ⟨_, rfl⟩
      have h := h x3_4 e_x3_4
      refine wr_iinc (pc := 188) (v := x3_4) (lv' := [(3, .int x3_4), (1, .long r_3), (0, .ref (G.1 71))]) (dget kX9_digest 111 rfl) 2 rfl (by rw [e_x3_4, ic_1]) (by decide) rfl ?_
      refine wr_goto (pc := 191) (tgt := 173) (dget kX9_digest 112 rfl) (by decide) ?_
      refine wr_sub [2, 1, 0] rfl ?_
      exact ih _ _ _ h
def vX9_digest_150 (post : Int64 → Hp → Prop) (ex : Int64 → Hp → Prop) : Nat → Int64 → Int32 → Hp → Prop
  | 0 => fun _ _ _ => False
  | n + 1 => fun x1 x3 σ => (((σ.1 71 8) ≤ x3 → (ex x1 σ)) ∧ (¬ (σ.1 71 8) ≤ x3 → (vX9_tellsDuck x1 x3 σ (fun r_3 σ_2 => (∀ x3_4 : Int32, x3_4 = x3 + (1 : Int32) → vX9_digest_150 post ex  n r_3 x3_4 σ_2)))))
set_option maxHeartbeats 4000000 in
set_option maxRecDepth 100000 in
theorem tX9_digest_150 {G : GT} {post : Int64 → Hp → Prop} {ex : Int64 → Hp → Prop} (hex : ∀ (z1 : Int64) (τ : Hp), ex z1 τ → WP G mX9_digest 171 [(0, .ref (G.1 71)), (1, .long z1)] [] τ (LL post)) : ∀ (n : Nat) (x1 : Int64) (x3 : Int32) (σ : Hp), vX9_digest_150 post ex  n x1 x3 σ → WP G mX9_digest 150 [(0, .ref (G.1 71)), (1, .long x1), (3, .int x3)] [] σ (LL post) := by
  intro n
  induction n with
  | zero => intro x1 x3 σ h; exact False.elim h
  | succ n ih =>
    intro x1 x3 σ h
    simp only [vX9_digest_150] at h
    refine wr_iload_n (pc := 150) (dget kX9_digest 89 rfl) 2 rfl ?_
    refine wr_aload_n (pc := 151) (dget kX9_digest 90 rfl) 0 rfl ?_
    refine wr_getI (pc := 152) (σ := σ) fl_X9_123 kd_71 fk_9_8 (dget kX9_digest 91 rfl) ?_
    refine wr_icmp_ge (pc := 155) (tgt := 171) (dget kX9_digest 92 rfl) (by decide) (fun c_1 => ?_) (fun c_1 => ?_)
    · have h := h.1 c_1
      refine wr_sub [0, 1] rfl ?_
      exact hex _ _ h
    · have h := h.2 c_1
      refine wr_aload_n (pc := 158) (dget kX9_digest 93 rfl) 0 rfl ?_
      refine wr_lload_n (pc := 159) (dget kX9_digest 94 rfl) 1 rfl ?_
      refine wr_iload_n (pc := 160) (dget kX9_digest 95 rfl) 2 rfl ?_
      refine wr_callVl (pc := 161) (Mc := mX9_tellsDuck) (o := 71) (rest := []) cf_X9_324 cv_X9_tellsDuck kd_71 rfl ⟨Nat.le_of_ble_eq_true rfl, Nat.le_of_ble_eq_true rfl⟩ rfl rfl (Nat.le_of_ble_eq_true rfl) (dget kX9_digest 96 rfl) (tX9_tellsDuck h) (fun r_3 σ_2 h => ?_)
      refine wr_lstore_n (pc := 164) (lv' := [(1, .long r_3), (0, .ref (G.1 71)), (3, .int x3)]) (dget kX9_digest 97 rfl) (by decide) rfl ?_
      obtain ⟨x3_4, e_x3_4⟩ : ∃ y : Int32, y = x3 + (1 : Int32) := ⟨_, rfl⟩
      have h := h x3_4 e_x3_4
      refine wr_iinc (pc := 165) (v := x3_4) (lv' := [(3, .int x3_4), (1, .long r_3), (0, .ref (G.1 71))]) (dget kX9_digest 98 rfl) 2 rfl (by rw [e_x3_4, ic_1]) (by decide) rfl ?_
      refine wr_goto (pc := 168) (tgt := 150) (dget kX9_digest 99 rfl) (by decide) ?_
      refine wr_sub [2, 1, 0] rfl ?_
      exact ih _ _ _ h
def vX9_digest_123 (post : Int64 → Hp → Prop) (ex : Int64 → Hp → Prop) : Nat → Int64 → Int32 → Hp → Prop
  | 0 => fun _ _ _ => False
  | n + 1 => fun x1 x3 σ => (((24 : Int32) ≤ x3 → (ex x1 σ)) ∧ (¬ (24 : Int32) ≤ x3 → (vX9_downBy x3 σ (fun r_3 σ_2 => (∀ x1_4 : Int64, x1_4 = (((31 : Int64) * x1) + r_3.toInt64) → (∀ x3_5 : Int32, x3_5 = x3 + (1 : Int32) → vX9_digest_123 post ex  n x1_4 x3_5 σ_2))))))
set_option maxHeartbeats 4000000 in
set_option maxRecDepth 100000 in
theorem tX9_digest_123 {G : GT} {post : Int64 → Hp → Prop} {ex : Int64 → Hp → Prop} (hex : ∀ (z1 : Int64) (τ : Hp), ex z1 τ → WP G mX9_digest 148 [(0, .ref (G.1 71)), (1, .long z1)] [] τ (LL post)) : ∀ (n : Nat) (x1 : Int64) (x3 : Int32) (σ : Hp), vX9_digest_123 post ex  n x1 x3 σ → WP G mX9_digest 123 [(0, .ref (G.1 71)), (1, .long x1), (3, .int x3)] [] σ (LL post) := by
  intro n
  induction n with
  | zero => intro x1 x3 σ h; exact False.elim h
  | succ n ih =>
    intro x1 x3 σ h
    simp only [vX9_digest_123] at h
    refine wr_iload_n (pc := 123) (dget kX9_digest 73 rfl) 2 rfl ?_
    refine wr_bipush (pc := 124) (dget kX9_digest 74 rfl) bp_24 ?_
    refine wr_icmp_ge (pc := 126) (tgt := 148) (dget kX9_digest 75 rfl) (by decide) (fun c_1 => ?_) (fun c_1 => ?_)
    · have h := h.1 c_1
      refine wr_sub [0, 1] rfl ?_
      exact hex _ _ h
    · have h := h.2 c_1
      refine wr_ldc2 (pc := 129) kl_X9_313 (dget kX9_digest 76 rfl) ?_
      refine wr_lload_n (pc := 132) (dget kX9_digest 77 rfl) 1 rfl ?_
      refine wr_lmul (pc := 133) (dget kX9_digest 78 rfl) ?_
      refine wr_aload_n (pc := 134) (dget kX9_digest 79 rfl) 0 rfl ?_
      refine wr_iload_n (pc := 135) (dget kX9_digest 80 rfl) 2 rfl ?_
      refine wr_callVi (pc := 136) (Mc := mX9_downBy) (o := 71) (rest := [.long ((31 : Int64) * x1)]) cf_X9_215 cv_X9_downBy kd_71 rfl ⟨Nat.le_of_ble_eq_true rfl, Nat.le_of_ble_eq_true rfl⟩ rfl rfl (Nat.le_of_ble_eq_true rfl) (dget kX9_digest 81 rfl) (tX9_downBy h) (fun r_3 σ_2 h => ?_)
      refine wr_i2l (pc := 139) (dget kX9_digest 82 rfl) rfl ?_
      refine wr_ladd (pc := 140) (dget kX9_digest 83 rfl) ?_
      refine wr_topl (fun x1_4 e_x1_4 => ?_)
      have h := h x1_4 e_x1_4
      refine wr_lstore_n (pc := 141) (lv' := [(1, .long x1_4), (0, .ref (G.1 71)), (3, .int x3)]) (dget kX9_digest 84 rfl) (by decide) rfl ?_
      obtain ⟨x3_5, e_x3_5⟩ : ∃ y : Int32, y = x3 + (1 : Int32) := ⟨_, rfl⟩
      have h := h x3_5 e_x3_5
      refine wr_iinc (pc := 142) (v := x3_5) (lv' := [(3, .int x3_5), (1, .long x1_4), (0, .ref (G.1 71))]) (dget kX9_digest 85 rfl) 2 rfl (by rw [e_x3_5, ic_1]) (by decide) rfl ?_
      refine wr_goto (pc := 145) (tgt := 123) (dget kX9_digest 86 rfl) (by decide) ?_
      refine wr_sub [2, 1, 0] rfl ?_
      exact ih _ _ _ h
def vX9_digest_85 (post : Int64 → Hp → Prop) (ex : Int64 → Hp → Prop) (x3 : Int32) : Nat → Int64 → Int32 → Hp → Prop
  | 0 => fun _ _ _ => False
  | n + 1 => fun x1 x4 σ => (((12 : Int32) ≤ x4 → (ex x1 σ)) ∧ (¬ (12 : Int32) ≤ x4 → (vX9_seesBy (10 : Int32) x3 x4 σ (fun r_3 σ_2 => (∀ x1_4 : Int64, x1_4 = (((31 : Int64) * x1) + r_3.toInt64) → (∀ x4_5 : Int32, x4_5 = x4 + (1 : Int32) → vX9_digest_85 post ex x3 n x1_4 x4_5 σ_2))))))
set_option maxHeartbeats 4000000 in
set_option maxRecDepth 100000 in
theorem tX9_digest_85 {G : GT} {post : Int64 → Hp → Prop} {ex : Int64 → Hp → Prop} {x3 : Int32} (hex : ∀ (z1 : Int64) (τ : Hp), ex z1 τ → WP G mX9_digest 115 [(0, .ref (G.1 71)), (1, .long z1), (3, .int x3)] [] τ (LL post)) : ∀ (n : Nat) (x1 : Int64) (x4 : Int32) (σ : Hp), vX9_digest_85 post ex x3 n x1 x4 σ → WP G mX9_digest 85 [(0, .ref (G.1 71)), (1, .long x1), (3, .int x3), (4, .int x4)] [] σ (LL post) := by
  intro n
  induction n with
  | zero => intro x1 x4 σ h; exact False.elim h
  | succ n ih =>
    intro x1 x4 σ h
    simp only [vX9_digest_85] at h
    refine wr_iload (pc := 85) (dget kX9_digest 53 rfl) 3 rfl ?_
    refine wr_bipush (pc := 87) (dget kX9_digest 54 rfl) bp_12 ?_
    refine wr_icmp_ge (pc := 89) (tgt := 115) (dget kX9_digest 55 rfl) (by decide) (fun c_1 => ?_) (fun c_1 => ?_)
    · have h := h.1 c_1
      refine wr_sub [0, 1, 2] rfl ?_
      exact hex _ _ h
    · have h := h.2 c_1
      refine wr_ldc2 (pc := 92) kl_X9_313 (dget kX9_digest 56 rfl) ?_
      refine wr_lload_n (pc := 95) (dget kX9_digest 57 rfl) 1 rfl ?_
      refine wr_lmul (pc := 96) (dget kX9_digest 58 rfl) ?_
      refine wr_aload_n (pc := 97) (dget kX9_digest 59 rfl) 0 rfl ?_
      refine wr_bipush (pc := 98) (dget kX9_digest 60 rfl) bp_10 ?_
      refine wr_iload_n (pc := 100) (dget kX9_digest 61 rfl) 2 rfl ?_
      refine wr_iload (pc := 101) (dget kX9_digest 62 rfl) 3 rfl ?_
      refine wr_callVi (pc := 103) (Mc := mX9_seesBy) (o := 71) (rest := [.long ((31 : Int64) * x1)]) cf_X9_212 cv_X9_seesBy kd_71 rfl ⟨Nat.le_of_ble_eq_true rfl, Nat.le_of_ble_eq_true rfl⟩ rfl rfl (Nat.le_of_ble_eq_true rfl) (dget kX9_digest 63 rfl) (tX9_seesBy h) (fun r_3 σ_2 h => ?_)
      refine wr_i2l (pc := 106) (dget kX9_digest 64 rfl) rfl ?_
      refine wr_ladd (pc := 107) (dget kX9_digest 65 rfl) ?_
      refine wr_topl (fun x1_4 e_x1_4 => ?_)
      have h := h x1_4 e_x1_4
      refine wr_lstore_n (pc := 108) (lv' := [(1, .long x1_4), (0, .ref (G.1 71)), (3, .int x3), (4, .int x4)]) (dget kX9_digest 66 rfl) (by decide) rfl ?_
      obtain ⟨x4_5, e_x4_5⟩ : ∃ y : Int32, y = x4 + (1 : Int32) := ⟨_, rfl⟩
      have h := h x4_5 e_x4_5
      refine wr_iinc (pc := 109) (v := x4_5) (lv' := [(4, .int x4_5), (1, .long x1_4), (0, .ref (G.1 71)), (3, .int x3)]) (dget kX9_digest 67 rfl) 3 rfl (by rw [e_x4_5, ic_1]) (by decide) rfl ?_
      refine wr_goto (pc := 112) (tgt := 85) (dget kX9_digest 68 rfl) (by decide) ?_
      refine wr_sub [2, 1, 3, 0] rfl ?_
      exact ih _ _ _ h
def vX9_digest_63 (post : Int64 → Hp → Prop) (ex : Int64 → Hp → Prop) : Nat → Int64 → Int32 → Hp → Prop
  | 0 => fun _ _ _ => False
  | n + 1 => fun x1 x3 σ => (((3 : Int32) ≤ x3 → (ex x1 σ)) ∧ (¬ (3 : Int32) ≤ x3 → (vp_in x3 3 ∧ (∀ x1_3 : Int64, x1_3 = (((31 : Int64) * x1) + ((σ.1 78 x3.toNatClampNeg)).toInt64) → (∃ fu : Nat, vX9_digest_85 post (fun z1_4 σ_5 => (∀ x3_6 : Int32, x3_6 = x3 + (1 : Int32) → vX9_digest_63 post ex  n z1_4 x3_6 σ_5)) x3 fu x1_3 (0 : Int32) σ)))))
set_option maxHeartbeats 4000000 in
set_option maxRecDepth 100000 in
theorem tX9_digest_63 {G : GT} {post : Int64 → Hp → Prop} {ex : Int64 → Hp → Prop} (hex : ∀ (z1 : Int64) (τ : Hp), ex z1 τ → WP G mX9_digest 121 [(0, .ref (G.1 71)), (1, .long z1)] [] τ (LL post)) : ∀ (n : Nat) (x1 : Int64) (x3 : Int32) (σ : Hp), vX9_digest_63 post ex  n x1 x3 σ → WP G mX9_digest 63 [(0, .ref (G.1 71)), (1, .long x1), (3, .int x3)] [] σ (LL post) := by
  intro n
  induction n with
  | zero => intro x1 x3 σ h; exact False.elim h
  | succ n ih =>
    intro x1 x3 σ h
    simp only [vX9_digest_63] at h
    refine wr_iload_n (pc := 63) (dget kX9_digest 38 rfl) 2 rfl ?_
    refine wr_iconst (pc := 64) (dget kX9_digest 39 rfl) ic_3 ?_
    refine wr_icmp_ge (pc := 65) (tgt := 121) (dget kX9_digest 40 rfl) (by decide) (fun c_1 => ?_) (fun c_1 => ?_)
    · have h := h.1 c_1
      refine wr_sub [0, 1] rfl ?_
      exact hex _ _ h
    · have h := h.2 c_1
      refine wr_ldc2 (pc := 68) kl_X9_313 (dget kX9_digest 41 rfl) ?_
      refine wr_lload_n (pc := 71) (dget kX9_digest 42 rfl) 1 rfl ?_
      refine wr_lmul (pc := 72) (dget kX9_digest 43 rfl) ?_
      refine wr_aload_n (pc := 73) (dget kX9_digest 44 rfl) 0 rfl ?_
      refine wr_getRl (pc := 74) fl_X9_28 kd_71 fk_9_7 rt_71_7 (dget kX9_digest 45 rfl) ?_
      refine wr_iload_n (pc := 77) (dget kX9_digest 46 rfl) 2 rfl ?_
      obtain ⟨q_2, h⟩ := h
      refine wr_ialdl (pc := 78) (σ := σ) il_78 q_2 (dget kX9_digest 47 rfl) ?_
      refine wr_i2l (pc := 79) (dget kX9_digest 48 rfl) rfl ?_
      refine wr_ladd (pc := 80) (dget kX9_digest 49 rfl) ?_
      refine wr_topl (fun x1_3 e_x1_3 => ?_)
      have h := h x1_3 e_x1_3
      refine wr_lstore_n (pc := 81) (lv' := [(1, .long x1_3), (0, .ref (G.1 71)), (3, .int x3)]) (dget kX9_digest 50 rfl) (by decide) rfl ?_
      refine wr_iconst (pc := 82) (dget kX9_digest 51 rfl) ic_0 ?_
      refine wr_istore (pc := 83) (lv' := [(4, .int (0 : Int32)), (1, .long x1_3), (0, .ref (G.1 71)), (3, .int x3)]) (dget kX9_digest 52 rfl) (by decide) rfl ?_
      obtain ⟨fu, h⟩ := h
      refine wr_sub [2, 1, 3, 0] rfl ?_
      refine tX9_digest_85 (fun z1_4 σ_5 h => ?_) fu _ _ _ h
      obtain ⟨x3_6, e_x3_6⟩ : ∃ y : Int32, y = x3 + (1 : Int32) := ⟨_, rfl⟩
      have h := h x3_6 e_x3_6
      refine wr_iinc (pc := 115) (v := x3_6) (lv' := [(3, .int x3_6), (0, .ref (G.1 71)), (1, .long z1_4)]) (dget kX9_digest 69 rfl) 2 rfl (by rw [e_x3_6, ic_1]) (by decide) rfl ?_
      refine wr_goto (pc := 118) (tgt := 63) (dget kX9_digest 70 rfl) (by decide) ?_
      refine wr_sub [1, 2, 0] rfl ?_
      exact ih _ _ _ h
def vX9_digest_33 (post : Int64 → Hp → Prop) (ex : Int64 → Hp → Prop) : Nat → Int64 → Int32 → Hp → Prop
  | 0 => fun _ _ _ => False
  | n + 1 => fun x1 x3 σ => (((3 : Int32) ≤ x3 → (ex x1 σ)) ∧ (¬ (3 : Int32) ≤ x3 → (vX9_readsText x3 σ (fun r_3 σ_2 => (∀ x1_4 : Int64, x1_4 = (((31 : Int64) * x1) + r_3.toInt64) → (∀ x3_5 : Int32, x3_5 = x3 + (1 : Int32) → vX9_digest_33 post ex  n x1_4 x3_5 σ_2))))))
set_option maxHeartbeats 4000000 in
set_option maxRecDepth 100000 in
theorem tX9_digest_33 {G : GT} {post : Int64 → Hp → Prop} {ex : Int64 → Hp → Prop} (hex : ∀ (z1 : Int64) (τ : Hp), ex z1 τ → WP G mX9_digest 57 [(0, .ref (G.1 71)), (1, .long z1)] [] τ (LL post)) : ∀ (n : Nat) (x1 : Int64) (x3 : Int32) (σ : Hp), vX9_digest_33 post ex  n x1 x3 σ → WP G mX9_digest 33 [(0, .ref (G.1 71)), (1, .long x1), (3, .int x3)] [] σ (LL post) := by
  intro n
  induction n with
  | zero => intro x1 x3 σ h; exact False.elim h
  | succ n ih =>
    intro x1 x3 σ h
    simp only [vX9_digest_33] at h
    refine wr_iload_n (pc := 33) (dget kX9_digest 20 rfl) 2 rfl ?_
    refine wr_iconst (pc := 34) (dget kX9_digest 21 rfl) ic_3 ?_
    refine wr_icmp_ge (pc := 35) (tgt := 57) (dget kX9_digest 22 rfl) (by decide) (fun c_1 => ?_) (fun c_1 => ?_)
    · have h := h.1 c_1
      refine wr_sub [0, 1] rfl ?_
      exact hex _ _ h
    · have h := h.2 c_1
      refine wr_ldc2 (pc := 38) kl_X9_313 (dget kX9_digest 23 rfl) ?_
      refine wr_lload_n (pc := 41) (dget kX9_digest 24 rfl) 1 rfl ?_
      refine wr_lmul (pc := 42) (dget kX9_digest 25 rfl) ?_
      refine wr_aload_n (pc := 43) (dget kX9_digest 26 rfl) 0 rfl ?_
      refine wr_iload_n (pc := 44) (dget kX9_digest 27 rfl) 2 rfl ?_
      refine wr_callVi (pc := 45) (Mc := mX9_readsText) (o := 71) (rest := [.long ((31 : Int64) * x1)]) cf_X9_148 cv_X9_readsText kd_71 rfl ⟨Nat.le_of_ble_eq_true rfl, Nat.le_of_ble_eq_true rfl⟩ rfl rfl (Nat.le_of_ble_eq_true rfl) (dget kX9_digest 28 rfl) (tX9_readsText h) (fun r_3 σ_2 h => ?_)
      refine wr_i2l (pc := 48) (dget kX9_digest 29 rfl) rfl ?_
      refine wr_ladd (pc := 49) (dget kX9_digest 30 rfl) ?_
      refine wr_topl (fun x1_4 e_x1_4 => ?_)
      have h := h x1_4 e_x1_4
      refine wr_lstore_n (pc := 50) (lv' := [(1, .long x1_4), (0, .ref (G.1 71)), (3, .int x3)]) (dget kX9_digest 31 rfl) (by decide) rfl ?_
      obtain ⟨x3_5, e_x3_5⟩ : ∃ y : Int32, y = x3 + (1 : Int32) := ⟨_, rfl⟩
      have h := h x3_5 e_x3_5
      refine wr_iinc (pc := 51) (v := x3_5) (lv' := [(3, .int x3_5), (1, .long x1_4), (0, .ref (G.1 71))]) (dget kX9_digest 32 rfl) 2 rfl (by rw [e_x3_5, ic_1]) (by decide) rfl ?_
      refine wr_goto (pc := 54) (tgt := 33) (dget kX9_digest 33 rfl) (by decide) ?_
      refine wr_sub [2, 1, 0] rfl ?_
      exact ih _ _ _ h
def vX9_digest_6 (post : Int64 → Hp → Prop) (ex : Int64 → Hp → Prop) : Nat → Int64 → Int32 → Hp → Prop
  | 0 => fun _ _ _ => False
  | n + 1 => fun x1 x3 σ => (((8 : Int32) ≤ x3 → (ex x1 σ)) ∧ (¬ (8 : Int32) ≤ x3 → (vX9_count x3 σ (fun r_3 σ_2 => (∀ x1_4 : Int64, x1_4 = (((31 : Int64) * x1) + r_3.toInt64) → (∀ x3_5 : Int32, x3_5 = x3 + (1 : Int32) → vX9_digest_6 post ex  n x1_4 x3_5 σ_2))))))
set_option maxHeartbeats 4000000 in
set_option maxRecDepth 100000 in
theorem tX9_digest_6 {G : GT} {post : Int64 → Hp → Prop} {ex : Int64 → Hp → Prop} (hex : ∀ (z1 : Int64) (τ : Hp), ex z1 τ → WP G mX9_digest 31 [(0, .ref (G.1 71)), (1, .long z1)] [] τ (LL post)) : ∀ (n : Nat) (x1 : Int64) (x3 : Int32) (σ : Hp), vX9_digest_6 post ex  n x1 x3 σ → WP G mX9_digest 6 [(0, .ref (G.1 71)), (1, .long x1), (3, .int x3)] [] σ (LL post) := by
  intro n
  induction n with
  | zero => intro x1 x3 σ h; exact False.elim h
  | succ n ih =>
    intro x1 x3 σ h
    simp only [vX9_digest_6] at h
    refine wr_iload_n (pc := 6) (dget kX9_digest 4 rfl) 2 rfl ?_
    refine wr_bipush (pc := 7) (dget kX9_digest 5 rfl) bp_8 ?_
    refine wr_icmp_ge (pc := 9) (tgt := 31) (dget kX9_digest 6 rfl) (by decide) (fun c_1 => ?_) (fun c_1 => ?_)
    · have h := h.1 c_1
      refine wr_sub [0, 1] rfl ?_
      exact hex _ _ h
    · have h := h.2 c_1
      refine wr_ldc2 (pc := 12) kl_X9_313 (dget kX9_digest 7 rfl) ?_
      refine wr_lload_n (pc := 15) (dget kX9_digest 8 rfl) 1 rfl ?_
      refine wr_lmul (pc := 16) (dget kX9_digest 9 rfl) ?_
      refine wr_aload_n (pc := 17) (dget kX9_digest 10 rfl) 0 rfl ?_
      refine wr_iload_n (pc := 18) (dget kX9_digest 11 rfl) 2 rfl ?_
      refine wr_callVi (pc := 19) (Mc := mX9_count) (o := 71) (rest := [.long ((31 : Int64) * x1)]) cf_X9_321 cv_X9_count kd_71 rfl ⟨Nat.le_of_ble_eq_true rfl, Nat.le_of_ble_eq_true rfl⟩ rfl rfl (Nat.le_of_ble_eq_true rfl) (dget kX9_digest 12 rfl) (tX9_count h) (fun r_3 σ_2 h => ?_)
      refine wr_i2l (pc := 22) (dget kX9_digest 13 rfl) rfl ?_
      refine wr_ladd (pc := 23) (dget kX9_digest 14 rfl) ?_
      refine wr_topl (fun x1_4 e_x1_4 => ?_)
      have h := h x1_4 e_x1_4
      refine wr_lstore_n (pc := 24) (lv' := [(1, .long x1_4), (0, .ref (G.1 71)), (3, .int x3)]) (dget kX9_digest 15 rfl) (by decide) rfl ?_
      obtain ⟨x3_5, e_x3_5⟩ : ∃ y : Int32, y = x3 + (1 : Int32) := ⟨_, rfl⟩
      have h := h x3_5 e_x3_5
      refine wr_iinc (pc := 25) (v := x3_5) (lv' := [(3, .int x3_5), (1, .long x1_4), (0, .ref (G.1 71))]) (dget kX9_digest 16 rfl) 2 rfl (by rw [e_x3_5, ic_1]) (by decide) rfl ?_
      refine wr_goto (pc := 28) (tgt := 6) (dget kX9_digest 17 rfl) (by decide) ?_
      refine wr_sub [2, 1, 0] rfl ?_
      exact ih _ _ _ h
def vX9_digest (σ : Hp) (post : Int64 → Hp → Prop) : Prop := (∃ fu : Nat, vX9_digest_6 post (fun z1_1 σ_2 => (∃ fu : Nat, vX9_digest_33 post (fun z1_3 σ_4 => (vX9_lives  σ_4 (fun σ_5 => (∃ fu : Nat, vX9_digest_63 post (fun z1_7 σ_8 => (∃ fu : Nat, vX9_digest_123 post (fun z1_9 σ_10 => (∃ fu : Nat, vX9_digest_150 post (fun z1_11 σ_12 => (∃ fu : Nat, vX9_digest_173 post (fun z1_13 σ_14 => (vX9_lives  σ_14 (fun σ_15 => (∃ fu : Nat, vX9_digest_200 post (fun z1_17 σ_18 => (vX9_runBy (0 : Int32) σ_18 (fun r_20 σ_19 => (∀ x1_21 : Int64, x1_21 = (((31 : Int64) * z1_17) + r_20.toInt64) → (vX9_runBy (1 : Int32) σ_19 (fun r_23 σ_22 => (∀ x1_24 : Int64, x1_24 = (((31 : Int64) * x1_21) + r_23.toInt64) → (vX9_easyNow  σ_22 (fun r_26 σ_25 => (∀ x1_27 : Int64, x1_27 = (((31 : Int64) * x1_24) + r_26.toInt64) → (vX9_safeNow  σ_25 (fun r_29 σ_28 => (∀ x1_30 : Int64, x1_30 = (((31 : Int64) * x1_27) + r_29.toInt64) → (vX9_mendBy (0 : Int32) σ_28 (fun r_32 σ_31 => (∀ x1_33 : Int64, x1_33 = (((31 : Int64) * x1_30) + r_32.toInt64) → (vX9_mendBy (1 : Int32) σ_31 (fun r_35 σ_34 => (∀ x1_36 : Int64, x1_36 = (((31 : Int64) * x1_33) + r_35.toInt64) → (vX9_spareBy (-1 : Int32) σ_34 (fun r_38 σ_37 => (∀ x1_39 : Int64, x1_39 = (((31 : Int64) * x1_36) + r_38.toInt64) → (vX9_spareBy (0 : Int32) σ_37 (fun r_41 σ_40 => (∀ x1_42 : Int64, x1_42 = (((31 : Int64) * x1_39) + r_41.toInt64) → (vX9_neverNow  σ_40 (fun r_44 σ_43 => (∀ x1_45 : Int64, x1_45 = (((31 : Int64) * x1_42) + r_44.toInt64) → (vX9_pullsNow  σ_43 (fun r_47 σ_46 => (∀ x1_48 : Int64, x1_48 = (((31 : Int64) * x1_45) + r_47.toInt64) → (vX9_askNow  σ_46 (fun r_50 σ_49 => (∀ x1_51 : Int64, x1_51 = (((31 : Int64) * x1_48) + r_50.toInt64) → (vX9_fairsOf (7 : Int32) (9 : Int32) (0 : Int32) σ_49 (fun r_53 σ_52 => (∀ x1_54 : Int64, x1_54 = (((31 : Int64) * x1_51) + r_53.toInt64) → (vX9_fairsOf (7 : Int32) (9 : Int32) (1 : Int32) σ_52 (fun r_56 σ_55 => post (((31 : Int64) * x1_54) + r_56.toInt64) σ_55)))))))))))))))))))))))))))))))))))))))  fu z1_13 (0 : Int32) σ_15))))  fu z1_11 (0 : Int32) σ_12))  fu z1_9 (0 : Int32) σ_10))  fu z1_7 (0 : Int32) σ_8))  fu z1_3 (0 : Int32) σ_5))))  fu z1_1 (0 : Int32) σ_2))  fu (17 : Int64) (0 : Int32) σ)
set_option maxHeartbeats 4000000 in
set_option maxRecDepth 100000 in
theorem tX9_digest {G : GT} {σ : Hp} {post : Int64 → Hp → Prop} (h : vX9_digest  σ post) : CT G mX9_digest [.ref (G.1 71)] σ (LL post) := by
  refine CT.of (by decide +kernel) (Nat.le_of_ble_eq_true rfl) ?_
  show WP G mX9_digest 0 [(0, .ref (G.1 71))] [] σ (LL post)
  unfold vX9_digest at h
  refine wr_ldc2 (pc := 0) kl_X9_319 (dget kX9_digest 0 rfl) ?_
  refine wr_lstore_n (pc := 3) (lv' := [(1, .long (17 : Int64)), (0, .ref (G.1 71))]) (dget kX9_digest 1 rfl) (by decide) rfl ?_
  refine wr_iconst (pc := 4) (dget kX9_digest 2 rfl) ic_0 ?_
  refine wr_istore_n (pc := 5) (lv' := [(3, .int (0 : Int32)), (1, .long (17 : Int64)), (0, .ref (G.1 71))]) (dget kX9_digest 3 rfl) (by decide) rfl ?_
  obtain ⟨fu, h⟩ := h
  refine wr_sub [2, 1, 0] rfl ?_
  refine tX9_digest_6 (fun z1_1 σ_2 h => ?_) fu _ _ _ h
  refine wr_iconst (pc := 31) (dget kX9_digest 18 rfl) ic_0 ?_
  refine wr_istore_n (pc := 32) (lv' := [(3, .int (0 : Int32)), (0, .ref (G.1 71)), (1, .long z1_1)]) (dget kX9_digest 19 rfl) (by decide) rfl ?_
  obtain ⟨fu, h⟩ := h
  refine wr_sub [1, 2, 0] rfl ?_
  refine tX9_digest_33 (fun z1_3 σ_4 h => ?_) fu _ _ _ h
  refine wr_aload_n (pc := 57) (dget kX9_digest 34 rfl) 0 rfl ?_
  refine wr_callVv (pc := 58) (Mc := mX9_lives) (o := 71) (rest := []) cf_X9_203 cv_X9_lives kd_71 rfl ⟨Nat.le_of_ble_eq_true rfl, Nat.le_of_ble_eq_true rfl⟩ rfl rfl (Nat.le_of_ble_eq_true rfl) (dget kX9_digest 35 rfl) (tX9_lives h) (fun σ_5 h => ?_)
  refine wr_iconst (pc := 61) (dget kX9_digest 36 rfl) ic_0 ?_
  refine wr_istore_n (pc := 62) (lv' := [(3, .int (0 : Int32)), (0, .ref (G.1 71)), (1, .long z1_3)]) (dget kX9_digest 37 rfl) (by decide) rfl ?_
  obtain ⟨fu, h⟩ := h
  refine wr_sub [1, 2, 0] rfl ?_
  refine tX9_digest_63 (fun z1_7 σ_8 h => ?_) fu _ _ _ h
  refine wr_iconst (pc := 121) (dget kX9_digest 71 rfl) ic_0 ?_
  refine wr_istore_n (pc := 122) (lv' := [(3, .int (0 : Int32)), (0, .ref (G.1 71)), (1, .long z1_7)]) (dget kX9_digest 72 rfl) (by decide) rfl ?_
  obtain ⟨fu, h⟩ := h
  refine wr_sub [1, 2, 0] rfl ?_
  refine tX9_digest_123 (fun z1_9 σ_10 h => ?_) fu _ _ _ h
  refine wr_iconst (pc := 148) (dget kX9_digest 87 rfl) ic_0 ?_
  refine wr_istore_n (pc := 149) (lv' := [(3, .int (0 : Int32)), (0, .ref (G.1 71)), (1, .long z1_9)]) (dget kX9_digest 88 rfl) (by decide) rfl ?_
  obtain ⟨fu, h⟩ := h
  refine wr_sub [1, 2, 0] rfl ?_
  refine tX9_digest_150 (fun z1_11 σ_12 h => ?_) fu _ _ _ h
  refine wr_iconst (pc := 171) (dget kX9_digest 100 rfl) ic_0 ?_
  refine wr_istore_n (pc := 172) (lv' := [(3, .int (0 : Int32)), (0, .ref (G.1 71)), (1, .long z1_11)]) (dget kX9_digest 101 rfl) (by decide) rfl ?_
  obtain ⟨fu, h⟩ := h
  refine wr_sub [1, 2, 0] rfl ?_
  refine tX9_digest_173 (fun z1_13 σ_14 h => ?_) fu _ _ _ h
  refine wr_aload_n (pc := 194) (dget kX9_digest 113 rfl) 0 rfl ?_
  refine wr_callVv (pc := 195) (Mc := mX9_lives) (o := 71) (rest := []) cf_X9_203 cv_X9_lives kd_71 rfl ⟨Nat.le_of_ble_eq_true rfl, Nat.le_of_ble_eq_true rfl⟩ rfl rfl (Nat.le_of_ble_eq_true rfl) (dget kX9_digest 114 rfl) (tX9_lives h) (fun σ_15 h => ?_)
  refine wr_iconst (pc := 198) (dget kX9_digest 115 rfl) ic_0 ?_
  refine wr_istore_n (pc := 199) (lv' := [(3, .int (0 : Int32)), (0, .ref (G.1 71)), (1, .long z1_13)]) (dget kX9_digest 116 rfl) (by decide) rfl ?_
  obtain ⟨fu, h⟩ := h
  refine wr_sub [1, 2, 0] rfl ?_
  refine tX9_digest_200 (fun z1_17 σ_18 h => ?_) fu _ _ _ h
  refine wr_ldc2 (pc := 224) kl_X9_313 (dget kX9_digest 131 rfl) ?_
  refine wr_lload_n (pc := 227) (dget kX9_digest 132 rfl) 1 rfl ?_
  refine wr_lmul (pc := 228) (dget kX9_digest 133 rfl) ?_
  refine wr_aload_n (pc := 229) (dget kX9_digest 134 rfl) 0 rfl ?_
  refine wr_iconst (pc := 230) (dget kX9_digest 135 rfl) ic_0 ?_
  refine wr_callVi (pc := 231) (Mc := mX9_runBy) (o := 71) (rest := [.long ((31 : Int64) * z1_17)]) cf_X9_233 cv_X9_runBy kd_71 rfl ⟨Nat.le_of_ble_eq_true rfl, Nat.le_of_ble_eq_true rfl⟩ rfl rfl (Nat.le_of_ble_eq_true rfl) (dget kX9_digest 136 rfl) (tX9_runBy h) (fun r_20 σ_19 h => ?_)
  refine wr_i2l (pc := 234) (dget kX9_digest 137 rfl) rfl ?_
  refine wr_ladd (pc := 235) (dget kX9_digest 138 rfl) ?_
  refine wr_topl (fun x1_21 e_x1_21 => ?_)
  have h := h x1_21 e_x1_21
  refine wr_lstore_n (pc := 236) (lv' := [(1, .long x1_21), (0, .ref (G.1 71))]) (dget kX9_digest 139 rfl) (by decide) rfl ?_
  refine wr_ldc2 (pc := 237) kl_X9_313 (dget kX9_digest 140 rfl) ?_
  refine wr_lload_n (pc := 240) (dget kX9_digest 141 rfl) 0 rfl ?_
  refine wr_lmul (pc := 241) (dget kX9_digest 142 rfl) ?_
  refine wr_aload_n (pc := 242) (dget kX9_digest 143 rfl) 1 rfl ?_
  refine wr_iconst (pc := 243) (dget kX9_digest 144 rfl) ic_1 ?_
  refine wr_callVi (pc := 244) (Mc := mX9_runBy) (o := 71) (rest := [.long ((31 : Int64) * x1_21)]) cf_X9_233 cv_X9_runBy kd_71 rfl ⟨Nat.le_of_ble_eq_true rfl, Nat.le_of_ble_eq_true rfl⟩ rfl rfl (Nat.le_of_ble_eq_true rfl) (dget kX9_digest 145 rfl) (tX9_runBy h) (fun r_23 σ_22 h => ?_)
  refine wr_i2l (pc := 247) (dget kX9_digest 146 rfl) rfl ?_
  refine wr_ladd (pc := 248) (dget kX9_digest 147 rfl) ?_
  refine wr_topl (fun x1_24 e_x1_24 => ?_)
  have h := h x1_24 e_x1_24
  refine wr_lstore_n (pc := 249) (lv' := [(1, .long x1_24), (0, .ref (G.1 71))]) (dget kX9_digest 148 rfl) (by decide) rfl ?_
  refine wr_ldc2 (pc := 250) kl_X9_313 (dget kX9_digest 149 rfl) ?_
  refine wr_lload_n (pc := 253) (dget kX9_digest 150 rfl) 0 rfl ?_
  refine wr_lmul (pc := 254) (dget kX9_digest 151 rfl) ?_
  refine wr_aload_n (pc := 255) (dget kX9_digest 152 rfl) 1 rfl ?_
  refine wr_callVi (pc := 256) (Mc := mX9_easyNow) (o := 71) (rest := [.long ((31 : Int64) * x1_24)]) cf_X9_236 cv_X9_easyNow kd_71 rfl ⟨Nat.le_of_ble_eq_true rfl, Nat.le_of_ble_eq_true rfl⟩ rfl rfl (Nat.le_of_ble_eq_true rfl) (dget kX9_digest 153 rfl) (tX9_easyNow h) (fun r_26 σ_25 h => ?_)
  refine wr_i2l (pc := 259) (dget kX9_digest 154 rfl) rfl ?_
  refine wr_ladd (pc := 260) (dget kX9_digest 155 rfl) ?_
  refine wr_topl (fun x1_27 e_x1_27 => ?_)
  have h := h x1_27 e_x1_27
  refine wr_lstore_n (pc := 261) (lv' := [(1, .long x1_27), (0, .ref (G.1 71))]) (dget kX9_digest 156 rfl) (by decide) rfl ?_
  refine wr_ldc2 (pc := 262) kl_X9_313 (dget kX9_digest 157 rfl) ?_
  refine wr_lload_n (pc := 265) (dget kX9_digest 158 rfl) 0 rfl ?_
  refine wr_lmul (pc := 266) (dget kX9_digest 159 rfl) ?_
  refine wr_aload_n (pc := 267) (dget kX9_digest 160 rfl) 1 rfl ?_
  refine wr_callVi (pc := 268) (Mc := mX9_safeNow) (o := 71) (rest := [.long ((31 : Int64) * x1_27)]) cf_X9_239 cv_X9_safeNow kd_71 rfl ⟨Nat.le_of_ble_eq_true rfl, Nat.le_of_ble_eq_true rfl⟩ rfl rfl (Nat.le_of_ble_eq_true rfl) (dget kX9_digest 161 rfl) (tX9_safeNow h) (fun r_29 σ_28 h => ?_)
  refine wr_i2l (pc := 271) (dget kX9_digest 162 rfl) rfl ?_
  refine wr_ladd (pc := 272) (dget kX9_digest 163 rfl) ?_
  refine wr_topl (fun x1_30 e_x1_30 => ?_)
  have h := h x1_30 e_x1_30
  refine wr_lstore_n (pc := 273) (lv' := [(1, .long x1_30), (0, .ref (G.1 71))]) (dget kX9_digest 164 rfl) (by decide) rfl ?_
  refine wr_ldc2 (pc := 274) kl_X9_313 (dget kX9_digest 165 rfl) ?_
  refine wr_lload_n (pc := 277) (dget kX9_digest 166 rfl) 0 rfl ?_
  refine wr_lmul (pc := 278) (dget kX9_digest 167 rfl) ?_
  refine wr_aload_n (pc := 279) (dget kX9_digest 168 rfl) 1 rfl ?_
  refine wr_iconst (pc := 280) (dget kX9_digest 169 rfl) ic_0 ?_
  refine wr_callVi (pc := 281) (Mc := mX9_mendBy) (o := 71) (rest := [.long ((31 : Int64) * x1_30)]) cf_X9_245 cv_X9_mendBy kd_71 rfl ⟨Nat.le_of_ble_eq_true rfl, Nat.le_of_ble_eq_true rfl⟩ rfl rfl (Nat.le_of_ble_eq_true rfl) (dget kX9_digest 170 rfl) (tX9_mendBy h) (fun r_32 σ_31 h => ?_)
  refine wr_i2l (pc := 284) (dget kX9_digest 171 rfl) rfl ?_
  refine wr_ladd (pc := 285) (dget kX9_digest 172 rfl) ?_
  refine wr_topl (fun x1_33 e_x1_33 => ?_)
  have h := h x1_33 e_x1_33
  refine wr_lstore_n (pc := 286) (lv' := [(1, .long x1_33), (0, .ref (G.1 71))]) (dget kX9_digest 173 rfl) (by decide) rfl ?_
  refine wr_ldc2 (pc := 287) kl_X9_313 (dget kX9_digest 174 rfl) ?_
  refine wr_lload_n (pc := 290) (dget kX9_digest 175 rfl) 0 rfl ?_
  refine wr_lmul (pc := 291) (dget kX9_digest 176 rfl) ?_
  refine wr_aload_n (pc := 292) (dget kX9_digest 177 rfl) 1 rfl ?_
  refine wr_iconst (pc := 293) (dget kX9_digest 178 rfl) ic_1 ?_
  refine wr_callVi (pc := 294) (Mc := mX9_mendBy) (o := 71) (rest := [.long ((31 : Int64) * x1_33)]) cf_X9_245 cv_X9_mendBy kd_71 rfl ⟨Nat.le_of_ble_eq_true rfl, Nat.le_of_ble_eq_true rfl⟩ rfl rfl (Nat.le_of_ble_eq_true rfl) (dget kX9_digest 179 rfl) (tX9_mendBy h) (fun r_35 σ_34 h => ?_)
  refine wr_i2l (pc := 297) (dget kX9_digest 180 rfl) rfl ?_
  refine wr_ladd (pc := 298) (dget kX9_digest 181 rfl) ?_
  refine wr_topl (fun x1_36 e_x1_36 => ?_)
  have h := h x1_36 e_x1_36
  refine wr_lstore_n (pc := 299) (lv' := [(1, .long x1_36), (0, .ref (G.1 71))]) (dget kX9_digest 182 rfl) (by decide) rfl ?_
  refine wr_ldc2 (pc := 300) kl_X9_313 (dget kX9_digest 183 rfl) ?_
  refine wr_lload_n (pc := 303) (dget kX9_digest 184 rfl) 0 rfl ?_
  refine wr_lmul (pc := 304) (dget kX9_digest 185 rfl) ?_
  refine wr_aload_n (pc := 305) (dget kX9_digest 186 rfl) 1 rfl ?_
  refine wr_iconst (pc := 306) (dget kX9_digest 187 rfl) ic_m1 ?_
  refine wr_callVi (pc := 307) (Mc := mX9_spareBy) (o := 71) (rest := [.long ((31 : Int64) * x1_36)]) cf_X9_253 cv_X9_spareBy kd_71 rfl ⟨Nat.le_of_ble_eq_true rfl, Nat.le_of_ble_eq_true rfl⟩ rfl rfl (Nat.le_of_ble_eq_true rfl) (dget kX9_digest 188 rfl) (tX9_spareBy h) (fun r_38 σ_37 h => ?_)
  refine wr_i2l (pc := 310) (dget kX9_digest 189 rfl) rfl ?_
  refine wr_ladd (pc := 311) (dget kX9_digest 190 rfl) ?_
  refine wr_topl (fun x1_39 e_x1_39 => ?_)
  have h := h x1_39 e_x1_39
  refine wr_lstore_n (pc := 312) (lv' := [(1, .long x1_39), (0, .ref (G.1 71))]) (dget kX9_digest 191 rfl) (by decide) rfl ?_
  refine wr_ldc2 (pc := 313) kl_X9_313 (dget kX9_digest 192 rfl) ?_
  refine wr_lload_n (pc := 316) (dget kX9_digest 193 rfl) 0 rfl ?_
  refine wr_lmul (pc := 317) (dget kX9_digest 194 rfl) ?_
  refine wr_aload_n (pc := 318) (dget kX9_digest 195 rfl) 1 rfl ?_
  refine wr_iconst (pc := 319) (dget kX9_digest 196 rfl) ic_0 ?_
  refine wr_callVi (pc := 320) (Mc := mX9_spareBy) (o := 71) (rest := [.long ((31 : Int64) * x1_39)]) cf_X9_253 cv_X9_spareBy kd_71 rfl ⟨Nat.le_of_ble_eq_true rfl, Nat.le_of_ble_eq_true rfl⟩ rfl rfl (Nat.le_of_ble_eq_true rfl) (dget kX9_digest 197 rfl) (tX9_spareBy h) (fun r_41 σ_40 h => ?_)
  refine wr_i2l (pc := 323) (dget kX9_digest 198 rfl) rfl ?_
  refine wr_ladd (pc := 324) (dget kX9_digest 199 rfl) ?_
  refine wr_topl (fun x1_42 e_x1_42 => ?_)
  have h := h x1_42 e_x1_42
  refine wr_lstore_n (pc := 325) (lv' := [(1, .long x1_42), (0, .ref (G.1 71))]) (dget kX9_digest 200 rfl) (by decide) rfl ?_
  refine wr_ldc2 (pc := 326) kl_X9_313 (dget kX9_digest 201 rfl) ?_
  refine wr_lload_n (pc := 329) (dget kX9_digest 202 rfl) 0 rfl ?_
  refine wr_lmul (pc := 330) (dget kX9_digest 203 rfl) ?_
  refine wr_aload_n (pc := 331) (dget kX9_digest 204 rfl) 1 rfl ?_
  refine wr_callVi (pc := 332) (Mc := mX9_neverNow) (o := 71) (rest := [.long ((31 : Int64) * x1_42)]) cf_X9_266 cv_X9_neverNow kd_71 rfl ⟨Nat.le_of_ble_eq_true rfl, Nat.le_of_ble_eq_true rfl⟩ rfl rfl (Nat.le_of_ble_eq_true rfl) (dget kX9_digest 205 rfl) (tX9_neverNow h) (fun r_44 σ_43 h => ?_)
  refine wr_i2l (pc := 335) (dget kX9_digest 206 rfl) rfl ?_
  refine wr_ladd (pc := 336) (dget kX9_digest 207 rfl) ?_
  refine wr_topl (fun x1_45 e_x1_45 => ?_)
  have h := h x1_45 e_x1_45
  refine wr_lstore_n (pc := 337) (lv' := [(1, .long x1_45), (0, .ref (G.1 71))]) (dget kX9_digest 208 rfl) (by decide) rfl ?_
  refine wr_ldc2 (pc := 338) kl_X9_313 (dget kX9_digest 209 rfl) ?_
  refine wr_lload_n (pc := 341) (dget kX9_digest 210 rfl) 0 rfl ?_
  refine wr_lmul (pc := 342) (dget kX9_digest 211 rfl) ?_
  refine wr_aload_n (pc := 343) (dget kX9_digest 212 rfl) 1 rfl ?_
  refine wr_callVi (pc := 344) (Mc := mX9_pullsNow) (o := 71) (rest := [.long ((31 : Int64) * x1_45)]) cf_X9_269 cv_X9_pullsNow kd_71 rfl ⟨Nat.le_of_ble_eq_true rfl, Nat.le_of_ble_eq_true rfl⟩ rfl rfl (Nat.le_of_ble_eq_true rfl) (dget kX9_digest 213 rfl) (tX9_pullsNow h) (fun r_47 σ_46 h => ?_)
  refine wr_i2l (pc := 347) (dget kX9_digest 214 rfl) rfl ?_
  refine wr_ladd (pc := 348) (dget kX9_digest 215 rfl) ?_
  refine wr_topl (fun x1_48 e_x1_48 => ?_)
  have h := h x1_48 e_x1_48
  refine wr_lstore_n (pc := 349) (lv' := [(1, .long x1_48), (0, .ref (G.1 71))]) (dget kX9_digest 216 rfl) (by decide) rfl ?_
  refine wr_ldc2 (pc := 350) kl_X9_313 (dget kX9_digest 217 rfl) ?_
  refine wr_lload_n (pc := 353) (dget kX9_digest 218 rfl) 0 rfl ?_
  refine wr_lmul (pc := 354) (dget kX9_digest 219 rfl) ?_
  refine wr_aload_n (pc := 355) (dget kX9_digest 220 rfl) 1 rfl ?_
  refine wr_callVi (pc := 356) (Mc := mX9_askNow) (o := 71) (rest := [.long ((31 : Int64) * x1_48)]) cf_X9_281 cv_X9_askNow kd_71 rfl ⟨Nat.le_of_ble_eq_true rfl, Nat.le_of_ble_eq_true rfl⟩ rfl rfl (Nat.le_of_ble_eq_true rfl) (dget kX9_digest 221 rfl) (tX9_askNow h) (fun r_50 σ_49 h => ?_)
  refine wr_i2l (pc := 359) (dget kX9_digest 222 rfl) rfl ?_
  refine wr_ladd (pc := 360) (dget kX9_digest 223 rfl) ?_
  refine wr_topl (fun x1_51 e_x1_51 => ?_)
  have h := h x1_51 e_x1_51
  refine wr_lstore_n (pc := 361) (lv' := [(1, .long x1_51), (0, .ref (G.1 71))]) (dget kX9_digest 224 rfl) (by decide) rfl ?_
  refine wr_ldc2 (pc := 362) kl_X9_313 (dget kX9_digest 225 rfl) ?_
  refine wr_lload_n (pc := 365) (dget kX9_digest 226 rfl) 0 rfl ?_
  refine wr_lmul (pc := 366) (dget kX9_digest 227 rfl) ?_
  refine wr_aload_n (pc := 367) (dget kX9_digest 228 rfl) 1 rfl ?_
  refine wr_bipush (pc := 368) (dget kX9_digest 229 rfl) bp_7 ?_
  refine wr_bipush (pc := 370) (dget kX9_digest 230 rfl) bp_9 ?_
  refine wr_iconst (pc := 372) (dget kX9_digest 231 rfl) ic_0 ?_
  refine wr_callVi (pc := 373) (Mc := mX9_fairsOf) (o := 71) (rest := [.long ((31 : Int64) * x1_51)]) cf_X9_307 cv_X9_fairsOf kd_71 rfl ⟨Nat.le_of_ble_eq_true rfl, Nat.le_of_ble_eq_true rfl⟩ rfl rfl (Nat.le_of_ble_eq_true rfl) (dget kX9_digest 232 rfl) (tX9_fairsOf h) (fun r_53 σ_52 h => ?_)
  refine wr_i2l (pc := 376) (dget kX9_digest 233 rfl) rfl ?_
  refine wr_ladd (pc := 377) (dget kX9_digest 234 rfl) ?_
  refine wr_topl (fun x1_54 e_x1_54 => ?_)
  have h := h x1_54 e_x1_54
  refine wr_lstore_n (pc := 378) (lv' := [(1, .long x1_54), (0, .ref (G.1 71))]) (dget kX9_digest 235 rfl) (by decide) rfl ?_
  refine wr_ldc2 (pc := 379) kl_X9_313 (dget kX9_digest 236 rfl) ?_
  refine wr_lload_n (pc := 382) (dget kX9_digest 237 rfl) 0 rfl ?_
  refine wr_lmul (pc := 383) (dget kX9_digest 238 rfl) ?_
  refine wr_aload_n (pc := 384) (dget kX9_digest 239 rfl) 1 rfl ?_
  refine wr_bipush (pc := 385) (dget kX9_digest 240 rfl) bp_7 ?_
  refine wr_bipush (pc := 387) (dget kX9_digest 241 rfl) bp_9 ?_
  refine wr_iconst (pc := 389) (dget kX9_digest 242 rfl) ic_1 ?_
  refine wr_callVi (pc := 390) (Mc := mX9_fairsOf) (o := 71) (rest := [.long ((31 : Int64) * x1_54)]) cf_X9_307 cv_X9_fairsOf kd_71 rfl ⟨Nat.le_of_ble_eq_true rfl, Nat.le_of_ble_eq_true rfl⟩ rfl rfl (Nat.le_of_ble_eq_true rfl) (dget kX9_digest 243 rfl) (tX9_fairsOf h) (fun r_56 σ_55 h => ?_)
  refine wr_i2l (pc := 393) (dget kX9_digest 244 rfl) rfl ?_
  refine wr_ladd (pc := 394) (dget kX9_digest 245 rfl) ?_
  exact wr_lret (pc := 395) rfl (dget kX9_digest 246 rfl) ⟨_, rfl, h⟩
