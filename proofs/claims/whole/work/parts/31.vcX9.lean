def vX9_readsChains_112 (post : Int32 → Hp → Prop) (ex : Hp → Prop) (rc : Int32 → Int32 → Hp → Prop) (x1 : Int32) (x3 : Int32) (x5 : Int32) (x6 : Int32) (y0 : Int32) (σ : Hp) : Prop := ((x5 = (1 : Int32) → (vp_in (x3 / (3 : Int32)) 3 ∧ ∀ σ_4 : Hp, σ_4 = wI σ 78 ((x3 / (3 : Int32))).toNatClampNeg (y0 * x6) → (∀ x3_5 : Int32, x3_5 = x3 + (1 : Int32) → (rc y0 x3_5 σ_4)))) ∧ (¬ x5 = (1 : Int32) → (∀ x3_2 : Int32, x3_2 = x3 + (1 : Int32) → (rc y0 x3_2 σ))))
set_option maxHeartbeats 4000000 in
set_option maxRecDepth 100000 in
theorem tX9_readsChains_112 {G : GT} {post : Int32 → Hp → Prop} {ex : Hp → Prop} {rc : Int32 → Int32 → Hp → Prop} {x1 : Int32} {x3 : Int32} {x5 : Int32} {x6 : Int32} {y0 : Int32} {σ : Hp} (hex : ∀  (τ : Hp), ex  τ → WP G mX9_readsChains 137 [(0, .ref (G.1 71)), (1, .int x1)] [] τ (LI post)) (hrc : ∀ (z2 : Int32) (z3 : Int32) (τ : Hp), rc z2 z3 τ → WP G mX9_readsChains 15 [(0, .ref (G.1 71)), (1, .int x1), (2, .int z2), (3, .int z3)] [] τ (LI post)) (h : vX9_readsChains_112 post ex rc x1 x3 x5 x6 y0 σ) : WP G mX9_readsChains 112 [(0, .ref (G.1 71)), (1, .int x1), (3, .int x3), (5, .int x5), (6, .int x6)] [.int y0] σ (LI post) := by
  unfold vX9_readsChains_112 at h
  refine wr_istore_n (pc := 112) (lv' := [(2, .int y0), (0, .ref (G.1 71)), (1, .int x1), (3, .int x3), (5, .int x5), (6, .int x6)]) (dget kX9_readsChains 60 rfl) (by decide) rfl ?_
  refine wr_iload (pc := 113) (dget kX9_readsChains 61 rfl) 4 rfl ?_
  refine wr_iconst (pc := 115) (dget kX9_readsChains 62 rfl) ic_1 ?_
  refine wr_icmp_ne (pc := 116) (tgt := 131) (dget kX9_readsChains 63 rfl) (by decide) (fun c_1 => ?_) (fun c_1 => ?_)
  · have h := h.2 c_1
    obtain ⟨x3_2, e_x3_2⟩ : ∃ y : Int32, y = x3 + (1 : Int32) := ⟨_, rfl⟩
    have h := h x3_2 e_x3_2
    refine wr_iinc (pc := 131) (v := x3_2) (lv' := [(3, .int x3_2), (2, .int y0), (0, .ref (G.1 71)), (1, .int x1), (5, .int x5), (6, .int x6)]) (dget kX9_readsChains 73 rfl) 3 rfl (by rw [e_x3_2, ic_1]) (by decide) rfl ?_
    refine wr_goto (pc := 134) (tgt := 15) (dget kX9_readsChains 74 rfl) (by decide) ?_
    refine wr_sub [2, 3, 1, 0] rfl ?_
    exact hrc _ _ _ h
  · have h := h.1 c_1
    refine wr_aload_n (pc := 119) (dget kX9_readsChains 64 rfl) 1 rfl ?_
    refine wr_getRl (pc := 120) fl_X9_28 kd_71 fk_9_7 rt_71_7 (dget kX9_readsChains 65 rfl) ?_
    refine wr_iload_n (pc := 123) (dget kX9_readsChains 66 rfl) 3 rfl ?_
    refine wr_iconst (pc := 124) (dget kX9_readsChains 67 rfl) ic_3 ?_
    refine wr_idiv (pc := 125) (dget kX9_readsChains 68 rfl) (by decide) ?_
    refine wr_iload_n (pc := 126) (dget kX9_readsChains 69 rfl) 0 rfl ?_
    refine wr_iload (pc := 127) (dget kX9_readsChains 70 rfl) 5 rfl ?_
    refine wr_imul (pc := 129) (dget kX9_readsChains 71 rfl) ?_
    obtain ⟨q_3, h⟩ := h
    refine wr_iastl (pc := 130) il_78 q_3 (dget kX9_readsChains 72 rfl) ?_
    refine wr_tops (fun σ_4 e_σ_4 => ?_)
    have h := h σ_4 e_σ_4
    obtain ⟨x3_5, e_x3_5⟩ : ∃ y : Int32, y = x3 + (1 : Int32) := ⟨_, rfl⟩
    have h := h x3_5 e_x3_5
    refine wr_iinc (pc := 131) (v := x3_5) (lv' := [(3, .int x3_5), (2, .int y0), (0, .ref (G.1 71)), (1, .int x1), (5, .int x5), (6, .int x6)]) (dget kX9_readsChains 73 rfl) 3 rfl (by rw [e_x3_5, ic_1]) (by decide) rfl ?_
    refine wr_goto (pc := 134) (tgt := 15) (dget kX9_readsChains 74 rfl) (by decide) ?_
    refine wr_sub [2, 3, 1, 0] rfl ?_
    exact hrc _ _ _ h
def vX9_readsChains_86 (post : Int32 → Hp → Prop) (ex : Hp → Prop) (rc : Int32 → Int32 → Hp → Prop) (x1 : Int32) (x2 : Int32) (x3 : Int32) (x5 : Int32) (y0 : Int32) (σ : Hp) : Prop := ((y0 = (-9 : Int32) → (vX9_usual  σ (fun σ_3 => post x3 σ_3))) ∧ (¬ y0 = (-9 : Int32) → ((x5 = 0 → vX9_readsChains_112 post ex rc x1 x3 x5 y0 y0 σ) ∧ (¬ x5 = 0 → vX9_readsChains_112 post ex rc x1 x3 x5 y0 x2 σ))))
set_option maxHeartbeats 4000000 in
set_option maxRecDepth 100000 in
theorem tX9_readsChains_86 {G : GT} {post : Int32 → Hp → Prop} {ex : Hp → Prop} {rc : Int32 → Int32 → Hp → Prop} {x1 : Int32} {x2 : Int32} {x3 : Int32} {x5 : Int32} {y0 : Int32} {σ : Hp} (hex : ∀  (τ : Hp), ex  τ → WP G mX9_readsChains 137 [(0, .ref (G.1 71)), (1, .int x1)] [] τ (LI post)) (hrc : ∀ (z2 : Int32) (z3 : Int32) (τ : Hp), rc z2 z3 τ → WP G mX9_readsChains 15 [(0, .ref (G.1 71)), (1, .int x1), (2, .int z2), (3, .int z3)] [] τ (LI post)) (h : vX9_readsChains_86 post ex rc x1 x2 x3 x5 y0 σ) : WP G mX9_readsChains 86 [(0, .ref (G.1 71)), (1, .int x1), (2, .int x2), (3, .int x3), (5, .int x5)] [.int y0] σ (LI post) := by
  unfold vX9_readsChains_86 at h
  refine wr_istore (pc := 86) (lv' := [(6, .int y0), (0, .ref (G.1 71)), (1, .int x1), (2, .int x2), (3, .int x3), (5, .int x5)]) (dget kX9_readsChains 47 rfl) (by decide) rfl ?_
  refine wr_iload (pc := 88) (dget kX9_readsChains 48 rfl) 0 rfl ?_
  refine wr_bipush (pc := 90) (dget kX9_readsChains 49 rfl) bp_m9 ?_
  refine wr_icmp_ne (pc := 92) (tgt := 101) (dget kX9_readsChains 50 rfl) (by decide) (fun c_1 => ?_) (fun c_1 => ?_)
  · have h := h.2 c_1
    refine wr_iload (pc := 101) (dget kX9_readsChains 55 rfl) 5 rfl ?_
    refine wr_if_ne (pc := 103) (tgt := 111) (dget kX9_readsChains 56 rfl) (by decide) (fun c_2 => ?_) (fun c_2 => ?_)
    · have h := h.2 c_2
      refine wr_iload_n (pc := 111) (dget kX9_readsChains 59 rfl) 3 rfl ?_
      refine wr_sub [1, 2, 4, 5, 0] rfl ?_
      exact tX9_readsChains_112 hex hrc h
    · have h := h.1 c_2
      refine wr_iload (pc := 106) (dget kX9_readsChains 57 rfl) 0 rfl ?_
      refine wr_goto (pc := 108) (tgt := 112) (dget kX9_readsChains 58 rfl) (by decide) ?_
      refine wr_sub [1, 2, 4, 5, 0] rfl ?_
      exact tX9_readsChains_112 hex hrc h
  · have h := h.1 c_1
    refine wr_aload_n (pc := 95) (dget kX9_readsChains 51 rfl) 1 rfl ?_
    refine wr_callVv (pc := 96) (Mc := mX9_usual) (o := 71) (rest := []) cf_X9_111 cv_X9_usual kd_71 rfl ⟨Nat.le_of_ble_eq_true rfl, Nat.le_of_ble_eq_true rfl⟩ rfl rfl (Nat.le_of_ble_eq_true rfl) (dget kX9_readsChains 52 rfl) (tX9_usual h) (fun σ_3 h => ?_)
    refine wr_iload_n (pc := 99) (dget kX9_readsChains 53 rfl) 4 rfl ?_
    exact wr_iret (pc := 100) rfl (dget kX9_readsChains 54 rfl) ⟨_, rfl, h⟩
def vX9_readsChains_15 (post : Int32 → Hp → Prop) (ex : Hp → Prop) (x1 : Int32) : Nat → Int32 → Int32 → Hp → Prop
  | 0 => fun _ _ _ => False
  | n + 1 => fun x2 x3 σ => ((x1 ≤ x3 → (ex σ)) ∧ (¬ x1 ≤ x3 → (vp_in x3 180 ∧ (∀ x4_3 : Int32, x4_3 = (σ.1 76 x3.toNatClampNeg) → (∀ x5_4 : Int32, x5_4 = (x3 - x3 / (3 : Int32) * (3 : Int32)) → ((x5_4 = 0 → ((x4_3 = (114 : Int32) → vX9_readsChains_86 post ex (vX9_readsChains_15 post ex x1 n) x1 x2 x3 x5_4 (1 : Int32) σ) ∧ (¬ x4_3 = (114 : Int32) → ((x4_3 = (108 : Int32) → vX9_readsChains_86 post ex (vX9_readsChains_15 post ex x1 n) x1 x2 x3 x5_4 (-1 : Int32) σ) ∧ (¬ x4_3 = (108 : Int32) → vX9_readsChains_86 post ex (vX9_readsChains_15 post ex x1 n) x1 x2 x3 x5_4 (-9 : Int32) σ))))) ∧ (¬ x5_4 = 0 → ((x5_4 = (1 : Int32) → (vX9_figureOf x4_3 (0 : Int32) (3 : Int32) σ (fun r_10 σ_9 => vX9_readsChains_86 post ex (vX9_readsChains_15 post ex x1 n) x1 x2 x3 x5_4 r_10 σ_9))) ∧ (¬ x5_4 = (1 : Int32) → (vX9_between x4_3 σ (fun r_8 σ_7 => vX9_readsChains_86 post ex (vX9_readsChains_15 post ex x1 n) x1 x2 x3 x5_4 r_8 σ_7)))))))))))
set_option maxHeartbeats 4000000 in
set_option maxRecDepth 100000 in
theorem tX9_readsChains_15 {G : GT} {post : Int32 → Hp → Prop} {ex : Hp → Prop} {x1 : Int32} (hex : ∀  (τ : Hp), ex  τ → WP G mX9_readsChains 137 [(0, .ref (G.1 71)), (1, .int x1)] [] τ (LI post)) : ∀ (n : Nat) (x2 : Int32) (x3 : Int32) (σ : Hp), vX9_readsChains_15 post ex x1 n x2 x3 σ → WP G mX9_readsChains 15 [(0, .ref (G.1 71)), (1, .int x1), (2, .int x2), (3, .int x3)] [] σ (LI post) := by
  intro n
  induction n with
  | zero => intro x2 x3 σ h; exact False.elim h
  | succ n ih =>
    intro x2 x3 σ h
    simp only [vX9_readsChains_15] at h
    refine wr_iload_n (pc := 15) (dget kX9_readsChains 11 rfl) 3 rfl ?_
    refine wr_iload_n (pc := 16) (dget kX9_readsChains 12 rfl) 1 rfl ?_
    refine wr_icmp_ge (pc := 17) (tgt := 137) (dget kX9_readsChains 13 rfl) (by decide) (fun c_1 => ?_) (fun c_1 => ?_)
    · have h := h.1 c_1
      refine wr_sub [0, 1] rfl ?_
      exact hex  _ h
    · have h := h.2 c_1
      refine wr_aload_n (pc := 20) (dget kX9_readsChains 14 rfl) 0 rfl ?_
      refine wr_getRl (pc := 21) fl_X9_22 kd_71 fk_9_5 rt_71_5 (dget kX9_readsChains 15 rfl) ?_
      refine wr_iload_n (pc := 24) (dget kX9_readsChains 16 rfl) 3 rfl ?_
      obtain ⟨q_2, h⟩ := h
      refine wr_ialdl (pc := 25) (σ := σ) il_76 q_2 (dget kX9_readsChains 17 rfl) ?_
      refine wr_topi (fun x4_3 e_x4_3 => ?_)
      have h := h x4_3 e_x4_3
      refine wr_istore (pc := 26) (lv' := [(4, .int x4_3), (0, .ref (G.1 71)), (1, .int x1), (2, .int x2), (3, .int x3)]) (dget kX9_readsChains 18 rfl) (by decide) rfl ?_
      refine wr_iload_n (pc := 28) (dget kX9_readsChains 19 rfl) 4 rfl ?_
      refine wr_iconst (pc := 29) (dget kX9_readsChains 20 rfl) ic_3 ?_
      refine wr_irem (pc := 30) (dget kX9_readsChains 21 rfl) (by decide) ?_
      refine wr_topi (fun x5_4 e_x5_4 => ?_)
      have h := h x5_4 e_x5_4
      refine wr_istore (pc := 31) (lv' := [(5, .int x5_4), (4, .int x4_3), (0, .ref (G.1 71)), (1, .int x1), (2, .int x2), (3, .int x3)]) (dget kX9_readsChains 22 rfl) (by decide) rfl ?_
      refine wr_iload (pc := 33) (dget kX9_readsChains 23 rfl) 0 rfl ?_
      refine wr_if_ne (pc := 35) (tgt := 65) (dget kX9_readsChains 24 rfl) (by decide) (fun c_5 => ?_) (fun c_5 => ?_)
      · have h := h.2 c_5
        refine wr_iload (pc := 65) (dget kX9_readsChains 37 rfl) 0 rfl ?_
        refine wr_iconst (pc := 67) (dget kX9_readsChains 38 rfl) ic_1 ?_
        refine wr_icmp_ne (pc := 68) (tgt := 81) (dget kX9_readsChains 39 rfl) (by decide) (fun c_6 => ?_) (fun c_6 => ?_)
        · have h := h.2 c_6
          refine wr_iload (pc := 81) (dget kX9_readsChains 45 rfl) 1 rfl ?_
          refine wr_callSi (pc := 83) (Mc := mX9_between) (rest := []) cf_X9_117 cs_X9_between ⟨Nat.le_of_ble_eq_true rfl, Nat.le_of_ble_eq_true rfl⟩ rfl rfl (Nat.le_of_ble_eq_true rfl) (dget kX9_readsChains 46 rfl) (tX9_between h) (fun r_8 σ_7 h => ?_)
          refine wr_sub [2, 3, 4, 5, 0] rfl ?_
          exact tX9_readsChains_86 hex ih h
        · have h := h.1 c_6
          refine wr_iload (pc := 71) (dget kX9_readsChains 40 rfl) 1 rfl ?_
          refine wr_iconst (pc := 73) (dget kX9_readsChains 41 rfl) ic_0 ?_
          refine wr_iconst (pc := 74) (dget kX9_readsChains 42 rfl) ic_3 ?_
          refine wr_callSi (pc := 75) (Mc := mX9_figureOf) (rest := []) cf_X9_114 cs_X9_figureOf ⟨Nat.le_of_ble_eq_true rfl, Nat.le_of_ble_eq_true rfl⟩ rfl rfl (Nat.le_of_ble_eq_true rfl) (dget kX9_readsChains 43 rfl) (tX9_figureOf h) (fun r_10 σ_9 h => ?_)
          refine wr_goto (pc := 78) (tgt := 86) (dget kX9_readsChains 44 rfl) (by decide) ?_
          refine wr_sub [2, 3, 4, 5, 0] rfl ?_
          exact tX9_readsChains_86 hex ih h
      · have h := h.1 c_5
        refine wr_iload (pc := 38) (dget kX9_readsChains 25 rfl) 1 rfl ?_
        refine wr_bipush (pc := 40) (dget kX9_readsChains 26 rfl) bp_114 ?_
        refine wr_icmp_ne (pc := 42) (tgt := 49) (dget kX9_readsChains 27 rfl) (by decide) (fun c_11 => ?_) (fun c_11 => ?_)
        · have h := h.2 c_11
          refine wr_iload (pc := 49) (dget kX9_readsChains 30 rfl) 1 rfl ?_
          refine wr_bipush (pc := 51) (dget kX9_readsChains 31 rfl) bp_108 ?_
          refine wr_icmp_ne (pc := 53) (tgt := 60) (dget kX9_readsChains 32 rfl) (by decide) (fun c_12 => ?_) (fun c_12 => ?_)
          · have h := h.2 c_12
            refine wr_bipush (pc := 60) (dget kX9_readsChains 35 rfl) bp_m9 ?_
            refine wr_goto (pc := 62) (tgt := 86) (dget kX9_readsChains 36 rfl) (by decide) ?_
            refine wr_sub [2, 3, 4, 5, 0] rfl ?_
            exact tX9_readsChains_86 hex ih h
          · have h := h.1 c_12
            refine wr_iconst (pc := 56) (dget kX9_readsChains 33 rfl) ic_m1 ?_
            refine wr_goto (pc := 57) (tgt := 86) (dget kX9_readsChains 34 rfl) (by decide) ?_
            refine wr_sub [2, 3, 4, 5, 0] rfl ?_
            exact tX9_readsChains_86 hex ih h
        · have h := h.1 c_11
          refine wr_iconst (pc := 45) (dget kX9_readsChains 28 rfl) ic_1 ?_
          refine wr_goto (pc := 46) (tgt := 86) (dget kX9_readsChains 29 rfl) (by decide) ?_
          refine wr_sub [2, 3, 4, 5, 0] rfl ?_
          exact tX9_readsChains_86 hex ih h
def vX9_readsChains (σ : Hp) (post : Int32 → Hp → Prop) : Prop := (vX9_usual  σ (fun σ_1 => (vp_in (0 : Int32) 3 ∧ (∀ x1_4 : Int32, x1_4 = (σ_1.1 77 (0 : Int32).toNatClampNeg) → (∃ fu : Nat, vX9_readsChains_15 post (fun σ_5 => ((x1_4 ≤ 0 → post (-1 : Int32) σ_5) ∧ (¬ x1_4 ≤ 0 → (((x1_4 - x1_4 / (3 : Int32) * (3 : Int32)) = (2 : Int32) → post (-1 : Int32) σ_5) ∧ (¬ (x1_4 - x1_4 / (3 : Int32) * (3 : Int32)) = (2 : Int32) → (vX9_usual  σ_5 (fun σ_8 => post x1_4 σ_8))))))) x1_4 fu (0 : Int32) (0 : Int32) σ_1)))))
set_option maxHeartbeats 4000000 in
set_option maxRecDepth 100000 in
theorem tX9_readsChains {G : GT} {σ : Hp} {post : Int32 → Hp → Prop} (h : vX9_readsChains  σ post) : CT G mX9_readsChains [.ref (G.1 71)] σ (LI post) := by
  refine CT.of (by decide +kernel) (Nat.le_of_ble_eq_true rfl) ?_
  show WP G mX9_readsChains 0 [(0, .ref (G.1 71))] [] σ (LI post)
  unfold vX9_readsChains at h
  refine wr_aload_n (pc := 0) (dget kX9_readsChains 0 rfl) 0 rfl ?_
  refine wr_callVv (pc := 1) (Mc := mX9_usual) (o := 71) (rest := []) cf_X9_111 cv_X9_usual kd_71 rfl ⟨Nat.le_of_ble_eq_true rfl, Nat.le_of_ble_eq_true rfl⟩ rfl rfl (Nat.le_of_ble_eq_true rfl) (dget kX9_readsChains 1 rfl) (tX9_usual h) (fun σ_1 h => ?_)
  refine wr_aload_n (pc := 4) (dget kX9_readsChains 2 rfl) 0 rfl ?_
  refine wr_getRl (pc := 5) fl_X9_25 kd_71 fk_9_6 rt_71_6 (dget kX9_readsChains 3 rfl) ?_
  refine wr_iconst (pc := 8) (dget kX9_readsChains 4 rfl) ic_0 ?_
  obtain ⟨q_3, h⟩ := h
  refine wr_ialdl (pc := 9) (σ := σ_1) il_77 q_3 (dget kX9_readsChains 5 rfl) ?_
  refine wr_topi (fun x1_4 e_x1_4 => ?_)
  have h := h x1_4 e_x1_4
  refine wr_istore_n (pc := 10) (lv' := [(1, .int x1_4), (0, .ref (G.1 71))]) (dget kX9_readsChains 6 rfl) (by decide) rfl ?_
  refine wr_iconst (pc := 11) (dget kX9_readsChains 7 rfl) ic_0 ?_
  refine wr_istore_n (pc := 12) (lv' := [(2, .int (0 : Int32)), (1, .int x1_4), (0, .ref (G.1 71))]) (dget kX9_readsChains 8 rfl) (by decide) rfl ?_
  refine wr_iconst (pc := 13) (dget kX9_readsChains 9 rfl) ic_0 ?_
  refine wr_istore_n (pc := 14) (lv' := [(3, .int (0 : Int32)), (2, .int (0 : Int32)), (1, .int x1_4), (0, .ref (G.1 71))]) (dget kX9_readsChains 10 rfl) (by decide) rfl ?_
  obtain ⟨fu, h⟩ := h
  refine wr_sub [3, 2, 1, 0] rfl ?_
  refine tX9_readsChains_15 (fun σ_5 h => ?_) fu _ _ _ h
  refine wr_iload_n (pc := 137) (dget kX9_readsChains 75 rfl) 1 rfl ?_
  refine wr_if_le (pc := 138) (tgt := 154) (dget kX9_readsChains 76 rfl) (by decide) (fun c_6 => ?_) (fun c_6 => ?_)
  · have h := h.1 c_6
    refine wr_iconst (pc := 154) (dget kX9_readsChains 86 rfl) ic_m1 ?_
    exact wr_iret (pc := 155) rfl (dget kX9_readsChains 87 rfl) ⟨_, rfl, h⟩
  · have h := h.2 c_6
    refine wr_iload_n (pc := 141) (dget kX9_readsChains 77 rfl) 1 rfl ?_
    refine wr_iconst (pc := 142) (dget kX9_readsChains 78 rfl) ic_3 ?_
    refine wr_irem (pc := 143) (dget kX9_readsChains 79 rfl) (by decide) ?_
    refine wr_iconst (pc := 144) (dget kX9_readsChains 80 rfl) ic_2 ?_
    refine wr_icmp_eq (pc := 145) (tgt := 154) (dget kX9_readsChains 81 rfl) (by decide) (fun c_7 => ?_) (fun c_7 => ?_)
    · have h := h.1 c_7
      refine wr_iconst (pc := 154) (dget kX9_readsChains 86 rfl) ic_m1 ?_
      exact wr_iret (pc := 155) rfl (dget kX9_readsChains 87 rfl) ⟨_, rfl, h⟩
    · have h := h.2 c_7
      refine wr_aload_n (pc := 148) (dget kX9_readsChains 82 rfl) 0 rfl ?_
      refine wr_callVv (pc := 149) (Mc := mX9_usual) (o := 71) (rest := []) cf_X9_111 cv_X9_usual kd_71 rfl ⟨Nat.le_of_ble_eq_true rfl, Nat.le_of_ble_eq_true rfl⟩ rfl rfl (Nat.le_of_ble_eq_true rfl) (dget kX9_readsChains 83 rfl) (tX9_usual h) (fun σ_8 h => ?_)
      refine wr_iload_n (pc := 152) (dget kX9_readsChains 84 rfl) 1 rfl ?_
      exact wr_iret (pc := 153) rfl (dget kX9_readsChains 85 rfl) ⟨_, rfl, h⟩
def vX9_duckOf (p1 : Int32) (p2 : Int32) (σ : Hp) (post : Int32 → Hp → Prop) : Prop := ((p1 = (0 : Int32) → (vX9_figureOf p2 (0 : Int32) (2 : Int32) σ (fun r_3 σ_2 => post r_3 σ_2))) ∧ (¬ p1 = (0 : Int32) → ((p1 = (1 : Int32) → (vX9_letterOf p2 (108 : Int32) σ (fun r_6 σ_5 => post r_6 σ_5))) ∧ (¬ p1 = (1 : Int32) → ((p1 = (2 : Int32) → ((p2 = (116 : Int32) → post (0 : Int32) σ) ∧ (¬ p2 = (116 : Int32) → ((p2 = (104 : Int32) → post (1 : Int32) σ) ∧ (¬ p2 = (104 : Int32) → ((p2 = (103 : Int32) → post (2 : Int32) σ) ∧ (¬ p2 = (103 : Int32) → post (-9 : Int32) σ))))))) ∧ (¬ p1 = (2 : Int32) → ((p1 = (3 : Int32) → (vX9_figureOf p2 (1 : Int32) (9 : Int32) σ (fun r_13 σ_12 => post r_13 σ_12))) ∧ (¬ p1 = (3 : Int32) → (vX9_between p2 σ (fun r_15 σ_14 => post r_15 σ_14))))))))))
set_option maxHeartbeats 4000000 in
set_option maxRecDepth 100000 in
theorem tX9_duckOf {G : GT} {p1 : Int32} {p2 : Int32} {σ : Hp} {post : Int32 → Hp → Prop} (h : vX9_duckOf p1 p2 σ post) : CT G mX9_duckOf [.int p1, .int p2] σ (LI post) := by
  refine CT.of (by decide +kernel) (Nat.le_of_ble_eq_true rfl) ?_
  show WP G mX9_duckOf 0 [(0, .int p1), (1, .int p2)] [] σ (LI post)
  unfold vX9_duckOf at h
  refine wr_iload_n (pc := 0) (dget kX9_duckOf 0 rfl) 0 rfl ?_
  rcases Decidable.em (p1 = (0 : Int32)) with c_1 | c_1
  · have h := h.1 c_1
    refine wr_tabIn (pc := 1) (tgt := 32) (off := 31) (dget kX9_duckOf 1 rfl) (by rw [c_1]; decide) (by rw [c_1]; decide) (by rw [c_1]; rfl) (by decide) ?_
    refine wr_iload_n (pc := 32) (dget kX9_duckOf 2 rfl) 1 rfl ?_
    refine wr_iconst (pc := 33) (dget kX9_duckOf 3 rfl) ic_0 ?_
    refine wr_iconst (pc := 34) (dget kX9_duckOf 4 rfl) ic_2 ?_
    refine wr_callSi (pc := 35) (Mc := mX9_figureOf) (rest := []) cf_X9_114 cs_X9_figureOf ⟨Nat.le_of_ble_eq_true rfl, Nat.le_of_ble_eq_true rfl⟩ rfl rfl (Nat.le_of_ble_eq_true rfl) (dget kX9_duckOf 5 rfl) (tX9_figureOf h) (fun r_3 σ_2 h => ?_)
    exact wr_iret (pc := 38) rfl (dget kX9_duckOf 6 rfl) ⟨_, rfl, h⟩
  · have h := h.2 c_1
    rcases Decidable.em (p1 = (1 : Int32)) with c_4 | c_4
    · have h := h.1 c_4
      refine wr_tabIn (pc := 1) (tgt := 39) (off := 38) (dget kX9_duckOf 1 rfl) (by rw [c_4]; decide) (by rw [c_4]; decide) (by rw [c_4]; rfl) (by decide) ?_
      refine wr_iload_n (pc := 39) (dget kX9_duckOf 7 rfl) 1 rfl ?_
      refine wr_bipush (pc := 40) (dget kX9_duckOf 8 rfl) bp_108 ?_
      refine wr_callSi (pc := 42) (Mc := mX9_letterOf) (rest := []) cf_X9_120 cs_X9_letterOf ⟨Nat.le_of_ble_eq_true rfl, Nat.le_of_ble_eq_true rfl⟩ rfl rfl (Nat.le_of_ble_eq_true rfl) (dget kX9_duckOf 9 rfl) (tX9_letterOf h) (fun r_6 σ_5 h => ?_)
      exact wr_iret (pc := 45) rfl (dget kX9_duckOf 10 rfl) ⟨_, rfl, h⟩
    · have h := h.2 c_4
      rcases Decidable.em (p1 = (2 : Int32)) with c_7 | c_7
      · have h := h.1 c_7
        refine wr_tabIn (pc := 1) (tgt := 46) (off := 45) (dget kX9_duckOf 1 rfl) (by rw [c_7]; decide) (by rw [c_7]; decide) (by rw [c_7]; rfl) (by decide) ?_
        refine wr_iload_n (pc := 46) (dget kX9_duckOf 11 rfl) 1 rfl ?_
        refine wr_bipush (pc := 47) (dget kX9_duckOf 12 rfl) bp_116 ?_
        refine wr_icmp_ne (pc := 49) (tgt := 56) (dget kX9_duckOf 13 rfl) (by decide) (fun c_8 => ?_) (fun c_8 => ?_)
        · have h := h.2 c_8
          refine wr_iload_n (pc := 56) (dget kX9_duckOf 16 rfl) 1 rfl ?_
          refine wr_bipush (pc := 57) (dget kX9_duckOf 17 rfl) bp_104 ?_
          refine wr_icmp_ne (pc := 59) (tgt := 66) (dget kX9_duckOf 18 rfl) (by decide) (fun c_9 => ?_) (fun c_9 => ?_)
          · have h := h.2 c_9
            refine wr_iload_n (pc := 66) (dget kX9_duckOf 21 rfl) 1 rfl ?_
            refine wr_bipush (pc := 67) (dget kX9_duckOf 22 rfl) bp_103 ?_
            refine wr_icmp_ne (pc := 69) (tgt := 76) (dget kX9_duckOf 23 rfl) (by decide) (fun c_10 => ?_) (fun c_10 => ?_)
            · have h := h.2 c_10
              refine wr_bipush (pc := 76) (dget kX9_duckOf 26 rfl) bp_m9 ?_
              exact wr_iret (pc := 78) rfl (dget kX9_duckOf 27 rfl) ⟨_, rfl, h⟩
            · have h := h.1 c_10
              refine wr_iconst (pc := 72) (dget kX9_duckOf 24 rfl) ic_2 ?_
              refine wr_goto (pc := 73) (tgt := 78) (dget kX9_duckOf 25 rfl) (by decide) ?_
              exact wr_iret (pc := 78) rfl (dget kX9_duckOf 27 rfl) ⟨_, rfl, h⟩
          · have h := h.1 c_9
            refine wr_iconst (pc := 62) (dget kX9_duckOf 19 rfl) ic_1 ?_
            refine wr_goto (pc := 63) (tgt := 78) (dget kX9_duckOf 20 rfl) (by decide) ?_
            exact wr_iret (pc := 78) rfl (dget kX9_duckOf 27 rfl) ⟨_, rfl, h⟩
        · have h := h.1 c_8
          refine wr_iconst (pc := 52) (dget kX9_duckOf 14 rfl) ic_0 ?_
          refine wr_goto (pc := 53) (tgt := 78) (dget kX9_duckOf 15 rfl) (by decide) ?_
          exact wr_iret (pc := 78) rfl (dget kX9_duckOf 27 rfl) ⟨_, rfl, h⟩
      · have h := h.2 c_7
        rcases Decidable.em (p1 = (3 : Int32)) with c_11 | c_11
        · have h := h.1 c_11
          refine wr_tabIn (pc := 1) (tgt := 79) (off := 78) (dget kX9_duckOf 1 rfl) (by rw [c_11]; decide) (by rw [c_11]; decide) (by rw [c_11]; rfl) (by decide) ?_
          refine wr_iload_n (pc := 79) (dget kX9_duckOf 28 rfl) 1 rfl ?_
          refine wr_iconst (pc := 80) (dget kX9_duckOf 29 rfl) ic_1 ?_
          refine wr_bipush (pc := 81) (dget kX9_duckOf 30 rfl) bp_9 ?_
          refine wr_callSi (pc := 83) (Mc := mX9_figureOf) (rest := []) cf_X9_114 cs_X9_figureOf ⟨Nat.le_of_ble_eq_true rfl, Nat.le_of_ble_eq_true rfl⟩ rfl rfl (Nat.le_of_ble_eq_true rfl) (dget kX9_duckOf 31 rfl) (tX9_figureOf h) (fun r_13 σ_12 h => ?_)
          exact wr_iret (pc := 86) rfl (dget kX9_duckOf 32 rfl) ⟨_, rfl, h⟩
        · have h := h.2 c_11
          refine wr_tabOut (pc := 1) (tgt := 87) (dget kX9_duckOf 1 rfl) (by have := sw_ne c_1 (by decide : ((0 : Int32)).toInt = 0); have := sw_ne c_4 (by decide : ((1 : Int32)).toInt = 1); have := sw_ne c_7 (by decide : ((2 : Int32)).toInt = 2); have := sw_ne c_11 (by decide : ((3 : Int32)).toInt = 3); omega) (by decide) ?_
          refine wr_iload_n (pc := 87) (dget kX9_duckOf 33 rfl) 1 rfl ?_
          refine wr_callSi (pc := 88) (Mc := mX9_between) (rest := []) cf_X9_117 cs_X9_between ⟨Nat.le_of_ble_eq_true rfl, Nat.le_of_ble_eq_true rfl⟩ rfl rfl (Nat.le_of_ble_eq_true rfl) (dget kX9_duckOf 34 rfl) (tX9_between h) (fun r_15 σ_14 h => ?_)
          exact wr_iret (pc := 91) rfl (dget kX9_duckOf 35 rfl) ⟨_, rfl, h⟩
def vX9_isTaken_4 (post : Int32 → Hp → Prop) (ex : Int32 → Hp → Prop) (x1 : Int32) : Nat → Int32 → Int32 → Hp → Prop
  | 0 => fun _ _ _ => False
  | n + 1 => fun x2 x3 σ => ((x1 ≤ x3 → (ex x2 σ)) ∧ (¬ x1 ≤ x3 → ((x2 = 0 → (vp_in ((4 : Int32) * x3) 48 ∧ (vp_in ((4 : Int32) * x1) 48 ∧ (((σ.1 79 (((4 : Int32) * x3)).toNatClampNeg) = (σ.1 79 (((4 : Int32) * x1)).toNatClampNeg) → (vp_in (((4 : Int32) * x3) + (1 : Int32)) 48 ∧ (vp_in (((4 : Int32) * x1) + (1 : Int32)) 48 ∧ (((σ.1 79 ((((4 : Int32) * x3) + (1 : Int32))).toNatClampNeg) = (σ.1 79 ((((4 : Int32) * x1) + (1 : Int32))).toNatClampNeg) → (∀ x3_12 : Int32, x3_12 = x3 + (1 : Int32) → vX9_isTaken_4 post ex x1 n (1 : Int32) x3_12 σ)) ∧ (¬ (σ.1 79 ((((4 : Int32) * x3) + (1 : Int32))).toNatClampNeg) = (σ.1 79 ((((4 : Int32) * x1) + (1 : Int32))).toNatClampNeg) → (∀ x3_11 : Int32, x3_11 = x3 + (1 : Int32) → vX9_isTaken_4 post ex x1 n (0 : Int32) x3_11 σ)))))) ∧ (¬ (σ.1 79 (((4 : Int32) * x3)).toNatClampNeg) = (σ.1 79 (((4 : Int32) * x1)).toNatClampNeg) → (∀ x3_7 : Int32, x3_7 = x3 + (1 : Int32) → vX9_isTaken_4 post ex x1 n (0 : Int32) x3_7 σ)))))) ∧ (¬ x2 = 0 → (∀ x3_3 : Int32, x3_3 = x3 + (1 : Int32) → vX9_isTaken_4 post ex x1 n (1 : Int32) x3_3 σ)))))
set_option maxHeartbeats 4000000 in
set_option maxRecDepth 100000 in
theorem tX9_isTaken_4 {G : GT} {post : Int32 → Hp → Prop} {ex : Int32 → Hp → Prop} {x1 : Int32} (hex : ∀ (z2 : Int32) (τ : Hp), ex z2 τ → WP G mX9_isTaken 67 [(2, .int z2)] [] τ (LI post)) : ∀ (n : Nat) (x2 : Int32) (x3 : Int32) (σ : Hp), vX9_isTaken_4 post ex x1 n x2 x3 σ → WP G mX9_isTaken 4 [(0, .ref (G.1 71)), (1, .int x1), (2, .int x2), (3, .int x3)] [] σ (LI post) := by
  intro n
  induction n with
  | zero => intro x2 x3 σ h; exact False.elim h
  | succ n ih =>
    intro x2 x3 σ h
    simp only [vX9_isTaken_4] at h
    refine wr_iload_n (pc := 4) (dget kX9_isTaken 4 rfl) 3 rfl ?_
    refine wr_iload_n (pc := 5) (dget kX9_isTaken 5 rfl) 1 rfl ?_
    refine wr_icmp_ge (pc := 6) (tgt := 67) (dget kX9_isTaken 6 rfl) (by decide) (fun c_1 => ?_) (fun c_1 => ?_)
    · have h := h.1 c_1
      refine wr_sub [2] rfl ?_
      exact hex _ _ h
    · have h := h.2 c_1
      refine wr_iload_n (pc := 9) (dget kX9_isTaken 7 rfl) 2 rfl ?_
      refine wr_if_ne (pc := 10) (tgt := 55) (dget kX9_isTaken 8 rfl) (by decide) (fun c_2 => ?_) (fun c_2 => ?_)
      · have h := h.2 c_2
        refine wr_iconst (pc := 55) (dget kX9_isTaken 39 rfl) ic_1 ?_
        refine wr_goto (pc := 56) (tgt := 60) (dget kX9_isTaken 40 rfl) (by decide) ?_
        refine wr_istore_n (pc := 60) (lv' := [(2, .int (1 : Int32)), (0, .ref (G.1 71)), (1, .int x1), (3, .int x3)]) (dget kX9_isTaken 42 rfl) (by decide) rfl ?_
        obtain ⟨x3_3, e_x3_3⟩ : ∃ y : Int32, y = x3 + (1 : Int32) := ⟨_, rfl⟩
        have h := h x3_3 e_x3_3
        refine wr_iinc (pc := 61) (v := x3_3) (lv' := [(3, .int x3_3), (2, .int (1 : Int32)), (0, .ref (G.1 71)), (1, .int x1)]) (dget kX9_isTaken 43 rfl) 3 rfl (by rw [e_x3_3, ic_1]) (by decide) rfl ?_
        refine wr_goto (pc := 64) (tgt := 4) (dget kX9_isTaken 44 rfl) (by decide) ?_
        refine wr_sub [2, 3, 1, 0] rfl ?_
        exact ih _ _ _ h
      · have h := h.1 c_2
        refine wr_aload_n (pc := 13) (dget kX9_isTaken 9 rfl) 0 rfl ?_
        refine wr_getRl (pc := 14) fl_X9_31 kd_71 fk_9_9 rt_71_9 (dget kX9_isTaken 10 rfl) ?_
        refine wr_iconst (pc := 17) (dget kX9_isTaken 11 rfl) ic_4 ?_
        refine wr_iload_n (pc := 18) (dget kX9_isTaken 12 rfl) 3 rfl ?_
        refine wr_imul (pc := 19) (dget kX9_isTaken 13 rfl) ?_
        obtain ⟨q_4, h⟩ := h
        refine wr_ialdl (pc := 20) (σ := σ) il_79 q_4 (dget kX9_isTaken 14 rfl) ?_
        refine wr_aload_n (pc := 21) (dget kX9_isTaken 15 rfl) 0 rfl ?_
        refine wr_getRl (pc := 22) fl_X9_31 kd_71 fk_9_9 rt_71_9 (dget kX9_isTaken 16 rfl) ?_
        refine wr_iconst (pc := 25) (dget kX9_isTaken 17 rfl) ic_4 ?_
        refine wr_iload_n (pc := 26) (dget kX9_isTaken 18 rfl) 1 rfl ?_
        refine wr_imul (pc := 27) (dget kX9_isTaken 19 rfl) ?_
        obtain ⟨q_5, h⟩ := h
        refine wr_ialdl (pc := 28) (σ := σ) il_79 q_5 (dget kX9_isTaken 20 rfl) ?_
        refine wr_icmp_ne (pc := 29) (tgt := 59) (dget kX9_isTaken 21 rfl) (by decide) (fun c_6 => ?_) (fun c_6 => ?_)
        · have h := h.2 c_6
          refine wr_iconst (pc := 59) (dget kX9_isTaken 41 rfl) ic_0 ?_
          refine wr_istore_n (pc := 60) (lv' := [(2, .int (0 : Int32)), (0, .ref (G.1 71)), (1, .int x1), (3, .int x3)]) (dget kX9_isTaken 42 rfl) (by decide) rfl ?_
          obtain ⟨x3_7, e_x3_7⟩ : ∃ y : Int32, y = x3 + (1 : Int32) := ⟨_, rfl⟩
          have h := h x3_7 e_x3_7
          refine wr_iinc (pc := 61) (v := x3_7) (lv' := [(3, .int x3_7), (2, .int (0 : Int32)), (0, .ref (G.1 71)), (1, .int x1)]) (dget kX9_isTaken 43 rfl) 3 rfl (by rw [e_x3_7, ic_1]) (by decide) rfl ?_
          refine wr_goto (pc := 64) (tgt := 4) (dget kX9_isTaken 44 rfl) (by decide) ?_
          refine wr_sub [2, 3, 1, 0] rfl ?_
          exact ih _ _ _ h
        · have h := h.1 c_6
          refine wr_aload_n (pc := 32) (dget kX9_isTaken 22 rfl) 0 rfl ?_
          refine wr_getRl (pc := 33) fl_X9_31 kd_71 fk_9_9 rt_71_9 (dget kX9_isTaken 23 rfl) ?_
          refine wr_iconst (pc := 36) (dget kX9_isTaken 24 rfl) ic_4 ?_
          refine wr_iload_n (pc := 37) (dget kX9_isTaken 25 rfl) 3 rfl ?_
          refine wr_imul (pc := 38) (dget kX9_isTaken 26 rfl) ?_
          refine wr_iconst (pc := 39) (dget kX9_isTaken 27 rfl) ic_1 ?_
          refine wr_iadd (pc := 40) (dget kX9_isTaken 28 rfl) ?_
          obtain ⟨q_8, h⟩ := h
          refine wr_ialdl (pc := 41) (σ := σ) il_79 q_8 (dget kX9_isTaken 29 rfl) ?_
          refine wr_aload_n (pc := 42) (dget kX9_isTaken 30 rfl) 0 rfl ?_
          refine wr_getRl (pc := 43) fl_X9_31 kd_71 fk_9_9 rt_71_9 (dget kX9_isTaken 31 rfl) ?_
          refine wr_iconst (pc := 46) (dget kX9_isTaken 32 rfl) ic_4 ?_
          refine wr_iload_n (pc := 47) (dget kX9_isTaken 33 rfl) 1 rfl ?_
          refine wr_imul (pc := 48) (dget kX9_isTaken 34 rfl) ?_
          refine wr_iconst (pc := 49) (dget kX9_isTaken 35 rfl) ic_1 ?_
          refine wr_iadd (pc := 50) (dget kX9_isTaken 36 rfl) ?_
          obtain ⟨q_9, h⟩ := h
          refine wr_ialdl (pc := 51) (σ := σ) il_79 q_9 (dget kX9_isTaken 37 rfl) ?_
          refine wr_icmp_ne (pc := 52) (tgt := 59) (dget kX9_isTaken 38 rfl) (by decide) (fun c_10 => ?_) (fun c_10 => ?_)
          · have h := h.2 c_10
            refine wr_iconst (pc := 59) (dget kX9_isTaken 41 rfl) ic_0 ?_
            refine wr_istore_n (pc := 60) (lv' := [(2, .int (0 : Int32)), (0, .ref (G.1 71)), (1, .int x1), (3, .int x3)]) (dget kX9_isTaken 42 rfl) (by decide) rfl ?_
            obtain ⟨x3_11, e_x3_11⟩ : ∃ y : Int32, y = x3 + (1 : Int32) := ⟨_, rfl⟩
            have h := h x3_11 e_x3_11
            refine wr_iinc (pc := 61) (v := x3_11) (lv' := [(3, .int x3_11), (2, .int (0 : Int32)), (0, .ref (G.1 71)), (1, .int x1)]) (dget kX9_isTaken 43 rfl) 3 rfl (by rw [e_x3_11, ic_1]) (by decide) rfl ?_
            refine wr_goto (pc := 64) (tgt := 4) (dget kX9_isTaken 44 rfl) (by decide) ?_
            refine wr_sub [2, 3, 1, 0] rfl ?_
            exact ih _ _ _ h
          · have h := h.1 c_10
            refine wr_iconst (pc := 55) (dget kX9_isTaken 39 rfl) ic_1 ?_
            refine wr_goto (pc := 56) (tgt := 60) (dget kX9_isTaken 40 rfl) (by decide) ?_
            refine wr_istore_n (pc := 60) (lv' := [(2, .int (1 : Int32)), (0, .ref (G.1 71)), (1, .int x1), (3, .int x3)]) (dget kX9_isTaken 42 rfl) (by decide) rfl ?_
            obtain ⟨x3_12, e_x3_12⟩ : ∃ y : Int32, y = x3 + (1 : Int32) := ⟨_, rfl⟩
            have h := h x3_12 e_x3_12
            refine wr_iinc (pc := 61) (v := x3_12) (lv' := [(3, .int x3_12), (2, .int (1 : Int32)), (0, .ref (G.1 71)), (1, .int x1)]) (dget kX9_isTaken 43 rfl) 3 rfl (by rw [e_x3_12, ic_1]) (by decide) rfl ?_
            refine wr_goto (pc := 64) (tgt := 4) (dget kX9_isTaken 44 rfl) (by decide) ?_
            refine wr_sub [2, 3, 1, 0] rfl ?_
            exact ih _ _ _ h
def vX9_isTaken (p1 : Int32) (σ : Hp) (post : Int32 → Hp → Prop) : Prop := (∃ fu : Nat, vX9_isTaken_4 post (fun z2_1 σ_2 => ((z2_1 = 0 ∨ z2_1 = 1) ∧ post z2_1 σ_2)) p1 fu (0 : Int32) (0 : Int32) σ)
set_option maxHeartbeats 4000000 in
set_option maxRecDepth 100000 in
theorem tX9_isTaken {G : GT} {p1 : Int32} {σ : Hp} {post : Int32 → Hp → Prop} (h : vX9_isTaken p1 σ post) : CT G mX9_isTaken [.ref (G.1 71), .int p1] σ (LI post) := by
  refine CT.of (by decide +kernel) (Nat.le_of_ble_eq_true rfl) ?_
  show WP G mX9_isTaken 0 [(0, .ref (G.1 71)), (1, .int p1)] [] σ (LI post)
  unfold vX9_isTaken at h
  refine wr_iconst (pc := 0) (dget kX9_isTaken 0 rfl) ic_0 ?_
  refine wr_istore_n (pc := 1) (lv' := [(2, .int (0 : Int32)), (0, .ref (G.1 71)), (1, .int p1)]) (dget kX9_isTaken 1 rfl) (by decide) rfl ?_
  refine wr_iconst (pc := 2) (dget kX9_isTaken 2 rfl) ic_0 ?_
  refine wr_istore_n (pc := 3) (lv' := [(3, .int (0 : Int32)), (2, .int (0 : Int32)), (0, .ref (G.1 71)), (1, .int p1)]) (dget kX9_isTaken 3 rfl) (by decide) rfl ?_
  obtain ⟨fu, h⟩ := h
  refine wr_sub [2, 3, 1, 0] rfl ?_
  refine tX9_isTaken_4 (fun z2_1 σ_2 h => ?_) fu _ _ _ h
  refine wr_iload_n (pc := 67) (dget kX9_isTaken 45 rfl) 0 rfl ?_
  obtain ⟨q_3, h⟩ := h
  exact wr_zret (pc := 68) rfl (nar_z q_3) (dget kX9_isTaken 46 rfl) ⟨_, rfl, h⟩
def vX9_readsDucks_93 (post : Int32 → Hp → Prop) (ex : Hp → Prop) (rc : Int32 → Hp → Prop) (x1 : Int32) (x2 : Int32) (x3 : Int32) (σ : Hp) : Prop := ((x3 = (3 : Int32) → (∀ σ_4 : Hp, σ_4 = wI σ 71 8 ((σ.1 71 8) + (1 : Int32)) → (∀ x2_5 : Int32, x2_5 = x2 + (1 : Int32) → (rc x2_5 σ_4)))) ∧ (¬ x3 = (3 : Int32) → (∀ σ_2 : Hp, σ_2 = wI σ 71 8 ((σ.1 71 8) + (0 : Int32)) → (∀ x2_3 : Int32, x2_3 = x2 + (1 : Int32) → (rc x2_3 σ_2)))))
set_option maxHeartbeats 4000000 in
set_option maxRecDepth 100000 in
theorem tX9_readsDucks_93 {G : GT} {post : Int32 → Hp → Prop} {ex : Hp → Prop} {rc : Int32 → Hp → Prop} {x1 : Int32} {x2 : Int32} {x3 : Int32} {σ : Hp} (hex : ∀  (τ : Hp), ex  τ → WP G mX9_readsDucks 118 [(0, .ref (G.1 71)), (1, .int x1)] [] τ (LI post)) (hrc : ∀ (z2 : Int32) (τ : Hp), rc z2 τ → WP G mX9_readsDucks 14 [(0, .ref (G.1 71)), (1, .int x1), (2, .int z2)] [] τ (LI post)) (h : vX9_readsDucks_93 post ex rc x1 x2 x3 σ) : WP G mX9_readsDucks 93 [(0, .ref (G.1 71)), (1, .int x1), (2, .int x2), (3, .int x3)] [] σ (LI post) := by
  unfold vX9_readsDucks_93 at h
  refine wr_aload_n (pc := 93) (dget kX9_readsDucks 60 rfl) 0 rfl ?_
  refine wr_dup (pc := 94) (dget kX9_readsDucks 61 rfl) rfl ?_
  refine wr_getI (pc := 95) (σ := σ) fl_X9_123 kd_71 fk_9_8 (dget kX9_readsDucks 62 rfl) ?_
  refine wr_iload_n (pc := 98) (dget kX9_readsDucks 63 rfl) 3 rfl ?_
  refine wr_iconst (pc := 99) (dget kX9_readsDucks 64 rfl) ic_3 ?_
  refine wr_icmp_ne (pc := 100) (tgt := 107) (dget kX9_readsDucks 65 rfl) (by decide) (fun c_1 => ?_) (fun c_1 => ?_)
  · have h := h.2 c_1
    refine wr_iconst (pc := 107) (dget kX9_readsDucks 68 rfl) ic_0 ?_
    refine wr_iadd (pc := 108) (dget kX9_readsDucks 69 rfl) ?_
    refine wr_putI (pc := 109) fl_X9_123 kd_71 fk_9_8 (vp_nar_int _) rfl (dget kX9_readsDucks 70 rfl) ?_
    refine wr_tops (fun σ_2 e_σ_2 => ?_)
    have h := h σ_2 e_σ_2
    obtain ⟨x2_3, e_x2_3⟩ : ∃ y : Int32, y = x2 + (1 : Int32) := ⟨_, rfl⟩
    have h := h x2_3 e_x2_3
    refine wr_iinc (pc := 112) (v := x2_3) (lv' := [(2, .int x2_3), (0, .ref (G.1 71)), (1, .int x1), (3, .int x3)]) (dget kX9_readsDucks 71 rfl) 2 rfl (by rw [e_x2_3, ic_1]) (by decide) rfl ?_
    refine wr_goto (pc := 115) (tgt := 14) (dget kX9_readsDucks 72 rfl) (by decide) ?_
    refine wr_sub [1, 2, 0] rfl ?_
    exact hrc _ _ h
  · have h := h.1 c_1
    refine wr_iconst (pc := 103) (dget kX9_readsDucks 66 rfl) ic_1 ?_
    refine wr_goto (pc := 104) (tgt := 108) (dget kX9_readsDucks 67 rfl) (by decide) ?_
    refine wr_iadd (pc := 108) (dget kX9_readsDucks 69 rfl) ?_
    refine wr_putI (pc := 109) fl_X9_123 kd_71 fk_9_8 (vp_nar_int _) rfl (dget kX9_readsDucks 70 rfl) ?_
    refine wr_tops (fun σ_4 e_σ_4 => ?_)
    have h := h σ_4 e_σ_4
    obtain ⟨x2_5, e_x2_5⟩ : ∃ y : Int32, y = x2 + (1 : Int32) := ⟨_, rfl⟩
    have h := h x2_5 e_x2_5
    refine wr_iinc (pc := 112) (v := x2_5) (lv' := [(2, .int x2_5), (0, .ref (G.1 71)), (1, .int x1), (3, .int x3)]) (dget kX9_readsDucks 71 rfl) 2 rfl (by rw [e_x2_5, ic_1]) (by decide) rfl ?_
    refine wr_goto (pc := 115) (tgt := 14) (dget kX9_readsDucks 72 rfl) (by decide) ?_
    refine wr_sub [1, 2, 0] rfl ?_
    exact hrc _ _ h
def vX9_readsDucks_64 (post : Int32 → Hp → Prop) (ex : Hp → Prop) (rc : Int32 → Hp → Prop) (x1 : Int32) (x2 : Int32) (x3 : Int32) (x4 : Int32) (σ : Hp) : Prop := ((x4 = (-9 : Int32) → (∀ σ_2 : Hp, σ_2 = wI σ 71 8 (0 : Int32) → post x2 σ_2)) ∧ (¬ x4 = (-9 : Int32) → ((x3 = (1 : Int32) → (vX9_isTaken (x2 / (5 : Int32)) σ (fun r_5 σ_4 => ((r_5 = 0 → vX9_readsDucks_93 post ex rc x1 x2 x3 σ_4) ∧ (¬ r_5 = 0 → (∀ σ_7 : Hp, σ_7 = wI σ_4 71 8 (0 : Int32) → post x2 σ_7)))))) ∧ (¬ x3 = (1 : Int32) → vX9_readsDucks_93 post ex rc x1 x2 x3 σ))))
set_option maxHeartbeats 4000000 in
set_option maxRecDepth 100000 in
theorem tX9_readsDucks_64 {G : GT} {post : Int32 → Hp → Prop} {ex : Hp → Prop} {rc : Int32 → Hp → Prop} {x1 : Int32} {x2 : Int32} {x3 : Int32} {x4 : Int32} {σ : Hp} (hex : ∀  (τ : Hp), ex  τ → WP G mX9_readsDucks 118 [(0, .ref (G.1 71)), (1, .int x1)] [] τ (LI post)) (hrc : ∀ (z2 : Int32) (τ : Hp), rc z2 τ → WP G mX9_readsDucks 14 [(0, .ref (G.1 71)), (1, .int x1), (2, .int z2)] [] τ (LI post)) (h : vX9_readsDucks_64 post ex rc x1 x2 x3 x4 σ) : WP G mX9_readsDucks 64 [(0, .ref (G.1 71)), (1, .int x1), (2, .int x2), (3, .int x3), (4, .int x4)] [] σ (LI post) := by
  unfold vX9_readsDucks_64 at h
  refine wr_iload (pc := 64) (dget kX9_readsDucks 43 rfl) 4 rfl ?_
  refine wr_bipush (pc := 66) (dget kX9_readsDucks 44 rfl) bp_m9 ?_
  refine wr_icmp_eq (pc := 68) (tgt := 86) (dget kX9_readsDucks 45 rfl) (by decide) (fun c_1 => ?_) (fun c_1 => ?_)
  · have h := h.1 c_1
    refine wr_aload_n (pc := 86) (dget kX9_readsDucks 55 rfl) 0 rfl ?_
    refine wr_iconst (pc := 87) (dget kX9_readsDucks 56 rfl) ic_0 ?_
    refine wr_putI (pc := 88) fl_X9_123 kd_71 fk_9_8 (vp_nar_int _) rfl (dget kX9_readsDucks 57 rfl) ?_
    refine wr_tops (fun σ_2 e_σ_2 => ?_)
    have h := h σ_2 e_σ_2
    refine wr_iload_n (pc := 91) (dget kX9_readsDucks 58 rfl) 2 rfl ?_
    exact wr_iret (pc := 92) rfl (dget kX9_readsDucks 59 rfl) ⟨_, rfl, h⟩
  · have h := h.2 c_1
    refine wr_iload_n (pc := 71) (dget kX9_readsDucks 46 rfl) 3 rfl ?_
    refine wr_iconst (pc := 72) (dget kX9_readsDucks 47 rfl) ic_1 ?_
    refine wr_icmp_ne (pc := 73) (tgt := 93) (dget kX9_readsDucks 48 rfl) (by decide) (fun c_3 => ?_) (fun c_3 => ?_)
    · have h := h.2 c_3
      refine wr_sub [0, 1, 2, 3] rfl ?_
      exact tX9_readsDucks_93 hex hrc h
    · have h := h.1 c_3
      refine wr_aload_n (pc := 76) (dget kX9_readsDucks 49 rfl) 0 rfl ?_
      refine wr_iload_n (pc := 77) (dget kX9_readsDucks 50 rfl) 2 rfl ?_
      refine wr_iconst (pc := 78) (dget kX9_readsDucks 51 rfl) ic_5 ?_
      refine wr_idiv (pc := 79) (dget kX9_readsDucks 52 rfl) (by decide) ?_
      refine wr_callVi (pc := 80) (Mc := mX9_isTaken) (o := 71) (rest := []) cf_X9_129 cv_X9_isTaken kd_71 rfl ⟨Nat.le_of_ble_eq_true rfl, Nat.le_of_ble_eq_true rfl⟩ rfl rfl (Nat.le_of_ble_eq_true rfl) (dget kX9_readsDucks 53 rfl) (tX9_isTaken h) (fun r_5 σ_4 h => ?_)
      refine wr_if_eq (pc := 83) (tgt := 93) (dget kX9_readsDucks 54 rfl) (by decide) (fun c_6 => ?_) (fun c_6 => ?_)
      · have h := h.1 c_6
        refine wr_sub [0, 1, 2, 3] rfl ?_
        exact tX9_readsDucks_93 hex hrc h
      · have h := h.2 c_6
        refine wr_aload_n (pc := 86) (dget kX9_readsDucks 55 rfl) 0 rfl ?_
        refine wr_iconst (pc := 87) (dget kX9_readsDucks 56 rfl) ic_0 ?_
        refine wr_putI (pc := 88) fl_X9_123 kd_71 fk_9_8 (vp_nar_int _) rfl (dget kX9_readsDucks 57 rfl) ?_
        refine wr_tops (fun σ_7 e_σ_7 => ?_)
        have h := h σ_7 e_σ_7
        refine wr_iload_n (pc := 91) (dget kX9_readsDucks 58 rfl) 2 rfl ?_
        exact wr_iret (pc := 92) rfl (dget kX9_readsDucks 59 rfl) ⟨_, rfl, h⟩
def vX9_readsDucks_14 (post : Int32 → Hp → Prop) (ex : Hp → Prop) (x1 : Int32) : Nat → Int32 → Hp → Prop
  | 0 => fun _ _ => False
  | n + 1 => fun x2 σ => ((x1 ≤ x2 → (ex σ)) ∧ (¬ x1 ≤ x2 → (∀ x3_2 : Int32, x3_2 = (x2 - x2 / (5 : Int32) * (5 : Int32)) → (vp_in ((60 : Int32) + x2) 180 ∧ (vX9_duckOf x3_2 (σ.1 76 (((60 : Int32) + x2)).toNatClampNeg) σ (fun r_5 σ_4 => ((r_5 = (-9 : Int32) → vX9_readsDucks_64 post ex (vX9_readsDucks_14 post ex x1 n) x1 x2 x3_2 r_5 σ_4) ∧ (¬ r_5 = (-9 : Int32) → (((4 : Int32) ≤ x3_2 → vX9_readsDucks_64 post ex (vX9_readsDucks_14 post ex x1 n) x1 x2 x3_2 r_5 σ_4) ∧ (¬ (4 : Int32) ≤ x3_2 → (vp_in (((4 : Int32) * (x2 / (5 : Int32))) + x3_2) 48 ∧ ∀ σ_9 : Hp, σ_9 = wI σ_4 79 ((((4 : Int32) * (x2 / (5 : Int32))) + x3_2)).toNatClampNeg r_5 → vX9_readsDucks_64 post ex (vX9_readsDucks_14 post ex x1 n) x1 x2 x3_2 r_5 σ_9)))))))))))
set_option maxHeartbeats 4000000 in
set_option maxRecDepth 100000 in
theorem tX9_readsDucks_14 {G : GT} {post : Int32 → Hp → Prop} {ex : Hp → Prop} {x1 : Int32} (hex : ∀  (τ : Hp), ex  τ → WP G mX9_readsDucks 118 [(0, .ref (G.1 71)), (1, .int x1)] [] τ (LI post)) : ∀ (n : Nat) (x2 : Int32) (σ : Hp), vX9_readsDucks_14 post ex x1 n x2 σ → WP G mX9_readsDucks 14 [(0, .ref (G.1 71)), (1, .int x1), (2, .int x2)] [] σ (LI post) := by
  intro n
  induction n with
  | zero => intro x2 σ h; exact False.elim h
  | succ n ih =>
    intro x2 σ h
    simp only [vX9_readsDucks_14] at h
    refine wr_iload_n (pc := 14) (dget kX9_readsDucks 10 rfl) 2 rfl ?_
    refine wr_iload_n (pc := 15) (dget kX9_readsDucks 11 rfl) 1 rfl ?_
    refine wr_icmp_ge (pc := 16) (tgt := 118) (dget kX9_readsDucks 12 rfl) (by decide) (fun c_1 => ?_) (fun c_1 => ?_)
    · have h := h.1 c_1
      refine wr_sub [0, 1] rfl ?_
      exact hex  _ h
    · have h := h.2 c_1
      refine wr_iload_n (pc := 19) (dget kX9_readsDucks 13 rfl) 2 rfl ?_
      refine wr_iconst (pc := 20) (dget kX9_readsDucks 14 rfl) ic_5 ?_
      refine wr_irem (pc := 21) (dget kX9_readsDucks 15 rfl) (by decide) ?_
      refine wr_topi (fun x3_2 e_x3_2 => ?_)
      have h := h x3_2 e_x3_2
      refine wr_istore_n (pc := 22) (lv' := [(3, .int x3_2), (0, .ref (G.1 71)), (1, .int x1), (2, .int x2)]) (dget kX9_readsDucks 16 rfl) (by decide) rfl ?_
      refine wr_iload_n (pc := 23) (dget kX9_readsDucks 17 rfl) 0 rfl ?_
      refine wr_aload_n (pc := 24) (dget kX9_readsDucks 18 rfl) 1 rfl ?_
      refine wr_getRl (pc := 25) fl_X9_22 kd_71 fk_9_5 rt_71_5 (dget kX9_readsDucks 19 rfl) ?_
      refine wr_bipush (pc := 28) (dget kX9_readsDucks 20 rfl) bp_60 ?_
      refine wr_iload_n (pc := 30) (dget kX9_readsDucks 21 rfl) 3 rfl ?_
      refine wr_iadd (pc := 31) (dget kX9_readsDucks 22 rfl) ?_
      obtain ⟨q_3, h⟩ := h
      refine wr_ialdl (pc := 32) (σ := σ) il_76 q_3 (dget kX9_readsDucks 23 rfl) ?_
      refine wr_callSi (pc := 33) (Mc := mX9_duckOf) (rest := []) cf_X9_126 cs_X9_duckOf ⟨Nat.le_of_ble_eq_true rfl, Nat.le_of_ble_eq_true rfl⟩ rfl rfl (Nat.le_of_ble_eq_true rfl) (dget kX9_readsDucks 24 rfl) (tX9_duckOf h) (fun r_5 σ_4 h => ?_)
      refine wr_istore (pc := 36) (lv' := [(4, .int r_5), (3, .int x3_2), (0, .ref (G.1 71)), (1, .int x1), (2, .int x2)]) (dget kX9_readsDucks 25 rfl) (by decide) rfl ?_
      refine wr_iload (pc := 38) (dget kX9_readsDucks 26 rfl) 0 rfl ?_
      refine wr_bipush (pc := 40) (dget kX9_readsDucks 27 rfl) bp_m9 ?_
      refine wr_icmp_eq (pc := 42) (tgt := 64) (dget kX9_readsDucks 28 rfl) (by decide) (fun c_6 => ?_) (fun c_6 => ?_)
      · have h := h.1 c_6
        refine wr_sub [2, 3, 4, 1, 0] rfl ?_
        exact tX9_readsDucks_64 hex ih h
      · have h := h.2 c_6
        refine wr_iload_n (pc := 45) (dget kX9_readsDucks 29 rfl) 1 rfl ?_
        refine wr_iconst (pc := 46) (dget kX9_readsDucks 30 rfl) ic_4 ?_
        refine wr_icmp_ge (pc := 47) (tgt := 64) (dget kX9_readsDucks 31 rfl) (by decide) (fun c_7 => ?_) (fun c_7 => ?_)
        · have h := h.1 c_7
          refine wr_sub [2, 3, 4, 1, 0] rfl ?_
          exact tX9_readsDucks_64 hex ih h
        · have h := h.2 c_7
          refine wr_aload_n (pc := 50) (dget kX9_readsDucks 32 rfl) 2 rfl ?_
          refine wr_getRl (pc := 51) fl_X9_31 kd_71 fk_9_9 rt_71_9 (dget kX9_readsDucks 33 rfl) ?_
          refine wr_iconst (pc := 54) (dget kX9_readsDucks 34 rfl) ic_4 ?_
          refine wr_iload_n (pc := 55) (dget kX9_readsDucks 35 rfl) 4 rfl ?_
          refine wr_iconst (pc := 56) (dget kX9_readsDucks 36 rfl) ic_5 ?_
          refine wr_idiv (pc := 57) (dget kX9_readsDucks 37 rfl) (by decide) ?_
          refine wr_imul (pc := 58) (dget kX9_readsDucks 38 rfl) ?_
          refine wr_iload_n (pc := 59) (dget kX9_readsDucks 39 rfl) 1 rfl ?_
          refine wr_iadd (pc := 60) (dget kX9_readsDucks 40 rfl) ?_
          refine wr_iload (pc := 61) (dget kX9_readsDucks 41 rfl) 0 rfl ?_
          obtain ⟨q_8, h⟩ := h
          refine wr_iastl (pc := 63) il_79 q_8 (dget kX9_readsDucks 42 rfl) ?_
          refine wr_tops (fun σ_9 e_σ_9 => ?_)
          have h := h σ_9 e_σ_9
          refine wr_sub [2, 3, 4, 1, 0] rfl ?_
          exact tX9_readsDucks_64 hex ih h
def vX9_readsDucks (σ : Hp) (post : Int32 → Hp → Prop) : Prop := (∀ σ_1 : Hp, σ_1 = wI σ 71 8 (0 : Int32) → (vp_in (1 : Int32) 3 ∧ (∀ x1_3 : Int32, x1_3 = (σ_1.1 77 (1 : Int32).toNatClampNeg) → (∃ fu : Nat, vX9_readsDucks_14 post (fun σ_4 => ((x1_3 ≤ 0 → post (-1 : Int32) σ_4) ∧ (¬ x1_3 ≤ 0 → (((x1_3 - x1_3 / (5 : Int32) * (5 : Int32)) = (4 : Int32) → post (-1 : Int32) σ_4) ∧ (¬ (x1_3 - x1_3 / (5 : Int32) * (5 : Int32)) = (4 : Int32) → (∀ σ_7 : Hp, σ_7 = wI σ_4 71 8 (0 : Int32) → post x1_3 σ_7)))))) x1_3 fu (0 : Int32) σ_1))))
set_option maxHeartbeats 4000000 in
set_option maxRecDepth 100000 in
theorem tX9_readsDucks {G : GT} {σ : Hp} {post : Int32 → Hp → Prop} (h : vX9_readsDucks  σ post) : CT G mX9_readsDucks [.ref (G.1 71)] σ (LI post) := by
  refine CT.of (by decide +kernel) (Nat.le_of_ble_eq_true rfl) ?_
  show WP G mX9_readsDucks 0 [(0, .ref (G.1 71))] [] σ (LI post)
  unfold vX9_readsDucks at h
  refine wr_aload_n (pc := 0) (dget kX9_readsDucks 0 rfl) 0 rfl ?_
  refine wr_iconst (pc := 1) (dget kX9_readsDucks 1 rfl) ic_0 ?_
  refine wr_putI (pc := 2) fl_X9_123 kd_71 fk_9_8 (vp_nar_int _) rfl (dget kX9_readsDucks 2 rfl) ?_
  refine wr_tops (fun σ_1 e_σ_1 => ?_)
  have h := h σ_1 e_σ_1
  refine wr_aload_n (pc := 5) (dget kX9_readsDucks 3 rfl) 0 rfl ?_
  refine wr_getRl (pc := 6) fl_X9_25 kd_71 fk_9_6 rt_71_6 (dget kX9_readsDucks 4 rfl) ?_
  refine wr_iconst (pc := 9) (dget kX9_readsDucks 5 rfl) ic_1 ?_
  obtain ⟨q_2, h⟩ := h
  refine wr_ialdl (pc := 10) (σ := σ_1) il_77 q_2 (dget kX9_readsDucks 6 rfl) ?_
  refine wr_topi (fun x1_3 e_x1_3 => ?_)
  have h := h x1_3 e_x1_3
  refine wr_istore_n (pc := 11) (lv' := [(1, .int x1_3), (0, .ref (G.1 71))]) (dget kX9_readsDucks 7 rfl) (by decide) rfl ?_
  refine wr_iconst (pc := 12) (dget kX9_readsDucks 8 rfl) ic_0 ?_
  refine wr_istore_n (pc := 13) (lv' := [(2, .int (0 : Int32)), (1, .int x1_3), (0, .ref (G.1 71))]) (dget kX9_readsDucks 9 rfl) (by decide) rfl ?_
  obtain ⟨fu, h⟩ := h
  refine wr_sub [2, 1, 0] rfl ?_
  refine tX9_readsDucks_14 (fun σ_4 h => ?_) fu _ _ h
  refine wr_iload_n (pc := 118) (dget kX9_readsDucks 73 rfl) 1 rfl ?_
  refine wr_if_le (pc := 119) (tgt := 136) (dget kX9_readsDucks 74 rfl) (by decide) (fun c_5 => ?_) (fun c_5 => ?_)
  · have h := h.1 c_5
    refine wr_iconst (pc := 136) (dget kX9_readsDucks 85 rfl) ic_m1 ?_
    exact wr_iret (pc := 137) rfl (dget kX9_readsDucks 86 rfl) ⟨_, rfl, h⟩
  · have h := h.2 c_5
    refine wr_iload_n (pc := 122) (dget kX9_readsDucks 75 rfl) 1 rfl ?_
    refine wr_iconst (pc := 123) (dget kX9_readsDucks 76 rfl) ic_5 ?_
    refine wr_irem (pc := 124) (dget kX9_readsDucks 77 rfl) (by decide) ?_
    refine wr_iconst (pc := 125) (dget kX9_readsDucks 78 rfl) ic_4 ?_
    refine wr_icmp_eq (pc := 126) (tgt := 136) (dget kX9_readsDucks 79 rfl) (by decide) (fun c_6 => ?_) (fun c_6 => ?_)
    · have h := h.1 c_6
      refine wr_iconst (pc := 136) (dget kX9_readsDucks 85 rfl) ic_m1 ?_
      exact wr_iret (pc := 137) rfl (dget kX9_readsDucks 86 rfl) ⟨_, rfl, h⟩
    · have h := h.2 c_6
      refine wr_aload_n (pc := 129) (dget kX9_readsDucks 80 rfl) 0 rfl ?_
      refine wr_iconst (pc := 130) (dget kX9_readsDucks 81 rfl) ic_0 ?_
      refine wr_putI (pc := 131) fl_X9_123 kd_71 fk_9_8 (vp_nar_int _) rfl (dget kX9_readsDucks 82 rfl) ?_
      refine wr_tops (fun σ_7 e_σ_7 => ?_)
      have h := h σ_7 e_σ_7
      refine wr_iload_n (pc := 134) (dget kX9_readsDucks 83 rfl) 1 rfl ?_
      exact wr_iret (pc := 135) rfl (dget kX9_readsDucks 84 rfl) ⟨_, rfl, h⟩
def vX9_shotOf (p1 : Int32) (p2 : Int32) (σ : Hp) (post : Int32 → Hp → Prop) : Prop := ((p1 = (0 : Int32) → (vX9_letterOf p2 (120 : Int32) σ (fun r_3 σ_2 => post r_3 σ_2))) ∧ (¬ p1 = (0 : Int32) → ((p1 = (1 : Int32) → (vX9_figureOf p2 (0 : Int32) (2 : Int32) σ (fun r_6 σ_5 => post r_6 σ_5))) ∧ (¬ p1 = (1 : Int32) → ((p1 = (2 : Int32) → (vX9_figureOf p2 (0 : Int32) (5 : Int32) σ (fun r_9 σ_8 => post r_9 σ_8))) ∧ (¬ p1 = (2 : Int32) → (vX9_between p2 σ (fun r_11 σ_10 => post r_11 σ_10))))))))
set_option maxHeartbeats 4000000 in
set_option maxRecDepth 100000 in
theorem tX9_shotOf {G : GT} {p1 : Int32} {p2 : Int32} {σ : Hp} {post : Int32 → Hp → Prop} (h : vX9_shotOf p1 p2 σ post) : CT G mX9_shotOf [.int p1, .int p2] σ (LI post) := by
  refine CT.of (by decide +kernel) (Nat.le_of_ble_eq_true rfl) ?_
  show WP G mX9_shotOf 0 [(0, .int p1), (1, .int p2)] [] σ (LI post)
  unfold vX9_shotOf at h
  refine wr_iload_n (pc := 0) (dget kX9_shotOf 0 rfl) 0 rfl ?_
  rcases Decidable.em (p1 = (0 : Int32)) with c_1 | c_1
  · have h := h.1 c_1
    refine wr_tabIn (pc := 1) (tgt := 28) (off := 27) (dget kX9_shotOf 1 rfl) (by rw [c_1]; decide) (by rw [c_1]; decide) (by rw [c_1]; rfl) (by decide) ?_
    refine wr_iload_n (pc := 28) (dget kX9_shotOf 2 rfl) 1 rfl ?_
    refine wr_bipush (pc := 29) (dget kX9_shotOf 3 rfl) bp_120 ?_
    refine wr_callSi (pc := 31) (Mc := mX9_letterOf) (rest := []) cf_X9_120 cs_X9_letterOf ⟨Nat.le_of_ble_eq_true rfl, Nat.le_of_ble_eq_true rfl⟩ rfl rfl (Nat.le_of_ble_eq_true rfl) (dget kX9_shotOf 4 rfl) (tX9_letterOf h) (fun r_3 σ_2 h => ?_)
    exact wr_iret (pc := 34) rfl (dget kX9_shotOf 5 rfl) ⟨_, rfl, h⟩
  · have h := h.2 c_1
    rcases Decidable.em (p1 = (1 : Int32)) with c_4 | c_4
    · have h := h.1 c_4
      refine wr_tabIn (pc := 1) (tgt := 35) (off := 34) (dget kX9_shotOf 1 rfl) (by rw [c_4]; decide) (by rw [c_4]; decide) (by rw [c_4]; rfl) (by decide) ?_
      refine wr_iload_n (pc := 35) (dget kX9_shotOf 6 rfl) 1 rfl ?_
      refine wr_iconst (pc := 36) (dget kX9_shotOf 7 rfl) ic_0 ?_
      refine wr_iconst (pc := 37) (dget kX9_shotOf 8 rfl) ic_2 ?_
      refine wr_callSi (pc := 38) (Mc := mX9_figureOf) (rest := []) cf_X9_114 cs_X9_figureOf ⟨Nat.le_of_ble_eq_true rfl, Nat.le_of_ble_eq_true rfl⟩ rfl rfl (Nat.le_of_ble_eq_true rfl) (dget kX9_shotOf 9 rfl) (tX9_figureOf h) (fun r_6 σ_5 h => ?_)
      exact wr_iret (pc := 41) rfl (dget kX9_shotOf 10 rfl) ⟨_, rfl, h⟩
    · have h := h.2 c_4
      rcases Decidable.em (p1 = (2 : Int32)) with c_7 | c_7
      · have h := h.1 c_7
        refine wr_tabIn (pc := 1) (tgt := 42) (off := 41) (dget kX9_shotOf 1 rfl) (by rw [c_7]; decide) (by rw [c_7]; decide) (by rw [c_7]; rfl) (by decide) ?_
        refine wr_iload_n (pc := 42) (dget kX9_shotOf 11 rfl) 1 rfl ?_
        refine wr_iconst (pc := 43) (dget kX9_shotOf 12 rfl) ic_0 ?_
        refine wr_iconst (pc := 44) (dget kX9_shotOf 13 rfl) ic_5 ?_
        refine wr_callSi (pc := 45) (Mc := mX9_figureOf) (rest := []) cf_X9_114 cs_X9_figureOf ⟨Nat.le_of_ble_eq_true rfl, Nat.le_of_ble_eq_true rfl⟩ rfl rfl (Nat.le_of_ble_eq_true rfl) (dget kX9_shotOf 14 rfl) (tX9_figureOf h) (fun r_9 σ_8 h => ?_)
        exact wr_iret (pc := 48) rfl (dget kX9_shotOf 15 rfl) ⟨_, rfl, h⟩
      · have h := h.2 c_7
        refine wr_tabOut (pc := 1) (tgt := 49) (dget kX9_shotOf 1 rfl) (by have := sw_ne c_1 (by decide : ((0 : Int32)).toInt = 0); have := sw_ne c_4 (by decide : ((1 : Int32)).toInt = 1); have := sw_ne c_7 (by decide : ((2 : Int32)).toInt = 2); omega) (by decide) ?_
        refine wr_iload_n (pc := 49) (dget kX9_shotOf 16 rfl) 1 rfl ?_
        refine wr_callSi (pc := 50) (Mc := mX9_between) (rest := []) cf_X9_117 cs_X9_between ⟨Nat.le_of_ble_eq_true rfl, Nat.le_of_ble_eq_true rfl⟩ rfl rfl (Nat.le_of_ble_eq_true rfl) (dget kX9_shotOf 17 rfl) (tX9_between h) (fun r_11 σ_10 h => ?_)
        exact wr_iret (pc := 53) rfl (dget kX9_shotOf 18 rfl) ⟨_, rfl, h⟩
def vX9_readsShots_71 (post : Int32 → Hp → Prop) (ex : Hp → Prop) (rc : Int32 → Hp → Prop) (x1 : Int32) (x2 : Int32) (x3 : Int32) (σ : Hp) : Prop := ((x3 = (2 : Int32) → (∀ σ_4 : Hp, σ_4 = wI σ 71 10 ((σ.1 71 10) + (1 : Int32)) → (∀ x2_5 : Int32, x2_5 = x2 + (1 : Int32) → (rc x2_5 σ_4)))) ∧ (¬ x3 = (2 : Int32) → (∀ σ_2 : Hp, σ_2 = wI σ 71 10 ((σ.1 71 10) + (0 : Int32)) → (∀ x2_3 : Int32, x2_3 = x2 + (1 : Int32) → (rc x2_3 σ_2)))))
set_option maxHeartbeats 4000000 in
set_option maxRecDepth 100000 in
theorem tX9_readsShots_71 {G : GT} {post : Int32 → Hp → Prop} {ex : Hp → Prop} {rc : Int32 → Hp → Prop} {x1 : Int32} {x2 : Int32} {x3 : Int32} {σ : Hp} (hex : ∀  (τ : Hp), ex  τ → WP G mX9_readsShots 96 [(0, .ref (G.1 71)), (1, .int x1)] [] τ (LI post)) (hrc : ∀ (z2 : Int32) (τ : Hp), rc z2 τ → WP G mX9_readsShots 14 [(0, .ref (G.1 71)), (1, .int x1), (2, .int z2)] [] τ (LI post)) (h : vX9_readsShots_71 post ex rc x1 x2 x3 σ) : WP G mX9_readsShots 71 [(0, .ref (G.1 71)), (1, .int x1), (2, .int x2), (3, .int x3)] [] σ (LI post) := by
  unfold vX9_readsShots_71 at h
  refine wr_aload_n (pc := 71) (dget kX9_readsShots 48 rfl) 0 rfl ?_
  refine wr_dup (pc := 72) (dget kX9_readsShots 49 rfl) rfl ?_
  refine wr_getI (pc := 73) (σ := σ) fl_X9_132 kd_71 fk_9_10 (dget kX9_readsShots 50 rfl) ?_
  refine wr_iload_n (pc := 76) (dget kX9_readsShots 51 rfl) 3 rfl ?_
  refine wr_iconst (pc := 77) (dget kX9_readsShots 52 rfl) ic_2 ?_
  refine wr_icmp_ne (pc := 78) (tgt := 85) (dget kX9_readsShots 53 rfl) (by decide) (fun c_1 => ?_) (fun c_1 => ?_)
  · have h := h.2 c_1
    refine wr_iconst (pc := 85) (dget kX9_readsShots 56 rfl) ic_0 ?_
    refine wr_iadd (pc := 86) (dget kX9_readsShots 57 rfl) ?_
    refine wr_putI (pc := 87) fl_X9_132 kd_71 fk_9_10 (vp_nar_int _) rfl (dget kX9_readsShots 58 rfl) ?_
    refine wr_tops (fun σ_2 e_σ_2 => ?_)
    have h := h σ_2 e_σ_2
    obtain ⟨x2_3, e_x2_3⟩ : ∃ y : Int32, y = x2 + (1 : Int32) := ⟨_, rfl⟩
    have h := h x2_3 e_x2_3
    refine wr_iinc (pc := 90) (v := x2_3) (lv' := [(2, .int x2_3), (0, .ref (G.1 71)), (1, .int x1), (3, .int x3)]) (dget kX9_readsShots 59 rfl) 2 rfl (by rw [e_x2_3, ic_1]) (by decide) rfl ?_
    refine wr_goto (pc := 93) (tgt := 14) (dget kX9_readsShots 60 rfl) (by decide) ?_
    refine wr_sub [1, 2, 0] rfl ?_
    exact hrc _ _ h
  · have h := h.1 c_1
    refine wr_iconst (pc := 81) (dget kX9_readsShots 54 rfl) ic_1 ?_
    refine wr_goto (pc := 82) (tgt := 86) (dget kX9_readsShots 55 rfl) (by decide) ?_
    refine wr_iadd (pc := 86) (dget kX9_readsShots 57 rfl) ?_
    refine wr_putI (pc := 87) fl_X9_132 kd_71 fk_9_10 (vp_nar_int _) rfl (dget kX9_readsShots 58 rfl) ?_
    refine wr_tops (fun σ_4 e_σ_4 => ?_)
    have h := h σ_4 e_σ_4
    obtain ⟨x2_5, e_x2_5⟩ : ∃ y : Int32, y = x2 + (1 : Int32) := ⟨_, rfl⟩
    have h := h x2_5 e_x2_5
    refine wr_iinc (pc := 90) (v := x2_5) (lv' := [(2, .int x2_5), (0, .ref (G.1 71)), (1, .int x1), (3, .int x3)]) (dget kX9_readsShots 59 rfl) 2 rfl (by rw [e_x2_5, ic_1]) (by decide) rfl ?_
    refine wr_goto (pc := 93) (tgt := 14) (dget kX9_readsShots 60 rfl) (by decide) ?_
    refine wr_sub [1, 2, 0] rfl ?_
    exact hrc _ _ h
def vX9_readsShots_14 (post : Int32 → Hp → Prop) (ex : Hp → Prop) (x1 : Int32) : Nat → Int32 → Hp → Prop
  | 0 => fun _ _ => False
  | n + 1 => fun x2 σ => ((x1 ≤ x2 → (ex σ)) ∧ (¬ x1 ≤ x2 → (∀ x3_2 : Int32, x3_2 = (x2 - x2 / (4 : Int32) * (4 : Int32)) → (vp_in ((120 : Int32) + x2) 180 ∧ (vX9_shotOf x3_2 (σ.1 76 (((120 : Int32) + x2)).toNatClampNeg) σ (fun r_5 σ_4 => ((r_5 = (-9 : Int32) → (∀ σ_10 : Hp, σ_10 = wI σ_4 71 10 (0 : Int32) → post x2 σ_10)) ∧ (¬ r_5 = (-9 : Int32) → (((3 : Int32) ≤ x3_2 → vX9_readsShots_71 post ex (vX9_readsShots_14 post ex x1 n) x1 x2 x3_2 σ_4) ∧ (¬ (3 : Int32) ≤ x3_2 → (vp_in (((3 : Int32) * (x2 / (4 : Int32))) + x3_2) 36 ∧ ∀ σ_9 : Hp, σ_9 = wI σ_4 80 ((((3 : Int32) * (x2 / (4 : Int32))) + x3_2)).toNatClampNeg r_5 → vX9_readsShots_71 post ex (vX9_readsShots_14 post ex x1 n) x1 x2 x3_2 σ_9)))))))))))
set_option maxHeartbeats 4000000 in
set_option maxRecDepth 100000 in
theorem tX9_readsShots_14 {G : GT} {post : Int32 → Hp → Prop} {ex : Hp → Prop} {x1 : Int32} (hex : ∀  (τ : Hp), ex  τ → WP G mX9_readsShots 96 [(0, .ref (G.1 71)), (1, .int x1)] [] τ (LI post)) : ∀ (n : Nat) (x2 : Int32) (σ : Hp), vX9_readsShots_14 post ex x1 n x2 σ → WP G mX9_readsShots 14 [(0, .ref (G.1 71)), (1, .int x1), (2, .int x2)] [] σ (LI post) := by
  intro n
  induction n with
  | zero => intro x2 σ h; exact False.elim h
  | succ n ih =>
    intro x2 σ h
    simp only [vX9_readsShots_14] at h
    refine wr_iload_n (pc := 14) (dget kX9_readsShots 10 rfl) 2 rfl ?_
    refine wr_iload_n (pc := 15) (dget kX9_readsShots 11 rfl) 1 rfl ?_
    refine wr_icmp_ge (pc := 16) (tgt := 96) (dget kX9_readsShots 12 rfl) (by decide) (fun c_1 => ?_) (fun c_1 => ?_)
    · have h := h.1 c_1
      refine wr_sub [0, 1] rfl ?_
      exact hex  _ h
    · have h := h.2 c_1
      refine wr_iload_n (pc := 19) (dget kX9_readsShots 13 rfl) 2 rfl ?_
      refine wr_iconst (pc := 20) (dget kX9_readsShots 14 rfl) ic_4 ?_
      refine wr_irem (pc := 21) (dget kX9_readsShots 15 rfl) (by decide) ?_
      refine wr_topi (fun x3_2 e_x3_2 => ?_)
      have h := h x3_2 e_x3_2
      refine wr_istore_n (pc := 22) (lv' := [(3, .int x3_2), (0, .ref (G.1 71)), (1, .int x1), (2, .int x2)]) (dget kX9_readsShots 16 rfl) (by decide) rfl ?_
      refine wr_iload_n (pc := 23) (dget kX9_readsShots 17 rfl) 0 rfl ?_
      refine wr_aload_n (pc := 24) (dget kX9_readsShots 18 rfl) 1 rfl ?_
      refine wr_getRl (pc := 25) fl_X9_22 kd_71 fk_9_5 rt_71_5 (dget kX9_readsShots 19 rfl) ?_
      refine wr_bipush (pc := 28) (dget kX9_readsShots 20 rfl) bp_120 ?_
      refine wr_iload_n (pc := 30) (dget kX9_readsShots 21 rfl) 3 rfl ?_
      refine wr_iadd (pc := 31) (dget kX9_readsShots 22 rfl) ?_
      obtain ⟨q_3, h⟩ := h
      refine wr_ialdl (pc := 32) (σ := σ) il_76 q_3 (dget kX9_readsShots 23 rfl) ?_
      refine wr_callSi (pc := 33) (Mc := mX9_shotOf) (rest := []) cf_X9_135 cs_X9_shotOf ⟨Nat.le_of_ble_eq_true rfl, Nat.le_of_ble_eq_true rfl⟩ rfl rfl (Nat.le_of_ble_eq_true rfl) (dget kX9_readsShots 24 rfl) (tX9_shotOf h) (fun r_5 σ_4 h => ?_)
      refine wr_istore (pc := 36) (lv' := [(4, .int r_5), (3, .int x3_2), (0, .ref (G.1 71)), (1, .int x1), (2, .int x2)]) (dget kX9_readsShots 25 rfl) (by decide) rfl ?_
      refine wr_iload (pc := 38) (dget kX9_readsShots 26 rfl) 0 rfl ?_
      refine wr_bipush (pc := 40) (dget kX9_readsShots 27 rfl) bp_m9 ?_
      refine wr_icmp_ne (pc := 42) (tgt := 52) (dget kX9_readsShots 28 rfl) (by decide) (fun c_6 => ?_) (fun c_6 => ?_)
      · have h := h.2 c_6
        refine wr_iload_n (pc := 52) (dget kX9_readsShots 34 rfl) 1 rfl ?_
        refine wr_iconst (pc := 53) (dget kX9_readsShots 35 rfl) ic_3 ?_
        refine wr_icmp_ge (pc := 54) (tgt := 71) (dget kX9_readsShots 36 rfl) (by decide) (fun c_7 => ?_) (fun c_7 => ?_)
        · have h := h.1 c_7
          refine wr_sub [2, 3, 4, 1] rfl ?_
          exact tX9_readsShots_71 hex ih h
        · have h := h.2 c_7
          refine wr_aload_n (pc := 57) (dget kX9_readsShots 37 rfl) 2 rfl ?_
          refine wr_getRl (pc := 58) fl_X9_34 kd_71 fk_9_11 rt_71_11 (dget kX9_readsShots 38 rfl) ?_
          refine wr_iconst (pc := 61) (dget kX9_readsShots 39 rfl) ic_3 ?_
          refine wr_iload_n (pc := 62) (dget kX9_readsShots 40 rfl) 4 rfl ?_
          refine wr_iconst (pc := 63) (dget kX9_readsShots 41 rfl) ic_4 ?_
          refine wr_idiv (pc := 64) (dget kX9_readsShots 42 rfl) (by decide) ?_
          refine wr_imul (pc := 65) (dget kX9_readsShots 43 rfl) ?_
          refine wr_iload_n (pc := 66) (dget kX9_readsShots 44 rfl) 1 rfl ?_
          refine wr_iadd (pc := 67) (dget kX9_readsShots 45 rfl) ?_
          refine wr_iload (pc := 68) (dget kX9_readsShots 46 rfl) 0 rfl ?_
          obtain ⟨q_8, h⟩ := h
          refine wr_iastl (pc := 70) il_80 q_8 (dget kX9_readsShots 47 rfl) ?_
          refine wr_tops (fun σ_9 e_σ_9 => ?_)
          have h := h σ_9 e_σ_9
          refine wr_sub [2, 3, 4, 1] rfl ?_
          exact tX9_readsShots_71 hex ih h
      · have h := h.1 c_6
        refine wr_aload_n (pc := 45) (dget kX9_readsShots 29 rfl) 2 rfl ?_
        refine wr_iconst (pc := 46) (dget kX9_readsShots 30 rfl) ic_0 ?_
        refine wr_putI (pc := 47) fl_X9_132 kd_71 fk_9_10 (vp_nar_int _) rfl (dget kX9_readsShots 31 rfl) ?_
        refine wr_tops (fun σ_10 e_σ_10 => ?_)
        have h := h σ_10 e_σ_10
        refine wr_iload_n (pc := 50) (dget kX9_readsShots 32 rfl) 4 rfl ?_
        exact wr_iret (pc := 51) rfl (dget kX9_readsShots 33 rfl) ⟨_, rfl, h⟩
def vX9_readsShots (σ : Hp) (post : Int32 → Hp → Prop) : Prop := (∀ σ_1 : Hp, σ_1 = wI σ 71 10 (0 : Int32) → (vp_in (2 : Int32) 3 ∧ (∀ x1_3 : Int32, x1_3 = (σ_1.1 77 (2 : Int32).toNatClampNeg) → (∃ fu : Nat, vX9_readsShots_14 post (fun σ_4 => ((x1_3 ≤ 0 → post (-1 : Int32) σ_4) ∧ (¬ x1_3 ≤ 0 → (((x1_3 - x1_3 / (4 : Int32) * (4 : Int32)) = (3 : Int32) → post (-1 : Int32) σ_4) ∧ (¬ (x1_3 - x1_3 / (4 : Int32) * (4 : Int32)) = (3 : Int32) → (∀ σ_7 : Hp, σ_7 = wI σ_4 71 10 (0 : Int32) → post x1_3 σ_7)))))) x1_3 fu (0 : Int32) σ_1))))
set_option maxHeartbeats 4000000 in
set_option maxRecDepth 100000 in
theorem tX9_readsShots {G : GT} {σ : Hp} {post : Int32 → Hp → Prop} (h : vX9_readsShots  σ post) : CT G mX9_readsShots [.ref (G.1 71)] σ (LI post) := by
  refine CT.of (by decide +kernel) (Nat.le_of_ble_eq_true rfl) ?_
  show WP G mX9_readsShots 0 [(0, .ref (G.1 71))] [] σ (LI post)
  unfold vX9_readsShots at h
  refine wr_aload_n (pc := 0) (dget kX9_readsShots 0 rfl) 0 rfl ?_
  refine wr_iconst (pc := 1) (dget kX9_readsShots 1 rfl) ic_0 ?_
  refine wr_putI (pc := 2) fl_X9_132 kd_71 fk_9_10 (vp_nar_int _) rfl (dget kX9_readsShots 2 rfl) ?_
  refine wr_tops (fun σ_1 e_σ_1 => ?_)
  have h := h σ_1 e_σ_1
  refine wr_aload_n (pc := 5) (dget kX9_readsShots 3 rfl) 0 rfl ?_
  refine wr_getRl (pc := 6) fl_X9_25 kd_71 fk_9_6 rt_71_6 (dget kX9_readsShots 4 rfl) ?_
  refine wr_iconst (pc := 9) (dget kX9_readsShots 5 rfl) ic_2 ?_
  obtain ⟨q_2, h⟩ := h
  refine wr_ialdl (pc := 10) (σ := σ_1) il_77 q_2 (dget kX9_readsShots 6 rfl) ?_
  refine wr_topi (fun x1_3 e_x1_3 => ?_)
  have h := h x1_3 e_x1_3
  refine wr_istore_n (pc := 11) (lv' := [(1, .int x1_3), (0, .ref (G.1 71))]) (dget kX9_readsShots 7 rfl) (by decide) rfl ?_
  refine wr_iconst (pc := 12) (dget kX9_readsShots 8 rfl) ic_0 ?_
  refine wr_istore_n (pc := 13) (lv' := [(2, .int (0 : Int32)), (1, .int x1_3), (0, .ref (G.1 71))]) (dget kX9_readsShots 9 rfl) (by decide) rfl ?_
  obtain ⟨fu, h⟩ := h
  refine wr_sub [2, 1, 0] rfl ?_
  refine tX9_readsShots_14 (fun σ_4 h => ?_) fu _ _ h
  refine wr_iload_n (pc := 96) (dget kX9_readsShots 61 rfl) 1 rfl ?_
  refine wr_if_le (pc := 97) (tgt := 114) (dget kX9_readsShots 62 rfl) (by decide) (fun c_5 => ?_) (fun c_5 => ?_)
  · have h := h.1 c_5
    refine wr_iconst (pc := 114) (dget kX9_readsShots 73 rfl) ic_m1 ?_
    exact wr_iret (pc := 115) rfl (dget kX9_readsShots 74 rfl) ⟨_, rfl, h⟩
  · have h := h.2 c_5
    refine wr_iload_n (pc := 100) (dget kX9_readsShots 63 rfl) 1 rfl ?_
    refine wr_iconst (pc := 101) (dget kX9_readsShots 64 rfl) ic_4 ?_
    refine wr_irem (pc := 102) (dget kX9_readsShots 65 rfl) (by decide) ?_
    refine wr_iconst (pc := 103) (dget kX9_readsShots 66 rfl) ic_3 ?_
    refine wr_icmp_eq (pc := 104) (tgt := 114) (dget kX9_readsShots 67 rfl) (by decide) (fun c_6 => ?_) (fun c_6 => ?_)
    · have h := h.1 c_6
      refine wr_iconst (pc := 114) (dget kX9_readsShots 73 rfl) ic_m1 ?_
      exact wr_iret (pc := 115) rfl (dget kX9_readsShots 74 rfl) ⟨_, rfl, h⟩
    · have h := h.2 c_6
      refine wr_aload_n (pc := 107) (dget kX9_readsShots 68 rfl) 0 rfl ?_
      refine wr_iconst (pc := 108) (dget kX9_readsShots 69 rfl) ic_0 ?_
      refine wr_putI (pc := 109) fl_X9_132 kd_71 fk_9_10 (vp_nar_int _) rfl (dget kX9_readsShots 70 rfl) ?_
      refine wr_tops (fun σ_7 e_σ_7 => ?_)
      have h := h σ_7 e_σ_7
      refine wr_iload_n (pc := 112) (dget kX9_readsShots 71 rfl) 1 rfl ?_
      exact wr_iret (pc := 113) rfl (dget kX9_readsShots 72 rfl) ⟨_, rfl, h⟩
def vX9_readsText (p1 : Int32) (σ : Hp) (post : Int32 → Hp → Prop) : Prop := ((p1 = 0 → (vX9_readsChains  σ (fun r_8 σ_7 => post r_8 σ_7))) ∧ (¬ p1 = 0 → ((p1 = (1 : Int32) → (vX9_readsDucks  σ (fun r_6 σ_5 => post r_6 σ_5))) ∧ (¬ p1 = (1 : Int32) → (vX9_readsShots  σ (fun r_4 σ_3 => post r_4 σ_3))))))
set_option maxHeartbeats 4000000 in
set_option maxRecDepth 100000 in
theorem tX9_readsText {G : GT} {p1 : Int32} {σ : Hp} {post : Int32 → Hp → Prop} (h : vX9_readsText p1 σ post) : CT G mX9_readsText [.ref (G.1 71), .int p1] σ (LI post) := by
  refine CT.of (by decide +kernel) (Nat.le_of_ble_eq_true rfl) ?_
  show WP G mX9_readsText 0 [(0, .ref (G.1 71)), (1, .int p1)] [] σ (LI post)
  unfold vX9_readsText at h
  refine wr_iload_n (pc := 0) (dget kX9_readsText 0 rfl) 1 rfl ?_
  refine wr_if_ne (pc := 1) (tgt := 11) (dget kX9_readsText 1 rfl) (by decide) (fun c_1 => ?_) (fun c_1 => ?_)
  · have h := h.2 c_1
    refine wr_iload_n (pc := 11) (dget kX9_readsText 5 rfl) 1 rfl ?_
    refine wr_iconst (pc := 12) (dget kX9_readsText 6 rfl) ic_1 ?_
    refine wr_icmp_ne (pc := 13) (tgt := 23) (dget kX9_readsText 7 rfl) (by decide) (fun c_2 => ?_) (fun c_2 => ?_)
    · have h := h.2 c_2
      refine wr_aload_n (pc := 23) (dget kX9_readsText 11 rfl) 0 rfl ?_
      refine wr_callVi (pc := 24) (Mc := mX9_readsShots) (o := 71) (rest := []) cf_X9_145 cv_X9_readsShots kd_71 rfl ⟨Nat.le_of_ble_eq_true rfl, Nat.le_of_ble_eq_true rfl⟩ rfl rfl (Nat.le_of_ble_eq_true rfl) (dget kX9_readsText 12 rfl) (tX9_readsShots h) (fun r_4 σ_3 h => ?_)
      exact wr_iret (pc := 27) rfl (dget kX9_readsText 13 rfl) ⟨_, rfl, h⟩
    · have h := h.1 c_2
      refine wr_aload_n (pc := 16) (dget kX9_readsText 8 rfl) 0 rfl ?_
      refine wr_callVi (pc := 17) (Mc := mX9_readsDucks) (o := 71) (rest := []) cf_X9_142 cv_X9_readsDucks kd_71 rfl ⟨Nat.le_of_ble_eq_true rfl, Nat.le_of_ble_eq_true rfl⟩ rfl rfl (Nat.le_of_ble_eq_true rfl) (dget kX9_readsText 9 rfl) (tX9_readsDucks h) (fun r_6 σ_5 h => ?_)
      refine wr_goto (pc := 20) (tgt := 27) (dget kX9_readsText 10 rfl) (by decide) ?_
      exact wr_iret (pc := 27) rfl (dget kX9_readsText 13 rfl) ⟨_, rfl, h⟩
  · have h := h.1 c_1
    refine wr_aload_n (pc := 4) (dget kX9_readsText 2 rfl) 0 rfl ?_
    refine wr_callVi (pc := 5) (Mc := mX9_readsChains) (o := 71) (rest := []) cf_X9_138 cv_X9_readsChains kd_71 rfl ⟨Nat.le_of_ble_eq_true rfl, Nat.le_of_ble_eq_true rfl⟩ rfl rfl (Nat.le_of_ble_eq_true rfl) (dget kX9_readsText 3 rfl) (tX9_readsChains h) (fun r_8 σ_7 h => ?_)
    refine wr_goto (pc := 8) (tgt := 27) (dget kX9_readsText 4 rfl) (by decide) ?_
    exact wr_iret (pc := 27) rfl (dget kX9_readsText 13 rfl) ⟨_, rfl, h⟩
def vX9_fault (p1 : Int32) (σ : Hp) (post : Int32 → Hp → Prop) : Prop := (vX9_isText p1 σ (fun r_2 σ_1 => ((r_2 = 0 → post (-2 : Int32) σ_1) ∧ (¬ r_2 = 0 → (vX9_readsText p1 σ_1 (fun r_5 σ_4 => post r_5 σ_4))))))
set_option maxHeartbeats 4000000 in
set_option maxRecDepth 100000 in
theorem tX9_fault {G : GT} {p1 : Int32} {σ : Hp} {post : Int32 → Hp → Prop} (h : vX9_fault p1 σ post) : CT G mX9_fault [.ref (G.1 71), .int p1] σ (LI post) := by
  refine CT.of (by decide +kernel) (Nat.le_of_ble_eq_true rfl) ?_
  show WP G mX9_fault 0 [(0, .ref (G.1 71)), (1, .int p1)] [] σ (LI post)
  unfold vX9_fault at h
  refine wr_iload_n (pc := 0) (dget kX9_fault 0 rfl) 1 rfl ?_
  refine wr_callSi (pc := 1) (Mc := mX9_isText) (rest := []) cf_X9_104 cs_X9_isText ⟨Nat.le_of_ble_eq_true rfl, Nat.le_of_ble_eq_true rfl⟩ rfl rfl (Nat.le_of_ble_eq_true rfl) (dget kX9_fault 1 rfl) (tX9_isText h) (fun r_2 σ_1 h => ?_)
  refine wr_if_eq (pc := 4) (tgt := 15) (dget kX9_fault 2 rfl) (by decide) (fun c_3 => ?_) (fun c_3 => ?_)
  · have h := h.1 c_3
    refine wr_bipush (pc := 15) (dget kX9_fault 7 rfl) bp_m2 ?_
    exact wr_iret (pc := 17) rfl (dget kX9_fault 8 rfl) ⟨_, rfl, h⟩
  · have h := h.2 c_3
    refine wr_aload_n (pc := 7) (dget kX9_fault 3 rfl) 0 rfl ?_
    refine wr_iload_n (pc := 8) (dget kX9_fault 4 rfl) 1 rfl ?_
    refine wr_callVi (pc := 9) (Mc := mX9_readsText) (o := 71) (rest := []) cf_X9_148 cv_X9_readsText kd_71 rfl ⟨Nat.le_of_ble_eq_true rfl, Nat.le_of_ble_eq_true rfl⟩ rfl rfl (Nat.le_of_ble_eq_true rfl) (dget kX9_fault 5 rfl) (tX9_readsText h) (fun r_5 σ_4 h => ?_)
    refine wr_goto (pc := 12) (tgt := 17) (dget kX9_fault 6 rfl) (by decide) ?_
    exact wr_iret (pc := 17) rfl (dget kX9_fault 8 rfl) ⟨_, rfl, h⟩
def vX9_isChain (p1 : Int32) (σ : Hp) (post : Int32 → Hp → Prop) : Prop := (vX9_in p1.toInt64 (0 : Int64) (2 : Int64) σ (fun r_2 σ_1 => ((r_2 = 0 ∨ r_2 = 1) ∧ post r_2 σ_1)))
set_option maxHeartbeats 4000000 in
set_option maxRecDepth 100000 in
theorem tX9_isChain {G : GT} {p1 : Int32} {σ : Hp} {post : Int32 → Hp → Prop} (h : vX9_isChain p1 σ post) : CT G mX9_isChain [.int p1] σ (LI post) := by
  refine CT.of (by decide +kernel) (Nat.le_of_ble_eq_true rfl) ?_
  show WP G mX9_isChain 0 [(0, .int p1)] [] σ (LI post)
  unfold vX9_isChain at h
  refine wr_iload_n (pc := 0) (dget kX9_isChain 0 rfl) 0 rfl ?_
  refine wr_i2l (pc := 1) (dget kX9_isChain 1 rfl) rfl ?_
  refine wr_lconst (pc := 2) (dget kX9_isChain 2 rfl) lc_0 ?_
  refine wr_ldc2 (pc := 3) kl_X9_89 (dget kX9_isChain 3 rfl) ?_
  refine wr_callSi (pc := 6) (Mc := mX9_in) (rest := []) cf_X9_75 cs_X9_in ⟨Nat.le_of_ble_eq_true rfl, Nat.le_of_ble_eq_true rfl⟩ rfl rfl (Nat.le_of_ble_eq_true rfl) (dget kX9_isChain 4 rfl) (tX9_in h) (fun r_2 σ_1 h => ?_)
  obtain ⟨q_3, h⟩ := h
  exact wr_zret (pc := 9) rfl (nar_z q_3) (dget kX9_isChain 5 rfl) ⟨_, rfl, h⟩
def vX9_isTick (p1 : Int32) (σ : Hp) (post : Int32 → Hp → Prop) : Prop := (vX9_in p1.toInt64 (0 : Int64) (23 : Int64) σ (fun r_2 σ_1 => ((r_2 = 0 ∨ r_2 = 1) ∧ post r_2 σ_1)))
set_option maxHeartbeats 4000000 in
set_option maxRecDepth 100000 in
theorem tX9_isTick {G : GT} {p1 : Int32} {σ : Hp} {post : Int32 → Hp → Prop} (h : vX9_isTick p1 σ post) : CT G mX9_isTick [.int p1] σ (LI post) := by
  refine CT.of (by decide +kernel) (Nat.le_of_ble_eq_true rfl) ?_
  show WP G mX9_isTick 0 [(0, .int p1)] [] σ (LI post)
  unfold vX9_isTick at h
  refine wr_iload_n (pc := 0) (dget kX9_isTick 0 rfl) 0 rfl ?_
  refine wr_i2l (pc := 1) (dget kX9_isTick 1 rfl) rfl ?_
  refine wr_lconst (pc := 2) (dget kX9_isTick 2 rfl) lc_0 ?_
  refine wr_ldc2 (pc := 3) kl_X9_151 (dget kX9_isTick 3 rfl) ?_
  refine wr_callSi (pc := 6) (Mc := mX9_in) (rest := []) cf_X9_75 cs_X9_in ⟨Nat.le_of_ble_eq_true rfl, Nat.le_of_ble_eq_true rfl⟩ rfl rfl (Nat.le_of_ble_eq_true rfl) (dget kX9_isTick 4 rfl) (tX9_in h) (fun r_2 σ_1 h => ?_)
  obtain ⟨q_3, h⟩ := h
  exact wr_zret (pc := 9) rfl (nar_z q_3) (dget kX9_isTick 5 rfl) ⟨_, rfl, h⟩
def vX9_isDuck (p1 : Int32) (σ : Hp) (post : Int32 → Hp → Prop) : Prop := (vX9_in p1.toInt64 (0 : Int64) (((σ.1 71 8) - (1 : Int32))).toInt64 σ (fun r_2 σ_1 => ((r_2 = 0 ∨ r_2 = 1) ∧ post r_2 σ_1)))
set_option maxHeartbeats 4000000 in
set_option maxRecDepth 100000 in
theorem tX9_isDuck {G : GT} {p1 : Int32} {σ : Hp} {post : Int32 → Hp → Prop} (h : vX9_isDuck p1 σ post) : CT G mX9_isDuck [.ref (G.1 71), .int p1] σ (LI post) := by
  refine CT.of (by decide +kernel) (Nat.le_of_ble_eq_true rfl) ?_
  show WP G mX9_isDuck 0 [(0, .ref (G.1 71)), (1, .int p1)] [] σ (LI post)
  unfold vX9_isDuck at h
  refine wr_iload_n (pc := 0) (dget kX9_isDuck 0 rfl) 1 rfl ?_
  refine wr_i2l (pc := 1) (dget kX9_isDuck 1 rfl) rfl ?_
  refine wr_lconst (pc := 2) (dget kX9_isDuck 2 rfl) lc_0 ?_
  refine wr_aload_n (pc := 3) (dget kX9_isDuck 3 rfl) 0 rfl ?_
  refine wr_getI (pc := 4) (σ := σ) fl_X9_123 kd_71 fk_9_8 (dget kX9_isDuck 4 rfl) ?_
  refine wr_iconst (pc := 7) (dget kX9_isDuck 5 rfl) ic_1 ?_
  refine wr_isub (pc := 8) (dget kX9_isDuck 6 rfl) ?_
  refine wr_i2l (pc := 9) (dget kX9_isDuck 7 rfl) rfl ?_
  refine wr_callSi (pc := 10) (Mc := mX9_in) (rest := []) cf_X9_75 cs_X9_in ⟨Nat.le_of_ble_eq_true rfl, Nat.le_of_ble_eq_true rfl⟩ rfl rfl (Nat.le_of_ble_eq_true rfl) (dget kX9_isDuck 8 rfl) (tX9_in h) (fun r_2 σ_1 h => ?_)
  obtain ⟨q_3, h⟩ := h
  exact wr_zret (pc := 13) rfl (nar_z q_3) (dget kX9_isDuck 9 rfl) ⟨_, rfl, h⟩
def vX9_isShot (p1 : Int32) (σ : Hp) (post : Int32 → Hp → Prop) : Prop := (vX9_in p1.toInt64 (0 : Int64) (((σ.1 71 10) - (1 : Int32))).toInt64 σ (fun r_2 σ_1 => ((r_2 = 0 ∨ r_2 = 1) ∧ post r_2 σ_1)))
set_option maxHeartbeats 4000000 in
set_option maxRecDepth 100000 in
theorem tX9_isShot {G : GT} {p1 : Int32} {σ : Hp} {post : Int32 → Hp → Prop} (h : vX9_isShot p1 σ post) : CT G mX9_isShot [.ref (G.1 71), .int p1] σ (LI post) := by
  refine CT.of (by decide +kernel) (Nat.le_of_ble_eq_true rfl) ?_
  show WP G mX9_isShot 0 [(0, .ref (G.1 71)), (1, .int p1)] [] σ (LI post)
  unfold vX9_isShot at h
  refine wr_iload_n (pc := 0) (dget kX9_isShot 0 rfl) 1 rfl ?_
  refine wr_i2l (pc := 1) (dget kX9_isShot 1 rfl) rfl ?_
  refine wr_lconst (pc := 2) (dget kX9_isShot 2 rfl) lc_0 ?_
  refine wr_aload_n (pc := 3) (dget kX9_isShot 3 rfl) 0 rfl ?_
  refine wr_getI (pc := 4) (σ := σ) fl_X9_132 kd_71 fk_9_10 (dget kX9_isShot 4 rfl) ?_
  refine wr_iconst (pc := 7) (dget kX9_isShot 5 rfl) ic_1 ?_
  refine wr_isub (pc := 8) (dget kX9_isShot 6 rfl) ?_
  refine wr_i2l (pc := 9) (dget kX9_isShot 7 rfl) rfl ?_
  refine wr_callSi (pc := 10) (Mc := mX9_in) (rest := []) cf_X9_75 cs_X9_in ⟨Nat.le_of_ble_eq_true rfl, Nat.le_of_ble_eq_true rfl⟩ rfl rfl (Nat.le_of_ble_eq_true rfl) (dget kX9_isShot 8 rfl) (tX9_in h) (fun r_2 σ_1 h => ?_)
  obtain ⟨q_3, h⟩ := h
  exact wr_zret (pc := 13) rfl (nar_z q_3) (dget kX9_isShot 9 rfl) ⟨_, rfl, h⟩
def vX9_chain (p1 : Int32) (σ : Hp) (post : Int32 → Hp → Prop) : Prop := (vX9_readsChains  σ (fun r_2 σ_1 => (vX9_isChain p1 σ_1 (fun r_4 σ_3 => ((r_4 = 0 → post (-2147483648 : Int32) σ_3) ∧ (¬ r_4 = 0 → (vp_in p1 3 ∧ post (σ_3.1 78 p1.toNatClampNeg) σ_3)))))))
set_option maxHeartbeats 4000000 in
set_option maxRecDepth 100000 in
theorem tX9_chain {G : GT} {p1 : Int32} {σ : Hp} {post : Int32 → Hp → Prop} (h : vX9_chain p1 σ post) : CT G mX9_chain [.ref (G.1 71), .int p1] σ (LI post) := by
  refine CT.of (by decide +kernel) (Nat.le_of_ble_eq_true rfl) ?_
  show WP G mX9_chain 0 [(0, .ref (G.1 71)), (1, .int p1)] [] σ (LI post)
  unfold vX9_chain at h
  refine wr_aload_n (pc := 0) (dget kX9_chain 0 rfl) 0 rfl ?_
  refine wr_callVi (pc := 1) (Mc := mX9_readsChains) (o := 71) (rest := []) cf_X9_138 cv_X9_readsChains kd_71 rfl ⟨Nat.le_of_ble_eq_true rfl, Nat.le_of_ble_eq_true rfl⟩ rfl rfl (Nat.le_of_ble_eq_true rfl) (dget kX9_chain 1 rfl) (tX9_readsChains h) (fun r_2 σ_1 h => ?_)
  refine wr_pop (pc := 4) (dget kX9_chain 2 rfl) rfl ?_
  refine wr_iload_n (pc := 5) (dget kX9_chain 3 rfl) 1 rfl ?_
  refine wr_callSi (pc := 6) (Mc := mX9_isChain) (rest := []) cf_X9_153 cs_X9_isChain ⟨Nat.le_of_ble_eq_true rfl, Nat.le_of_ble_eq_true rfl⟩ rfl rfl (Nat.le_of_ble_eq_true rfl) (dget kX9_chain 4 rfl) (tX9_isChain h) (fun r_4 σ_3 h => ?_)
  refine wr_if_eq (pc := 9) (tgt := 21) (dget kX9_chain 5 rfl) (by decide) (fun c_5 => ?_) (fun c_5 => ?_)
  · have h := h.1 c_5
    refine wr_ldc (pc := 21) ki_X9_103 (dget kX9_chain 11 rfl) ?_
    exact wr_iret (pc := 23) rfl (dget kX9_chain 12 rfl) ⟨_, rfl, h⟩
  · have h := h.2 c_5
    refine wr_aload_n (pc := 12) (dget kX9_chain 6 rfl) 0 rfl ?_
    refine wr_getRl (pc := 13) fl_X9_28 kd_71 fk_9_7 rt_71_7 (dget kX9_chain 7 rfl) ?_
    refine wr_iload_n (pc := 16) (dget kX9_chain 8 rfl) 1 rfl ?_
    obtain ⟨q_6, h⟩ := h
    refine wr_ialdl (pc := 17) (σ := σ_3) il_78 q_6 (dget kX9_chain 9 rfl) ?_
    refine wr_goto (pc := 18) (tgt := 23) (dget kX9_chain 10 rfl) (by decide) ?_
    exact wr_iret (pc := 23) rfl (dget kX9_chain 12 rfl) ⟨_, rfl, h⟩
def vX9_duck (p1 : Int32) (p2 : Int32) (σ : Hp) (post : Int32 → Hp → Prop) : Prop := (vX9_readsDucks  σ (fun r_2 σ_1 => (vX9_isDuck p1 σ_1 (fun r_4 σ_3 => ((r_4 = 0 → post (-2 : Int32) σ_3) ∧ (¬ r_4 = 0 → (vX9_in p2.toInt64 (0 : Int64) (3 : Int64) σ_3 (fun r_7 σ_6 => ((r_7 = 0 → post (-2 : Int32) σ_6) ∧ (¬ r_7 = 0 → (vp_in (((4 : Int32) * p1) + p2) 48 ∧ post (σ_6.1 79 ((((4 : Int32) * p1) + p2)).toNatClampNeg) σ_6)))))))))))
set_option maxHeartbeats 4000000 in
set_option maxRecDepth 100000 in
theorem tX9_duck {G : GT} {p1 : Int32} {p2 : Int32} {σ : Hp} {post : Int32 → Hp → Prop} (h : vX9_duck p1 p2 σ post) : CT G mX9_duck [.ref (G.1 71), .int p1, .int p2] σ (LI post) := by
  refine CT.of (by decide +kernel) (Nat.le_of_ble_eq_true rfl) ?_
  show WP G mX9_duck 0 [(0, .ref (G.1 71)), (1, .int p1), (2, .int p2)] [] σ (LI post)
  unfold vX9_duck at h
  refine wr_aload_n (pc := 0) (dget kX9_duck 0 rfl) 0 rfl ?_
  refine wr_callVi (pc := 1) (Mc := mX9_readsDucks) (o := 71) (rest := []) cf_X9_142 cv_X9_readsDucks kd_71 rfl ⟨Nat.le_of_ble_eq_true rfl, Nat.le_of_ble_eq_true rfl⟩ rfl rfl (Nat.le_of_ble_eq_true rfl) (dget kX9_duck 1 rfl) (tX9_readsDucks h) (fun r_2 σ_1 h => ?_)
  refine wr_pop (pc := 4) (dget kX9_duck 2 rfl) rfl ?_
  refine wr_aload_n (pc := 5) (dget kX9_duck 3 rfl) 0 rfl ?_
  refine wr_iload_n (pc := 6) (dget kX9_duck 4 rfl) 1 rfl ?_
  refine wr_callVi (pc := 7) (Mc := mX9_isDuck) (o := 71) (rest := []) cf_X9_156 cv_X9_isDuck kd_71 rfl ⟨Nat.le_of_ble_eq_true rfl, Nat.le_of_ble_eq_true rfl⟩ rfl rfl (Nat.le_of_ble_eq_true rfl) (dget kX9_duck 5 rfl) (tX9_isDuck h) (fun r_4 σ_3 h => ?_)
  refine wr_if_eq (pc := 10) (tgt := 38) (dget kX9_duck 6 rfl) (by decide) (fun c_5 => ?_) (fun c_5 => ?_)
  · have h := h.1 c_5
    refine wr_bipush (pc := 38) (dget kX9_duck 22 rfl) bp_m2 ?_
    exact wr_iret (pc := 40) rfl (dget kX9_duck 23 rfl) ⟨_, rfl, h⟩
  · have h := h.2 c_5
    refine wr_iload_n (pc := 13) (dget kX9_duck 7 rfl) 2 rfl ?_
    refine wr_i2l (pc := 14) (dget kX9_duck 8 rfl) rfl ?_
    refine wr_lconst (pc := 15) (dget kX9_duck 9 rfl) lc_0 ?_
    refine wr_ldc2 (pc := 16) kl_X9_83 (dget kX9_duck 10 rfl) ?_
    refine wr_callSi (pc := 19) (Mc := mX9_in) (rest := []) cf_X9_75 cs_X9_in ⟨Nat.le_of_ble_eq_true rfl, Nat.le_of_ble_eq_true rfl⟩ rfl rfl (Nat.le_of_ble_eq_true rfl) (dget kX9_duck 11 rfl) (tX9_in h) (fun r_7 σ_6 h => ?_)
    refine wr_if_eq (pc := 22) (tgt := 38) (dget kX9_duck 12 rfl) (by decide) (fun c_8 => ?_) (fun c_8 => ?_)
    · have h := h.1 c_8
      refine wr_bipush (pc := 38) (dget kX9_duck 22 rfl) bp_m2 ?_
      exact wr_iret (pc := 40) rfl (dget kX9_duck 23 rfl) ⟨_, rfl, h⟩
    · have h := h.2 c_8
      refine wr_aload_n (pc := 25) (dget kX9_duck 13 rfl) 0 rfl ?_
      refine wr_getRl (pc := 26) fl_X9_31 kd_71 fk_9_9 rt_71_9 (dget kX9_duck 14 rfl) ?_
      refine wr_iconst (pc := 29) (dget kX9_duck 15 rfl) ic_4 ?_
      refine wr_iload_n (pc := 30) (dget kX9_duck 16 rfl) 1 rfl ?_
      refine wr_imul (pc := 31) (dget kX9_duck 17 rfl) ?_
      refine wr_iload_n (pc := 32) (dget kX9_duck 18 rfl) 2 rfl ?_
      refine wr_iadd (pc := 33) (dget kX9_duck 19 rfl) ?_
      obtain ⟨q_9, h⟩ := h
      refine wr_ialdl (pc := 34) (σ := σ_6) il_79 q_9 (dget kX9_duck 20 rfl) ?_
      refine wr_goto (pc := 35) (tgt := 40) (dget kX9_duck 21 rfl) (by decide) ?_
      exact wr_iret (pc := 40) rfl (dget kX9_duck 23 rfl) ⟨_, rfl, h⟩
def vX9_shot (p1 : Int32) (p2 : Int32) (σ : Hp) (post : Int32 → Hp → Prop) : Prop := (vX9_readsShots  σ (fun r_2 σ_1 => (vX9_isShot p1 σ_1 (fun r_4 σ_3 => ((r_4 = 0 → post (-2 : Int32) σ_3) ∧ (¬ r_4 = 0 → (vX9_in p2.toInt64 (0 : Int64) (2 : Int64) σ_3 (fun r_7 σ_6 => ((r_7 = 0 → post (-2 : Int32) σ_6) ∧ (¬ r_7 = 0 → (vp_in (((3 : Int32) * p1) + p2) 36 ∧ post (σ_6.1 80 ((((3 : Int32) * p1) + p2)).toNatClampNeg) σ_6)))))))))))
set_option maxHeartbeats 4000000 in
set_option maxRecDepth 100000 in
theorem tX9_shot {G : GT} {p1 : Int32} {p2 : Int32} {σ : Hp} {post : Int32 → Hp → Prop} (h : vX9_shot p1 p2 σ post) : CT G mX9_shot [.ref (G.1 71), .int p1, .int p2] σ (LI post) := by
  refine CT.of (by decide +kernel) (Nat.le_of_ble_eq_true rfl) ?_
  show WP G mX9_shot 0 [(0, .ref (G.1 71)), (1, .int p1), (2, .int p2)] [] σ (LI post)
  unfold vX9_shot at h
  refine wr_aload_n (pc := 0) (dget kX9_shot 0 rfl) 0 rfl ?_
  refine wr_callVi (pc := 1) (Mc := mX9_readsShots) (o := 71) (rest := []) cf_X9_145 cv_X9_readsShots kd_71 rfl ⟨Nat.le_of_ble_eq_true rfl, Nat.le_of_ble_eq_true rfl⟩ rfl rfl (Nat.le_of_ble_eq_true rfl) (dget kX9_shot 1 rfl) (tX9_readsShots h) (fun r_2 σ_1 h => ?_)
  refine wr_pop (pc := 4) (dget kX9_shot 2 rfl) rfl ?_
  refine wr_aload_n (pc := 5) (dget kX9_shot 3 rfl) 0 rfl ?_
  refine wr_iload_n (pc := 6) (dget kX9_shot 4 rfl) 1 rfl ?_
  refine wr_callVi (pc := 7) (Mc := mX9_isShot) (o := 71) (rest := []) cf_X9_159 cv_X9_isShot kd_71 rfl ⟨Nat.le_of_ble_eq_true rfl, Nat.le_of_ble_eq_true rfl⟩ rfl rfl (Nat.le_of_ble_eq_true rfl) (dget kX9_shot 5 rfl) (tX9_isShot h) (fun r_4 σ_3 h => ?_)
  refine wr_if_eq (pc := 10) (tgt := 38) (dget kX9_shot 6 rfl) (by decide) (fun c_5 => ?_) (fun c_5 => ?_)
  · have h := h.1 c_5
    refine wr_bipush (pc := 38) (dget kX9_shot 22 rfl) bp_m2 ?_
    exact wr_iret (pc := 40) rfl (dget kX9_shot 23 rfl) ⟨_, rfl, h⟩
  · have h := h.2 c_5
    refine wr_iload_n (pc := 13) (dget kX9_shot 7 rfl) 2 rfl ?_
    refine wr_i2l (pc := 14) (dget kX9_shot 8 rfl) rfl ?_
    refine wr_lconst (pc := 15) (dget kX9_shot 9 rfl) lc_0 ?_
    refine wr_ldc2 (pc := 16) kl_X9_89 (dget kX9_shot 10 rfl) ?_
    refine wr_callSi (pc := 19) (Mc := mX9_in) (rest := []) cf_X9_75 cs_X9_in ⟨Nat.le_of_ble_eq_true rfl, Nat.le_of_ble_eq_true rfl⟩ rfl rfl (Nat.le_of_ble_eq_true rfl) (dget kX9_shot 11 rfl) (tX9_in h) (fun r_7 σ_6 h => ?_)
    refine wr_if_eq (pc := 22) (tgt := 38) (dget kX9_shot 12 rfl) (by decide) (fun c_8 => ?_) (fun c_8 => ?_)
    · have h := h.1 c_8
      refine wr_bipush (pc := 38) (dget kX9_shot 22 rfl) bp_m2 ?_
      exact wr_iret (pc := 40) rfl (dget kX9_shot 23 rfl) ⟨_, rfl, h⟩
    · have h := h.2 c_8
      refine wr_aload_n (pc := 25) (dget kX9_shot 13 rfl) 0 rfl ?_
      refine wr_getRl (pc := 26) fl_X9_34 kd_71 fk_9_11 rt_71_11 (dget kX9_shot 14 rfl) ?_
      refine wr_iconst (pc := 29) (dget kX9_shot 15 rfl) ic_3 ?_
      refine wr_iload_n (pc := 30) (dget kX9_shot 16 rfl) 1 rfl ?_
      refine wr_imul (pc := 31) (dget kX9_shot 17 rfl) ?_
      refine wr_iload_n (pc := 32) (dget kX9_shot 18 rfl) 2 rfl ?_
      refine wr_iadd (pc := 33) (dget kX9_shot 19 rfl) ?_
      obtain ⟨q_9, h⟩ := h
      refine wr_ialdl (pc := 34) (σ := σ_6) il_80 q_9 (dget kX9_shot 20 rfl) ?_
      refine wr_goto (pc := 35) (tgt := 40) (dget kX9_shot 21 rfl) (by decide) ?_
      exact wr_iret (pc := 40) rfl (dget kX9_shot 23 rfl) ⟨_, rfl, h⟩
def vX9_rifle_23 (post : Int32 → Hp → Prop) (x1 : Int32) (x2 : Int32) (y0 : Int64) (y1 : Int64) (y2 : Int64) (σ : Hp) : Prop := (vX9_in y2 y1 y0 σ (fun r_2 σ_1 => ((r_2 = 0 → post (-2 : Int32) σ_1) ∧ (¬ r_2 = 0 → (vp_in x1 2 ∧ (∀ x3_5 : Int32, x3_5 = (σ_1.1 81 x1.toNatClampNeg) → (vp_in x1 2 ∧ ∀ σ_7 : Hp, σ_7 = wI σ_1 81 x1.toNatClampNeg x2 → post x3_5 σ_7)))))))
set_option maxHeartbeats 4000000 in
set_option maxRecDepth 100000 in
theorem tX9_rifle_23 {G : GT} {post : Int32 → Hp → Prop} {x1 : Int32} {x2 : Int32} {y0 : Int64} {y1 : Int64} {y2 : Int64} {σ : Hp} (h : vX9_rifle_23 post x1 x2 y0 y1 y2 σ) : WP G mX9_rifle 23 [(0, .ref (G.1 71)), (1, .int x1), (2, .int x2)] [.long y0, .long y1, .long y2] σ (LI post) := by
  unfold vX9_rifle_23 at h
  refine wr_callSi (pc := 23) (Mc := mX9_in) (rest := []) cf_X9_75 cs_X9_in ⟨Nat.le_of_ble_eq_true rfl, Nat.le_of_ble_eq_true rfl⟩ rfl rfl (Nat.le_of_ble_eq_true rfl) (dget kX9_rifle 11 rfl) (tX9_in h) (fun r_2 σ_1 h => ?_)
  refine wr_if_ne (pc := 26) (tgt := 32) (dget kX9_rifle 12 rfl) (by decide) (fun c_3 => ?_) (fun c_3 => ?_)
  · have h := h.2 c_3
    refine wr_aload_n (pc := 32) (dget kX9_rifle 15 rfl) 0 rfl ?_
    refine wr_getRl (pc := 33) fl_X9_37 kd_71 fk_9_12 rt_71_12 (dget kX9_rifle 16 rfl) ?_
    refine wr_iload_n (pc := 36) (dget kX9_rifle 17 rfl) 1 rfl ?_
    obtain ⟨q_4, h⟩ := h
    refine wr_ialdl (pc := 37) (σ := σ_1) il_81 q_4 (dget kX9_rifle 18 rfl) ?_
    refine wr_topi (fun x3_5 e_x3_5 => ?_)
    have h := h x3_5 e_x3_5
    refine wr_istore_n (pc := 38) (lv' := [(3, .int x3_5), (0, .ref (G.1 71)), (1, .int x1), (2, .int x2)]) (dget kX9_rifle 19 rfl) (by decide) rfl ?_
    refine wr_aload_n (pc := 39) (dget kX9_rifle 20 rfl) 1 rfl ?_
    refine wr_getRl (pc := 40) fl_X9_37 kd_71 fk_9_12 rt_71_12 (dget kX9_rifle 21 rfl) ?_
    refine wr_iload_n (pc := 43) (dget kX9_rifle 22 rfl) 2 rfl ?_
    refine wr_iload_n (pc := 44) (dget kX9_rifle 23 rfl) 3 rfl ?_
    obtain ⟨q_6, h⟩ := h
    refine wr_iastl (pc := 45) il_81 q_6 (dget kX9_rifle 24 rfl) ?_
    refine wr_tops (fun σ_7 e_σ_7 => ?_)
    have h := h σ_7 e_σ_7
    refine wr_iload_n (pc := 46) (dget kX9_rifle 25 rfl) 0 rfl ?_
    exact wr_iret (pc := 47) rfl (dget kX9_rifle 26 rfl) ⟨_, rfl, h⟩
  · have h := h.1 c_3
    refine wr_bipush (pc := 29) (dget kX9_rifle 13 rfl) bp_m2 ?_
    exact wr_iret (pc := 31) rfl (dget kX9_rifle 14 rfl) ⟨_, rfl, h⟩
def vX9_rifle (p1 : Int32) (p2 : Int32) (σ : Hp) (post : Int32 → Hp → Prop) : Prop := (vX9_isTwo p1 σ (fun r_2 σ_1 => ((r_2 = 0 → post (-2 : Int32) σ_1) ∧ (¬ r_2 = 0 → ((p1 = 0 → vX9_rifle_23 post p1 p2 (4 : Int64) (0 : Int64) p2.toInt64 σ_1) ∧ (¬ p1 = 0 → vX9_rifle_23 post p1 p2 (3 : Int64) (0 : Int64) p2.toInt64 σ_1))))))
set_option maxHeartbeats 4000000 in
set_option maxRecDepth 100000 in
theorem tX9_rifle {G : GT} {p1 : Int32} {p2 : Int32} {σ : Hp} {post : Int32 → Hp → Prop} (h : vX9_rifle p1 p2 σ post) : CT G mX9_rifle [.ref (G.1 71), .int p1, .int p2] σ (LI post) := by
  refine CT.of (by decide +kernel) (Nat.le_of_ble_eq_true rfl) ?_
  show WP G mX9_rifle 0 [(0, .ref (G.1 71)), (1, .int p1), (2, .int p2)] [] σ (LI post)
  unfold vX9_rifle at h
  refine wr_iload_n (pc := 0) (dget kX9_rifle 0 rfl) 1 rfl ?_
  refine wr_callSi (pc := 1) (Mc := mX9_isTwo) (rest := []) cf_X9_162 cs_X9_isTwo ⟨Nat.le_of_ble_eq_true rfl, Nat.le_of_ble_eq_true rfl⟩ rfl rfl (Nat.le_of_ble_eq_true rfl) (dget kX9_rifle 1 rfl) (tX9_isTwo h) (fun r_2 σ_1 h => ?_)
  refine wr_if_eq (pc := 4) (tgt := 29) (dget kX9_rifle 2 rfl) (by decide) (fun c_3 => ?_) (fun c_3 => ?_)
  · have h := h.1 c_3
    refine wr_bipush (pc := 29) (dget kX9_rifle 13 rfl) bp_m2 ?_
    exact wr_iret (pc := 31) rfl (dget kX9_rifle 14 rfl) ⟨_, rfl, h⟩
  · have h := h.2 c_3
    refine wr_iload_n (pc := 7) (dget kX9_rifle 3 rfl) 2 rfl ?_
    refine wr_i2l (pc := 8) (dget kX9_rifle 4 rfl) rfl ?_
    refine wr_lconst (pc := 9) (dget kX9_rifle 5 rfl) lc_0 ?_
    refine wr_iload_n (pc := 10) (dget kX9_rifle 6 rfl) 1 rfl ?_
    refine wr_if_ne (pc := 11) (tgt := 20) (dget kX9_rifle 7 rfl) (by decide) (fun c_4 => ?_) (fun c_4 => ?_)
    · have h := h.2 c_4
      refine wr_ldc2 (pc := 20) kl_X9_83 (dget kX9_rifle 10 rfl) ?_
      exact tX9_rifle_23 h
    · have h := h.1 c_4
      refine wr_ldc2 (pc := 14) kl_X9_165 (dget kX9_rifle 8 rfl) ?_
      refine wr_goto (pc := 17) (tgt := 23) (dget kX9_rifle 9 rfl) (by decide) ?_
      exact tX9_rifle_23 h
def vX9_event (p1 : Int32) (p2 : Int32) (p3 : Int32) (σ : Hp) (post : Int32 → Hp → Prop) : Prop := (vX9_in p1.toInt64 (0 : Int64) (2 : Int64) σ (fun r_2 σ_1 => ((r_2 = 0 → post (-2 : Int32) σ_1) ∧ (¬ r_2 = 0 → (vX9_isTick p2 σ_1 (fun r_5 σ_4 => ((r_5 = 0 → post (-2 : Int32) σ_4) ∧ (¬ r_5 = 0 → (vX9_in p3.toInt64 (0 : Int64) (11 : Int64) σ_4 (fun r_8 σ_7 => ((r_8 = 0 → post (-2 : Int32) σ_7) ∧ (¬ r_8 = 0 → (((σ_7.1 71 13) = (8 : Int32) → post (-4 : Int32) σ_7) ∧ (¬ (σ_7.1 71 13) = (8 : Int32) → (vp_in ((3 : Int32) * (σ_7.1 71 13)) 24 ∧ ∀ σ_12 : Hp, σ_12 = wI σ_7 82 (((3 : Int32) * (σ_7.1 71 13))).toNatClampNeg p1 → (vp_in (((3 : Int32) * (σ_12.1 71 13)) + (1 : Int32)) 24 ∧ ∀ σ_14 : Hp, σ_14 = wI σ_12 82 ((((3 : Int32) * (σ_12.1 71 13)) + (1 : Int32))).toNatClampNeg p2 → (vp_in (((3 : Int32) * (σ_14.1 71 13)) + (2 : Int32)) 24 ∧ ∀ σ_16 : Hp, σ_16 = wI σ_14 82 ((((3 : Int32) * (σ_14.1 71 13)) + (2 : Int32))).toNatClampNeg p3 → (∀ σ_17 : Hp, σ_17 = wI σ_16 71 13 ((σ_16.1 71 13) + (1 : Int32)) → post (σ_17.1 71 13) σ_17))))))))))))))))))
set_option maxHeartbeats 4000000 in
set_option maxRecDepth 100000 in
theorem tX9_event {G : GT} {p1 : Int32} {p2 : Int32} {p3 : Int32} {σ : Hp} {post : Int32 → Hp → Prop} (h : vX9_event p1 p2 p3 σ post) : CT G mX9_event [.ref (G.1 71), .int p1, .int p2, .int p3] σ (LI post) := by
  refine CT.of (by decide +kernel) (Nat.le_of_ble_eq_true rfl) ?_
  show WP G mX9_event 0 [(0, .ref (G.1 71)), (1, .int p1), (2, .int p2), (3, .int p3)] [] σ (LI post)
  unfold vX9_event at h
  refine wr_iload_n (pc := 0) (dget kX9_event 0 rfl) 1 rfl ?_
  refine wr_i2l (pc := 1) (dget kX9_event 1 rfl) rfl ?_
  refine wr_lconst (pc := 2) (dget kX9_event 2 rfl) lc_0 ?_
  refine wr_ldc2 (pc := 3) kl_X9_89 (dget kX9_event 3 rfl) ?_
  refine wr_callSi (pc := 6) (Mc := mX9_in) (rest := []) cf_X9_75 cs_X9_in ⟨Nat.le_of_ble_eq_true rfl, Nat.le_of_ble_eq_true rfl⟩ rfl rfl (Nat.le_of_ble_eq_true rfl) (dget kX9_event 4 rfl) (tX9_in h) (fun r_2 σ_1 h => ?_)
  refine wr_if_eq (pc := 9) (tgt := 31) (dget kX9_event 5 rfl) (by decide) (fun c_3 => ?_) (fun c_3 => ?_)
  · have h := h.1 c_3
    refine wr_bipush (pc := 31) (dget kX9_event 15 rfl) bp_m2 ?_
    exact wr_iret (pc := 33) rfl (dget kX9_event 16 rfl) ⟨_, rfl, h⟩
  · have h := h.2 c_3
    refine wr_iload_n (pc := 12) (dget kX9_event 6 rfl) 2 rfl ?_
    refine wr_callSi (pc := 13) (Mc := mX9_isTick) (rest := []) cf_X9_167 cs_X9_isTick ⟨Nat.le_of_ble_eq_true rfl, Nat.le_of_ble_eq_true rfl⟩ rfl rfl (Nat.le_of_ble_eq_true rfl) (dget kX9_event 7 rfl) (tX9_isTick h) (fun r_5 σ_4 h => ?_)
    refine wr_if_eq (pc := 16) (tgt := 31) (dget kX9_event 8 rfl) (by decide) (fun c_6 => ?_) (fun c_6 => ?_)
    · have h := h.1 c_6
      refine wr_bipush (pc := 31) (dget kX9_event 15 rfl) bp_m2 ?_
      exact wr_iret (pc := 33) rfl (dget kX9_event 16 rfl) ⟨_, rfl, h⟩
    · have h := h.2 c_6
      refine wr_iload_n (pc := 19) (dget kX9_event 9 rfl) 3 rfl ?_
      refine wr_i2l (pc := 20) (dget kX9_event 10 rfl) rfl ?_
      refine wr_lconst (pc := 21) (dget kX9_event 11 rfl) lc_0 ?_
      refine wr_ldc2 (pc := 22) kl_X9_170 (dget kX9_event 12 rfl) ?_
      refine wr_callSi (pc := 25) (Mc := mX9_in) (rest := []) cf_X9_75 cs_X9_in ⟨Nat.le_of_ble_eq_true rfl, Nat.le_of_ble_eq_true rfl⟩ rfl rfl (Nat.le_of_ble_eq_true rfl) (dget kX9_event 13 rfl) (tX9_in h) (fun r_8 σ_7 h => ?_)
      refine wr_if_ne (pc := 28) (tgt := 34) (dget kX9_event 14 rfl) (by decide) (fun c_9 => ?_) (fun c_9 => ?_)
      · have h := h.2 c_9
        refine wr_aload_n (pc := 34) (dget kX9_event 17 rfl) 0 rfl ?_
        refine wr_getI (pc := 35) (σ := σ_7) fl_X9_172 kd_71 fk_9_13 (dget kX9_event 18 rfl) ?_
        refine wr_bipush (pc := 38) (dget kX9_event 19 rfl) bp_8 ?_
        refine wr_icmp_ne (pc := 40) (tgt := 46) (dget kX9_event 20 rfl) (by decide) (fun c_10 => ?_) (fun c_10 => ?_)
        · have h := h.2 c_10
          refine wr_aload_n (pc := 46) (dget kX9_event 23 rfl) 0 rfl ?_
          refine wr_getRl (pc := 47) fl_X9_40 kd_71 fk_9_14 rt_71_14 (dget kX9_event 24 rfl) ?_
          refine wr_iconst (pc := 50) (dget kX9_event 25 rfl) ic_3 ?_
          refine wr_aload_n (pc := 51) (dget kX9_event 26 rfl) 0 rfl ?_
          refine wr_getI (pc := 52) (σ := σ_7) fl_X9_172 kd_71 fk_9_13 (dget kX9_event 27 rfl) ?_
          refine wr_imul (pc := 55) (dget kX9_event 28 rfl) ?_
          refine wr_iload_n (pc := 56) (dget kX9_event 29 rfl) 1 rfl ?_
          obtain ⟨q_11, h⟩ := h
          refine wr_iastl (pc := 57) il_82 q_11 (dget kX9_event 30 rfl) ?_
          refine wr_tops (fun σ_12 e_σ_12 => ?_)
          have h := h σ_12 e_σ_12
          refine wr_aload_n (pc := 58) (dget kX9_event 31 rfl) 0 rfl ?_
          refine wr_getRl (pc := 59) fl_X9_40 kd_71 fk_9_14 rt_71_14 (dget kX9_event 32 rfl) ?_
          refine wr_iconst (pc := 62) (dget kX9_event 33 rfl) ic_3 ?_
          refine wr_aload_n (pc := 63) (dget kX9_event 34 rfl) 0 rfl ?_
          refine wr_getI (pc := 64) (σ := σ_12) fl_X9_172 kd_71 fk_9_13 (dget kX9_event 35 rfl) ?_
          refine wr_imul (pc := 67) (dget kX9_event 36 rfl) ?_
          refine wr_iconst (pc := 68) (dget kX9_event 37 rfl) ic_1 ?_
          refine wr_iadd (pc := 69) (dget kX9_event 38 rfl) ?_
          refine wr_iload_n (pc := 70) (dget kX9_event 39 rfl) 2 rfl ?_
          obtain ⟨q_13, h⟩ := h
          refine wr_iastl (pc := 71) il_82 q_13 (dget kX9_event 40 rfl) ?_
          refine wr_tops (fun σ_14 e_σ_14 => ?_)
          have h := h σ_14 e_σ_14
          refine wr_aload_n (pc := 72) (dget kX9_event 41 rfl) 0 rfl ?_
          refine wr_getRl (pc := 73) fl_X9_40 kd_71 fk_9_14 rt_71_14 (dget kX9_event 42 rfl) ?_
          refine wr_iconst (pc := 76) (dget kX9_event 43 rfl) ic_3 ?_
          refine wr_aload_n (pc := 77) (dget kX9_event 44 rfl) 0 rfl ?_
          refine wr_getI (pc := 78) (σ := σ_14) fl_X9_172 kd_71 fk_9_13 (dget kX9_event 45 rfl) ?_
          refine wr_imul (pc := 81) (dget kX9_event 46 rfl) ?_
          refine wr_iconst (pc := 82) (dget kX9_event 47 rfl) ic_2 ?_
          refine wr_iadd (pc := 83) (dget kX9_event 48 rfl) ?_
          refine wr_iload_n (pc := 84) (dget kX9_event 49 rfl) 3 rfl ?_
          obtain ⟨q_15, h⟩ := h
          refine wr_iastl (pc := 85) il_82 q_15 (dget kX9_event 50 rfl) ?_
          refine wr_tops (fun σ_16 e_σ_16 => ?_)
          have h := h σ_16 e_σ_16
          refine wr_aload_n (pc := 86) (dget kX9_event 51 rfl) 0 rfl ?_
          refine wr_dup (pc := 87) (dget kX9_event 52 rfl) rfl ?_
          refine wr_getI (pc := 88) (σ := σ_16) fl_X9_172 kd_71 fk_9_13 (dget kX9_event 53 rfl) ?_
          refine wr_iconst (pc := 91) (dget kX9_event 54 rfl) ic_1 ?_
          refine wr_iadd (pc := 92) (dget kX9_event 55 rfl) ?_
          refine wr_putI (pc := 93) fl_X9_172 kd_71 fk_9_13 (vp_nar_int _) rfl (dget kX9_event 56 rfl) ?_
          refine wr_tops (fun σ_17 e_σ_17 => ?_)
          have h := h σ_17 e_σ_17
          refine wr_aload_n (pc := 96) (dget kX9_event 57 rfl) 0 rfl ?_
          refine wr_getI (pc := 97) (σ := σ_17) fl_X9_172 kd_71 fk_9_13 (dget kX9_event 58 rfl) ?_
          exact wr_iret (pc := 100) rfl (dget kX9_event 59 rfl) ⟨_, rfl, h⟩
        · have h := h.1 c_10
          refine wr_bipush (pc := 43) (dget kX9_event 21 rfl) bp_m4 ?_
          exact wr_iret (pc := 45) rfl (dget kX9_event 22 rfl) ⟨_, rfl, h⟩
      · have h := h.1 c_9
        refine wr_bipush (pc := 31) (dget kX9_event 15 rfl) bp_m2 ?_
        exact wr_iret (pc := 33) rfl (dget kX9_event 16 rfl) ⟨_, rfl, h⟩
