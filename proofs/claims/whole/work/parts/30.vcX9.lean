def vX9_in (p1 : Int64) (p2 : Int64) (p3 : Int64) (σ : Hp) (post : Int32 → Hp → Prop) : Prop := (((lg_cmp p1 p2) < 0 → post (0 : Int32) σ) ∧ (¬ (lg_cmp p1 p2) < 0 → ((0 < (lg_cmp p1 p3) → post (0 : Int32) σ) ∧ (¬ 0 < (lg_cmp p1 p3) → post (1 : Int32) σ))))
set_option maxHeartbeats 4000000 in
set_option maxRecDepth 100000 in
theorem tX9_in {G : GT} {p1 : Int64} {p2 : Int64} {p3 : Int64} {σ : Hp} {post : Int32 → Hp → Prop} (h : vX9_in p1 p2 p3 σ post) : CT G mX9_in [.long p1, .long p2, .long p3] σ (LI post) := by
  refine CT.of (by decide +kernel) (Nat.le_of_ble_eq_true rfl) ?_
  show WP G mX9_in 0 [(0, .long p1), (2, .long p2), (4, .long p3)] [] σ (LI post)
  unfold vX9_in at h
  refine wr_lload_n (pc := 0) (dget kX9_in 0 rfl) 0 rfl ?_
  refine wr_lload_n (pc := 1) (dget kX9_in 1 rfl) 1 rfl ?_
  refine wr_lcmp (pc := 2) (dget kX9_in 2 rfl) ?_
  refine wr_if_lt (pc := 3) (tgt := 17) (dget kX9_in 3 rfl) (by decide) (fun c_1 => ?_) (fun c_1 => ?_)
  · have h := h.1 c_1
    refine wr_iconst (pc := 17) (dget kX9_in 10 rfl) ic_0 ?_
    exact wr_zret (pc := 18) rfl (by decide) (dget kX9_in 11 rfl) ⟨_, rfl, h⟩
  · have h := h.2 c_1
    refine wr_lload_n (pc := 6) (dget kX9_in 4 rfl) 0 rfl ?_
    refine wr_lload (pc := 7) (dget kX9_in 5 rfl) 2 rfl ?_
    refine wr_lcmp (pc := 9) (dget kX9_in 6 rfl) ?_
    refine wr_if_gt (pc := 10) (tgt := 17) (dget kX9_in 7 rfl) (by decide) (fun c_2 => ?_) (fun c_2 => ?_)
    · have h := h.1 c_2
      refine wr_iconst (pc := 17) (dget kX9_in 10 rfl) ic_0 ?_
      exact wr_zret (pc := 18) rfl (by decide) (dget kX9_in 11 rfl) ⟨_, rfl, h⟩
    · have h := h.2 c_2
      refine wr_iconst (pc := 13) (dget kX9_in 8 rfl) ic_1 ?_
      refine wr_goto (pc := 14) (tgt := 18) (dget kX9_in 9 rfl) (by decide) ?_
      exact wr_zret (pc := 18) rfl (by decide) (dget kX9_in 11 rfl) ⟨_, rfl, h⟩
def vX9_no (p1 : Int32) (σ : Hp) (post : Int64 → Hp → Prop) : Prop := post ((-9223372036854775808 : Int64) - p1.toInt64) σ
set_option maxHeartbeats 4000000 in
set_option maxRecDepth 100000 in
theorem tX9_no {G : GT} {p1 : Int32} {σ : Hp} {post : Int64 → Hp → Prop} (h : vX9_no p1 σ post) : CT G mX9_no [.int p1] σ (LL post) := by
  refine CT.of (by decide +kernel) (Nat.le_of_ble_eq_true rfl) ?_
  show WP G mX9_no 0 [(0, .int p1)] [] σ (LL post)
  unfold vX9_no at h
  refine wr_ldc2 (pc := 0) kl_X9_73 (dget kX9_no 0 rfl) ?_
  refine wr_iload_n (pc := 3) (dget kX9_no 1 rfl) 0 rfl ?_
  refine wr_i2l (pc := 4) (dget kX9_no 2 rfl) rfl ?_
  refine wr_lsub (pc := 5) (dget kX9_no 3 rfl) ?_
  exact wr_lret (pc := 6) rfl (dget kX9_no 4 rfl) ⟨_, rfl, h⟩
def vX9_isTwo (p1 : Int32) (σ : Hp) (post : Int32 → Hp → Prop) : Prop := (vX9_in p1.toInt64 (0 : Int64) (1 : Int64) σ (fun r_2 σ_1 => ((r_2 = 0 ∨ r_2 = 1) ∧ post r_2 σ_1)))
set_option maxHeartbeats 4000000 in
set_option maxRecDepth 100000 in
theorem tX9_isTwo {G : GT} {p1 : Int32} {σ : Hp} {post : Int32 → Hp → Prop} (h : vX9_isTwo p1 σ post) : CT G mX9_isTwo [.int p1] σ (LI post) := by
  refine CT.of (by decide +kernel) (Nat.le_of_ble_eq_true rfl) ?_
  show WP G mX9_isTwo 0 [(0, .int p1)] [] σ (LI post)
  unfold vX9_isTwo at h
  refine wr_iload_n (pc := 0) (dget kX9_isTwo 0 rfl) 0 rfl ?_
  refine wr_i2l (pc := 1) (dget kX9_isTwo 1 rfl) rfl ?_
  refine wr_lconst (pc := 2) (dget kX9_isTwo 2 rfl) lc_0 ?_
  refine wr_lconst (pc := 3) (dget kX9_isTwo 3 rfl) lc_1 ?_
  refine wr_callSi (pc := 4) (Mc := mX9_in) (rest := []) cf_X9_75 cs_X9_in ⟨Nat.le_of_ble_eq_true rfl, Nat.le_of_ble_eq_true rfl⟩ rfl rfl (Nat.le_of_ble_eq_true rfl) (dget kX9_isTwo 4 rfl) (tX9_in h) (fun r_2 σ_1 h => ?_)
  obtain ⟨q_3, h⟩ := h
  exact wr_zret (pc := 7) rfl (nar_z q_3) (dget kX9_isTwo 5 rfl) ⟨_, rfl, h⟩
def vX9_isIn (p1 : Int32) (p2 : Int32) (σ : Hp) (post : Int32 → Hp → Prop) : Prop := ((((p1 >>> (p2 &&& 31)) &&& (1 : Int32)) = (1 : Int32) → post (1 : Int32) σ) ∧ (¬ ((p1 >>> (p2 &&& 31)) &&& (1 : Int32)) = (1 : Int32) → post (0 : Int32) σ))
set_option maxHeartbeats 4000000 in
set_option maxRecDepth 100000 in
theorem tX9_isIn {G : GT} {p1 : Int32} {p2 : Int32} {σ : Hp} {post : Int32 → Hp → Prop} (h : vX9_isIn p1 p2 σ post) : CT G mX9_isIn [.int p1, .int p2] σ (LI post) := by
  refine CT.of (by decide +kernel) (Nat.le_of_ble_eq_true rfl) ?_
  show WP G mX9_isIn 0 [(0, .int p1), (1, .int p2)] [] σ (LI post)
  unfold vX9_isIn at h
  refine wr_iload_n (pc := 0) (dget kX9_isIn 0 rfl) 0 rfl ?_
  refine wr_iload_n (pc := 1) (dget kX9_isIn 1 rfl) 1 rfl ?_
  refine wr_ishr (pc := 2) (dget kX9_isIn 2 rfl) ?_
  refine wr_iconst (pc := 3) (dget kX9_isIn 3 rfl) ic_1 ?_
  refine wr_iand (pc := 4) (dget kX9_isIn 4 rfl) ?_
  refine wr_iconst (pc := 5) (dget kX9_isIn 5 rfl) ic_1 ?_
  refine wr_icmp_ne (pc := 6) (tgt := 13) (dget kX9_isIn 6 rfl) (by decide) (fun c_1 => ?_) (fun c_1 => ?_)
  · have h := h.2 c_1
    refine wr_iconst (pc := 13) (dget kX9_isIn 9 rfl) ic_0 ?_
    exact wr_zret (pc := 14) rfl (by decide) (dget kX9_isIn 10 rfl) ⟨_, rfl, h⟩
  · have h := h.1 c_1
    refine wr_iconst (pc := 9) (dget kX9_isIn 7 rfl) ic_1 ?_
    refine wr_goto (pc := 10) (tgt := 14) (dget kX9_isIn 8 rfl) (by decide) ?_
    exact wr_zret (pc := 14) rfl (by decide) (dget kX9_isIn 10 rfl) ⟨_, rfl, h⟩
def vX9_lesser (p1 : Int32) (p2 : Int32) (σ : Hp) (post : Int32 → Hp → Prop) : Prop := ((p2 ≤ p1 → post p2 σ) ∧ (¬ p2 ≤ p1 → post p1 σ))
set_option maxHeartbeats 4000000 in
set_option maxRecDepth 100000 in
theorem tX9_lesser {G : GT} {p1 : Int32} {p2 : Int32} {σ : Hp} {post : Int32 → Hp → Prop} (h : vX9_lesser p1 p2 σ post) : CT G mX9_lesser [.int p1, .int p2] σ (LI post) := by
  refine CT.of (by decide +kernel) (Nat.le_of_ble_eq_true rfl) ?_
  show WP G mX9_lesser 0 [(0, .int p1), (1, .int p2)] [] σ (LI post)
  unfold vX9_lesser at h
  refine wr_iload_n (pc := 0) (dget kX9_lesser 0 rfl) 0 rfl ?_
  refine wr_iload_n (pc := 1) (dget kX9_lesser 1 rfl) 1 rfl ?_
  refine wr_icmp_ge (pc := 2) (tgt := 9) (dget kX9_lesser 2 rfl) (by decide) (fun c_1 => ?_) (fun c_1 => ?_)
  · have h := h.1 c_1
    refine wr_iload_n (pc := 9) (dget kX9_lesser 5 rfl) 1 rfl ?_
    exact wr_iret (pc := 10) rfl (dget kX9_lesser 6 rfl) ⟨_, rfl, h⟩
  · have h := h.2 c_1
    refine wr_iload_n (pc := 5) (dget kX9_lesser 3 rfl) 0 rfl ?_
    refine wr_goto (pc := 6) (tgt := 10) (dget kX9_lesser 4 rfl) (by decide) ?_
    exact wr_iret (pc := 10) rfl (dget kX9_lesser 6 rfl) ⟨_, rfl, h⟩
def vX9_greater (p1 : Int32) (p2 : Int32) (σ : Hp) (post : Int32 → Hp → Prop) : Prop := ((p1 ≤ p2 → post p2 σ) ∧ (¬ p1 ≤ p2 → post p1 σ))
set_option maxHeartbeats 4000000 in
set_option maxRecDepth 100000 in
theorem tX9_greater {G : GT} {p1 : Int32} {p2 : Int32} {σ : Hp} {post : Int32 → Hp → Prop} (h : vX9_greater p1 p2 σ post) : CT G mX9_greater [.int p1, .int p2] σ (LI post) := by
  refine CT.of (by decide +kernel) (Nat.le_of_ble_eq_true rfl) ?_
  show WP G mX9_greater 0 [(0, .int p1), (1, .int p2)] [] σ (LI post)
  unfold vX9_greater at h
  refine wr_iload_n (pc := 0) (dget kX9_greater 0 rfl) 0 rfl ?_
  refine wr_iload_n (pc := 1) (dget kX9_greater 1 rfl) 1 rfl ?_
  refine wr_icmp_le (pc := 2) (tgt := 9) (dget kX9_greater 2 rfl) (by decide) (fun c_1 => ?_) (fun c_1 => ?_)
  · have h := h.1 c_1
    refine wr_iload_n (pc := 9) (dget kX9_greater 5 rfl) 1 rfl ?_
    exact wr_iret (pc := 10) rfl (dget kX9_greater 6 rfl) ⟨_, rfl, h⟩
  · have h := h.2 c_1
    refine wr_iload_n (pc := 5) (dget kX9_greater 3 rfl) 0 rfl ?_
    refine wr_goto (pc := 6) (tgt := 10) (dget kX9_greater 4 rfl) (by decide) ?_
    exact wr_iret (pc := 10) rfl (dget kX9_greater 6 rfl) ⟨_, rfl, h⟩
def vX9_part_6 (post : Int64 → Hp → Prop) (ex : Int64 → Hp → Prop) (x0 : Int64) (x2 : Int64) (x4 : Int32) : Nat → Int64 → Int64 → Hp → Prop
  | 0 => fun _ _ _ => False
  | n + 1 => fun x5 x7 σ => (((lg_cmp x7 (0 : Int64)) = 0 → (ex x5 σ)) ∧ (¬ (lg_cmp x7 (0 : Int64)) = 0 → (¬ x7 = 0 ∧ (∀ x9_2 : Int64, x9_2 = (x5 - x5 / x7 * x7) → vX9_part_6 post ex x0 x2 x4 n x7 x9_2 σ))))
set_option maxHeartbeats 4000000 in
set_option maxRecDepth 100000 in
theorem tX9_part_6 {G : GT} {post : Int64 → Hp → Prop} {ex : Int64 → Hp → Prop} {x0 : Int64} {x2 : Int64} {x4 : Int32} (hex : ∀ (z5 : Int64) (τ : Hp), ex z5 τ → WP G mX9_part 31 [(0, .long x0), (2, .long x2), (4, .int x4), (5, .long z5)] [] τ (LL post)) : ∀ (n : Nat) (x5 : Int64) (x7 : Int64) (σ : Hp), vX9_part_6 post ex x0 x2 x4 n x5 x7 σ → WP G mX9_part 6 [(0, .long x0), (2, .long x2), (4, .int x4), (5, .long x5), (7, .long x7)] [] σ (LL post) := by
  intro n
  induction n with
  | zero => intro x5 x7 σ h; exact False.elim h
  | succ n ih =>
    intro x5 x7 σ h
    simp only [vX9_part_6] at h
    refine wr_lload (pc := 6) (dget kX9_part 4 rfl) 4 rfl ?_
    refine wr_lconst (pc := 8) (dget kX9_part 5 rfl) lc_0 ?_
    refine wr_lcmp (pc := 9) (dget kX9_part 6 rfl) ?_
    refine wr_if_eq (pc := 10) (tgt := 31) (dget kX9_part 7 rfl) (by decide) (fun c_1 => ?_) (fun c_1 => ?_)
    · have h := h.1 c_1
      refine wr_sub [0, 1, 2, 3] rfl ?_
      exact hex _ _ h
    · have h := h.2 c_1
      refine wr_lload (pc := 13) (dget kX9_part 8 rfl) 3 rfl ?_
      refine wr_lload (pc := 15) (dget kX9_part 9 rfl) 4 rfl ?_
      obtain ⟨q_3, h⟩ := h
      refine wr_lrem (pc := 17) (dget kX9_part 10 rfl) q_3 ?_
      refine wr_topl (fun x9_2 e_x9_2 => ?_)
      have h := h x9_2 e_x9_2
      refine wr_lstore (pc := 18) (lv' := [(9, .long x9_2), (0, .long x0), (2, .long x2), (4, .int x4), (5, .long x5), (7, .long x7)]) (dget kX9_part 11 rfl) (by decide) rfl ?_
      refine wr_lload (pc := 20) (dget kX9_part 12 rfl) 5 rfl ?_
      refine wr_lstore (pc := 22) (lv' := [(5, .long x7), (9, .long x9_2), (0, .long x0), (2, .long x2), (4, .int x4), (7, .long x7)]) (dget kX9_part 13 rfl) (by decide) rfl ?_
      refine wr_lload (pc := 24) (dget kX9_part 14 rfl) 1 rfl ?_
      refine wr_lstore (pc := 26) (lv' := [(7, .long x9_2), (5, .long x7), (9, .long x9_2), (0, .long x0), (2, .long x2), (4, .int x4)]) (dget kX9_part 15 rfl) (by decide) rfl ?_
      refine wr_goto (pc := 28) (tgt := 6) (dget kX9_part 16 rfl) (by decide) ?_
      refine wr_sub [3, 4, 5, 1, 0] rfl ?_
      exact ih _ _ _ h
def vX9_part (p1 : Int64) (p2 : Int64) (p3 : Int32) (σ : Hp) (post : Int64 → Hp → Prop) : Prop := (∃ fu : Nat, vX9_part_6 post (fun z5_1 σ_2 => ((p3 = 0 → (¬ z5_1 = 0 ∧ post (p1 / z5_1) σ_2)) ∧ (¬ p3 = 0 → (¬ z5_1 = 0 ∧ post (p2 / z5_1) σ_2)))) p1 p2 p3 fu p1 p2 σ)
set_option maxHeartbeats 4000000 in
set_option maxRecDepth 100000 in
theorem tX9_part {G : GT} {p1 : Int64} {p2 : Int64} {p3 : Int32} {σ : Hp} {post : Int64 → Hp → Prop} (h : vX9_part p1 p2 p3 σ post) : CT G mX9_part [.long p1, .long p2, .int p3] σ (LL post) := by
  refine CT.of (by decide +kernel) (Nat.le_of_ble_eq_true rfl) ?_
  show WP G mX9_part 0 [(0, .long p1), (2, .long p2), (4, .int p3)] [] σ (LL post)
  unfold vX9_part at h
  refine wr_lload_n (pc := 0) (dget kX9_part 0 rfl) 0 rfl ?_
  refine wr_lstore (pc := 1) (lv' := [(5, .long p1), (0, .long p1), (2, .long p2), (4, .int p3)]) (dget kX9_part 1 rfl) (by decide) rfl ?_
  refine wr_lload_n (pc := 3) (dget kX9_part 2 rfl) 2 rfl ?_
  refine wr_lstore (pc := 4) (lv' := [(7, .long p2), (5, .long p1), (0, .long p1), (2, .long p2), (4, .int p3)]) (dget kX9_part 3 rfl) (by decide) rfl ?_
  obtain ⟨fu, h⟩ := h
  refine wr_sub [2, 3, 4, 1, 0] rfl ?_
  refine tX9_part_6 (fun z5_1 σ_2 h => ?_) fu _ _ _ h
  refine wr_iload (pc := 31) (dget kX9_part 17 rfl) 2 rfl ?_
  refine wr_if_ne (pc := 33) (tgt := 40) (dget kX9_part 18 rfl) (by decide) (fun c_3 => ?_) (fun c_3 => ?_)
  · have h := h.2 c_3
    refine wr_lload_n (pc := 40) (dget kX9_part 21 rfl) 1 rfl ?_
    refine wr_lload (pc := 41) (dget kX9_part 22 rfl) 3 rfl ?_
    obtain ⟨q_4, h⟩ := h
    refine wr_ldiv (pc := 43) (dget kX9_part 23 rfl) q_4 ?_
    exact wr_lret (pc := 44) rfl (dget kX9_part 24 rfl) ⟨_, rfl, h⟩
  · have h := h.1 c_3
    refine wr_lload_n (pc := 36) (dget kX9_part 19 rfl) 0 rfl ?_
    refine wr_goto (pc := 37) (tgt := 41) (dget kX9_part 20 rfl) (by decide) ?_
    refine wr_lload (pc := 41) (dget kX9_part 22 rfl) 3 rfl ?_
    obtain ⟨q_5, h⟩ := h
    refine wr_ldiv (pc := 43) (dget kX9_part 23 rfl) q_5 ?_
    exact wr_lret (pc := 44) rfl (dget kX9_part 24 rfl) ⟨_, rfl, h⟩
def vX9_finds (p1 : Int32) (σ : Hp) (post : Int32 → Hp → Prop) : Prop := (∀ σ_1 : Hp, σ_1 = wI σ 71 4 p1 → post ((-10 : Int32) - p1) σ_1)
set_option maxHeartbeats 4000000 in
set_option maxRecDepth 100000 in
theorem tX9_finds {G : GT} {p1 : Int32} {σ : Hp} {post : Int32 → Hp → Prop} (h : vX9_finds p1 σ post) : CT G mX9_finds [.ref (G.1 71), .int p1] σ (LI post) := by
  refine CT.of (by decide +kernel) (Nat.le_of_ble_eq_true rfl) ?_
  show WP G mX9_finds 0 [(0, .ref (G.1 71)), (1, .int p1)] [] σ (LI post)
  unfold vX9_finds at h
  refine wr_aload_n (pc := 0) (dget kX9_finds 0 rfl) 0 rfl ?_
  refine wr_iload_n (pc := 1) (dget kX9_finds 1 rfl) 1 rfl ?_
  refine wr_putI (pc := 2) fl_X9_79 kd_71 fk_9_4 (vp_nar_int _) rfl (dget kX9_finds 2 rfl) ?_
  refine wr_tops (fun σ_1 e_σ_1 => ?_)
  have h := h σ_1 e_σ_1
  refine wr_bipush (pc := 5) (dget kX9_finds 3 rfl) bp_m10 ?_
  refine wr_iload_n (pc := 7) (dget kX9_finds 4 rfl) 1 rfl ?_
  refine wr_isub (pc := 8) (dget kX9_finds 5 rfl) ?_
  exact wr_iret (pc := 9) rfl (dget kX9_finds 6 rfl) ⟨_, rfl, h⟩
def vX9_isSheet (p1 : Int32) (σ : Hp) (post : Int32 → Hp → Prop) : Prop := (vX9_in p1.toInt64 (0 : Int64) (3 : Int64) σ (fun r_2 σ_1 => ((r_2 = 0 ∨ r_2 = 1) ∧ post r_2 σ_1)))
set_option maxHeartbeats 4000000 in
set_option maxRecDepth 100000 in
theorem tX9_isSheet {G : GT} {p1 : Int32} {σ : Hp} {post : Int32 → Hp → Prop} (h : vX9_isSheet p1 σ post) : CT G mX9_isSheet [.int p1] σ (LI post) := by
  refine CT.of (by decide +kernel) (Nat.le_of_ble_eq_true rfl) ?_
  show WP G mX9_isSheet 0 [(0, .int p1)] [] σ (LI post)
  unfold vX9_isSheet at h
  refine wr_iload_n (pc := 0) (dget kX9_isSheet 0 rfl) 0 rfl ?_
  refine wr_i2l (pc := 1) (dget kX9_isSheet 1 rfl) rfl ?_
  refine wr_lconst (pc := 2) (dget kX9_isSheet 2 rfl) lc_0 ?_
  refine wr_ldc2 (pc := 3) kl_X9_83 (dget kX9_isSheet 3 rfl) ?_
  refine wr_callSi (pc := 6) (Mc := mX9_in) (rest := []) cf_X9_75 cs_X9_in ⟨Nat.le_of_ble_eq_true rfl, Nat.le_of_ble_eq_true rfl⟩ rfl rfl (Nat.le_of_ble_eq_true rfl) (dget kX9_isSheet 4 rfl) (tX9_in h) (fun r_2 σ_1 h => ?_)
  obtain ⟨q_3, h⟩ := h
  exact wr_zret (pc := 9) rfl (nar_z q_3) (dget kX9_isSheet 5 rfl) ⟨_, rfl, h⟩
def vX9_sheet_55 (post : Int32 → Hp → Prop) (ex : Hp → Prop) (x1 : Int32) (x3 : Int32) : Nat → Int32 → Hp → Prop
  | 0 => fun _ _ => False
  | n + 1 => fun x4 σ => ((x3 ≤ x4 → (ex σ)) ∧ (¬ x3 ≤ x4 → (vp_in (((60 : Int32) * x1) + x4) 240 ∧ ∀ σ_3 : Hp, σ_3 = wI σ 74 ((((60 : Int32) * x1) + x4)).toNatClampNeg (0 : Int32) → (∀ x4_4 : Int32, x4_4 = x4 + (1 : Int32) → vX9_sheet_55 post ex x1 x3 n x4_4 σ_3))))
set_option maxHeartbeats 4000000 in
set_option maxRecDepth 100000 in
theorem tX9_sheet_55 {G : GT} {post : Int32 → Hp → Prop} {ex : Hp → Prop} {x1 : Int32} {x3 : Int32} (hex : ∀  (τ : Hp), ex  τ → WP G mX9_sheet 80 [(3, .int x3)] [] τ (LI post)) : ∀ (n : Nat) (x4 : Int32) (σ : Hp), vX9_sheet_55 post ex x1 x3 n x4 σ → WP G mX9_sheet 55 [(0, .ref (G.1 71)), (1, .int x1), (3, .int x3), (4, .int x4)] [] σ (LI post) := by
  intro n
  induction n with
  | zero => intro x4 σ h; exact False.elim h
  | succ n ih =>
    intro x4 σ h
    simp only [vX9_sheet_55] at h
    refine wr_iload (pc := 55) (dget kX9_sheet 32 rfl) 3 rfl ?_
    refine wr_iload_n (pc := 57) (dget kX9_sheet 33 rfl) 2 rfl ?_
    refine wr_icmp_ge (pc := 58) (tgt := 80) (dget kX9_sheet 34 rfl) (by decide) (fun c_1 => ?_) (fun c_1 => ?_)
    · have h := h.1 c_1
      refine wr_sub [2] rfl ?_
      exact hex  _ h
    · have h := h.2 c_1
      refine wr_aload_n (pc := 61) (dget kX9_sheet 35 rfl) 0 rfl ?_
      refine wr_getRl (pc := 62) fl_X9_16 kd_71 fk_9_2 rt_71_2 (dget kX9_sheet 36 rfl) ?_
      refine wr_bipush (pc := 65) (dget kX9_sheet 37 rfl) bp_60 ?_
      refine wr_iload_n (pc := 67) (dget kX9_sheet 38 rfl) 1 rfl ?_
      refine wr_imul (pc := 68) (dget kX9_sheet 39 rfl) ?_
      refine wr_iload (pc := 69) (dget kX9_sheet 40 rfl) 3 rfl ?_
      refine wr_iadd (pc := 71) (dget kX9_sheet 41 rfl) ?_
      refine wr_iconst (pc := 72) (dget kX9_sheet 42 rfl) ic_0 ?_
      obtain ⟨q_2, h⟩ := h
      refine wr_iastl (pc := 73) il_74 q_2 (dget kX9_sheet 43 rfl) ?_
      refine wr_tops (fun σ_3 e_σ_3 => ?_)
      have h := h σ_3 e_σ_3
      obtain ⟨x4_4, e_x4_4⟩ : ∃ y : Int32, y = x4 + (1 : Int32) := ⟨_, rfl⟩
      have h := h x4_4 e_x4_4
      refine wr_iinc (pc := 74) (v := x4_4) (lv' := [(4, .int x4_4), (0, .ref (G.1 71)), (1, .int x1), (3, .int x3)]) (dget kX9_sheet 44 rfl) 3 rfl (by rw [e_x4_4, ic_1]) (by decide) rfl ?_
      refine wr_goto (pc := 77) (tgt := 55) (dget kX9_sheet 45 rfl) (by decide) ?_
      refine wr_sub [1, 2, 3, 0] rfl ?_
      exact ih _ _ h
def vX9_sheet (p1 : Int32) (p2 : Int32) (p3 : Int32) (σ : Hp) (post : Int32 → Hp → Prop) : Prop := (vX9_isSheet p1 σ (fun r_2 σ_1 => ((r_2 = 0 → post (-2 : Int32) σ_1) ∧ (¬ r_2 = 0 → (vX9_in p2.toInt64 (0 : Int64) (2 : Int64) σ_1 (fun r_5 σ_4 => ((r_5 = 0 → post (-2 : Int32) σ_4) ∧ (¬ r_5 = 0 → ((p3 ≤ (60 : Int32) → ((0 ≤ p3 → (vp_in p1 4 ∧ ∀ σ_10 : Hp, σ_10 = wI σ_4 72 p1.toNatClampNeg p2 → (vp_in p1 4 ∧ ∀ σ_12 : Hp, σ_12 = wI σ_10 73 p1.toNatClampNeg p3 → (∃ fu : Nat, vX9_sheet_55 post (fun σ_13 => post p3 σ_13) p1 p3 fu (0 : Int32) σ_12)))) ∧ (¬ 0 ≤ p3 → (vX9_finds (5 : Int32) σ_4 (fun r_15 σ_14 => post r_15 σ_14))))) ∧ (¬ p3 ≤ (60 : Int32) → post (-2 : Int32) σ_4))))))))))
set_option maxHeartbeats 4000000 in
set_option maxRecDepth 100000 in
theorem tX9_sheet {G : GT} {p1 : Int32} {p2 : Int32} {p3 : Int32} {σ : Hp} {post : Int32 → Hp → Prop} (h : vX9_sheet p1 p2 p3 σ post) : CT G mX9_sheet [.ref (G.1 71), .int p1, .int p2, .int p3] σ (LI post) := by
  refine CT.of (by decide +kernel) (Nat.le_of_ble_eq_true rfl) ?_
  show WP G mX9_sheet 0 [(0, .ref (G.1 71)), (1, .int p1), (2, .int p2), (3, .int p3)] [] σ (LI post)
  unfold vX9_sheet at h
  refine wr_iload_n (pc := 0) (dget kX9_sheet 0 rfl) 1 rfl ?_
  refine wr_callSi (pc := 1) (Mc := mX9_isSheet) (rest := []) cf_X9_85 cs_X9_isSheet ⟨Nat.le_of_ble_eq_true rfl, Nat.le_of_ble_eq_true rfl⟩ rfl rfl (Nat.le_of_ble_eq_true rfl) (dget kX9_sheet 1 rfl) (tX9_isSheet h) (fun r_2 σ_1 h => ?_)
  refine wr_if_eq (pc := 4) (tgt := 25) (dget kX9_sheet 2 rfl) (by decide) (fun c_3 => ?_) (fun c_3 => ?_)
  · have h := h.1 c_3
    refine wr_bipush (pc := 25) (dget kX9_sheet 12 rfl) bp_m2 ?_
    exact wr_iret (pc := 27) rfl (dget kX9_sheet 13 rfl) ⟨_, rfl, h⟩
  · have h := h.2 c_3
    refine wr_iload_n (pc := 7) (dget kX9_sheet 3 rfl) 2 rfl ?_
    refine wr_i2l (pc := 8) (dget kX9_sheet 4 rfl) rfl ?_
    refine wr_lconst (pc := 9) (dget kX9_sheet 5 rfl) lc_0 ?_
    refine wr_ldc2 (pc := 10) kl_X9_89 (dget kX9_sheet 6 rfl) ?_
    refine wr_callSi (pc := 13) (Mc := mX9_in) (rest := []) cf_X9_75 cs_X9_in ⟨Nat.le_of_ble_eq_true rfl, Nat.le_of_ble_eq_true rfl⟩ rfl rfl (Nat.le_of_ble_eq_true rfl) (dget kX9_sheet 7 rfl) (tX9_in h) (fun r_5 σ_4 h => ?_)
    refine wr_if_eq (pc := 16) (tgt := 25) (dget kX9_sheet 8 rfl) (by decide) (fun c_6 => ?_) (fun c_6 => ?_)
    · have h := h.1 c_6
      refine wr_bipush (pc := 25) (dget kX9_sheet 12 rfl) bp_m2 ?_
      exact wr_iret (pc := 27) rfl (dget kX9_sheet 13 rfl) ⟨_, rfl, h⟩
    · have h := h.2 c_6
      refine wr_iload_n (pc := 19) (dget kX9_sheet 9 rfl) 3 rfl ?_
      refine wr_bipush (pc := 20) (dget kX9_sheet 10 rfl) bp_60 ?_
      refine wr_icmp_le (pc := 22) (tgt := 28) (dget kX9_sheet 11 rfl) (by decide) (fun c_7 => ?_) (fun c_7 => ?_)
      · have h := h.1 c_7
        refine wr_iload_n (pc := 28) (dget kX9_sheet 14 rfl) 3 rfl ?_
        refine wr_if_ge (pc := 29) (tgt := 38) (dget kX9_sheet 15 rfl) (by decide) (fun c_8 => ?_) (fun c_8 => ?_)
        · have h := h.1 c_8
          refine wr_aload_n (pc := 38) (dget kX9_sheet 20 rfl) 0 rfl ?_
          refine wr_getRl (pc := 39) fl_X9_7 kd_71 fk_9_0 rt_71_0 (dget kX9_sheet 21 rfl) ?_
          refine wr_iload_n (pc := 42) (dget kX9_sheet 22 rfl) 1 rfl ?_
          refine wr_iload_n (pc := 43) (dget kX9_sheet 23 rfl) 2 rfl ?_
          obtain ⟨q_9, h⟩ := h
          refine wr_iastl (pc := 44) il_72 q_9 (dget kX9_sheet 24 rfl) ?_
          refine wr_tops (fun σ_10 e_σ_10 => ?_)
          have h := h σ_10 e_σ_10
          refine wr_aload_n (pc := 45) (dget kX9_sheet 25 rfl) 0 rfl ?_
          refine wr_getRl (pc := 46) fl_X9_13 kd_71 fk_9_1 rt_71_1 (dget kX9_sheet 26 rfl) ?_
          refine wr_iload_n (pc := 49) (dget kX9_sheet 27 rfl) 1 rfl ?_
          refine wr_iload_n (pc := 50) (dget kX9_sheet 28 rfl) 3 rfl ?_
          obtain ⟨q_11, h⟩ := h
          refine wr_iastl (pc := 51) il_73 q_11 (dget kX9_sheet 29 rfl) ?_
          refine wr_tops (fun σ_12 e_σ_12 => ?_)
          have h := h σ_12 e_σ_12
          refine wr_iconst (pc := 52) (dget kX9_sheet 30 rfl) ic_0 ?_
          refine wr_istore (pc := 53) (lv' := [(4, .int (0 : Int32)), (0, .ref (G.1 71)), (1, .int p1), (2, .int p2), (3, .int p3)]) (dget kX9_sheet 31 rfl) (by decide) rfl ?_
          obtain ⟨fu, h⟩ := h
          refine wr_sub [1, 2, 4, 0] rfl ?_
          refine tX9_sheet_55 (fun σ_13 h => ?_) fu _ _ h
          refine wr_iload_n (pc := 80) (dget kX9_sheet 46 rfl) 0 rfl ?_
          exact wr_iret (pc := 81) rfl (dget kX9_sheet 47 rfl) ⟨_, rfl, h⟩
        · have h := h.2 c_8
          refine wr_aload_n (pc := 32) (dget kX9_sheet 16 rfl) 0 rfl ?_
          refine wr_iconst (pc := 33) (dget kX9_sheet 17 rfl) ic_5 ?_
          refine wr_callVi (pc := 34) (Mc := mX9_finds) (o := 71) (rest := []) cf_X9_91 cv_X9_finds kd_71 rfl ⟨Nat.le_of_ble_eq_true rfl, Nat.le_of_ble_eq_true rfl⟩ rfl rfl (Nat.le_of_ble_eq_true rfl) (dget kX9_sheet 18 rfl) (tX9_finds h) (fun r_15 σ_14 h => ?_)
          exact wr_iret (pc := 37) rfl (dget kX9_sheet 19 rfl) ⟨_, rfl, h⟩
      · have h := h.2 c_7
        refine wr_bipush (pc := 25) (dget kX9_sheet 12 rfl) bp_m2 ?_
        exact wr_iret (pc := 27) rfl (dget kX9_sheet 13 rfl) ⟨_, rfl, h⟩
def vX9_lose (p1 : Int32) (σ : Hp) (post : Int32 → Hp → Prop) : Prop := (vX9_isSheet p1 σ (fun r_2 σ_1 => ((r_2 = 0 → post (-2 : Int32) σ_1) ∧ (¬ r_2 = 0 → (vp_in p1 4 ∧ ((0 ≤ (σ_1.1 72 p1.toNatClampNeg) → (vp_in p1 4 ∧ ∀ σ_7 : Hp, σ_7 = wI σ_1 72 p1.toNatClampNeg (-1 : Int32) → (vp_in p1 4 ∧ post (σ_7.1 73 p1.toNatClampNeg) σ_7))) ∧ (¬ 0 ≤ (σ_1.1 72 p1.toNatClampNeg) → (vX9_finds (1 : Int32) σ_1 (fun r_10 σ_9 => post r_10 σ_9)))))))))
set_option maxHeartbeats 4000000 in
set_option maxRecDepth 100000 in
theorem tX9_lose {G : GT} {p1 : Int32} {σ : Hp} {post : Int32 → Hp → Prop} (h : vX9_lose p1 σ post) : CT G mX9_lose [.ref (G.1 71), .int p1] σ (LI post) := by
  refine CT.of (by decide +kernel) (Nat.le_of_ble_eq_true rfl) ?_
  show WP G mX9_lose 0 [(0, .ref (G.1 71)), (1, .int p1)] [] σ (LI post)
  unfold vX9_lose at h
  refine wr_iload_n (pc := 0) (dget kX9_lose 0 rfl) 1 rfl ?_
  refine wr_callSi (pc := 1) (Mc := mX9_isSheet) (rest := []) cf_X9_85 cs_X9_isSheet ⟨Nat.le_of_ble_eq_true rfl, Nat.le_of_ble_eq_true rfl⟩ rfl rfl (Nat.le_of_ble_eq_true rfl) (dget kX9_lose 1 rfl) (tX9_isSheet h) (fun r_2 σ_1 h => ?_)
  refine wr_if_ne (pc := 4) (tgt := 10) (dget kX9_lose 2 rfl) (by decide) (fun c_3 => ?_) (fun c_3 => ?_)
  · have h := h.2 c_3
    refine wr_aload_n (pc := 10) (dget kX9_lose 5 rfl) 0 rfl ?_
    refine wr_getRl (pc := 11) fl_X9_7 kd_71 fk_9_0 rt_71_0 (dget kX9_lose 6 rfl) ?_
    refine wr_iload_n (pc := 14) (dget kX9_lose 7 rfl) 1 rfl ?_
    obtain ⟨q_4, h⟩ := h
    refine wr_ialdl (pc := 15) (σ := σ_1) il_72 q_4 (dget kX9_lose 8 rfl) ?_
    refine wr_if_ge (pc := 16) (tgt := 25) (dget kX9_lose 9 rfl) (by decide) (fun c_5 => ?_) (fun c_5 => ?_)
    · have h := h.1 c_5
      refine wr_aload_n (pc := 25) (dget kX9_lose 14 rfl) 0 rfl ?_
      refine wr_getRl (pc := 26) fl_X9_7 kd_71 fk_9_0 rt_71_0 (dget kX9_lose 15 rfl) ?_
      refine wr_iload_n (pc := 29) (dget kX9_lose 16 rfl) 1 rfl ?_
      refine wr_iconst (pc := 30) (dget kX9_lose 17 rfl) ic_m1 ?_
      obtain ⟨q_6, h⟩ := h
      refine wr_iastl (pc := 31) il_72 q_6 (dget kX9_lose 18 rfl) ?_
      refine wr_tops (fun σ_7 e_σ_7 => ?_)
      have h := h σ_7 e_σ_7
      refine wr_aload_n (pc := 32) (dget kX9_lose 19 rfl) 0 rfl ?_
      refine wr_getRl (pc := 33) fl_X9_13 kd_71 fk_9_1 rt_71_1 (dget kX9_lose 20 rfl) ?_
      refine wr_iload_n (pc := 36) (dget kX9_lose 21 rfl) 1 rfl ?_
      obtain ⟨q_8, h⟩ := h
      refine wr_ialdl (pc := 37) (σ := σ_7) il_73 q_8 (dget kX9_lose 22 rfl) ?_
      exact wr_iret (pc := 38) rfl (dget kX9_lose 23 rfl) ⟨_, rfl, h⟩
    · have h := h.2 c_5
      refine wr_aload_n (pc := 19) (dget kX9_lose 10 rfl) 0 rfl ?_
      refine wr_iconst (pc := 20) (dget kX9_lose 11 rfl) ic_1 ?_
      refine wr_callVi (pc := 21) (Mc := mX9_finds) (o := 71) (rest := []) cf_X9_91 cv_X9_finds kd_71 rfl ⟨Nat.le_of_ble_eq_true rfl, Nat.le_of_ble_eq_true rfl⟩ rfl rfl (Nat.le_of_ble_eq_true rfl) (dget kX9_lose 12 rfl) (tX9_finds h) (fun r_10 σ_9 h => ?_)
      exact wr_iret (pc := 24) rfl (dget kX9_lose 13 rfl) ⟨_, rfl, h⟩
  · have h := h.1 c_3
    refine wr_bipush (pc := 7) (dget kX9_lose 3 rfl) bp_m2 ?_
    exact wr_iret (pc := 9) rfl (dget kX9_lose 4 rfl) ⟨_, rfl, h⟩
def vX9_lacks (p1 : Int32) (p2 : Int32) (p3 : Int32) (σ : Hp) (post : Int32 → Hp → Prop) : Prop := (vp_in p1 4 ∧ ((0 ≤ (σ.1 72 p1.toNatClampNeg) → (vp_in p1 4 ∧ (((σ.1 72 p1.toNatClampNeg) = p2 → (vp_in p1 4 ∧ (vX9_in p3.toInt64 (0 : Int64) (((σ.1 73 p1.toNatClampNeg) - (1 : Int32))).toInt64 σ (fun r_7 σ_6 => ((r_7 = 0 → (vX9_finds (2 : Int32) σ_6 (fun r_10 σ_9 => post r_10 σ_9))) ∧ (¬ r_7 = 0 → post (0 : Int32) σ_6)))))) ∧ (¬ (σ.1 72 p1.toNatClampNeg) = p2 → (vX9_finds (3 : Int32) σ (fun r_12 σ_11 => post r_12 σ_11)))))) ∧ (¬ 0 ≤ (σ.1 72 p1.toNatClampNeg) → (vX9_finds (1 : Int32) σ (fun r_14 σ_13 => post r_14 σ_13)))))
set_option maxHeartbeats 4000000 in
set_option maxRecDepth 100000 in
theorem tX9_lacks {G : GT} {p1 : Int32} {p2 : Int32} {p3 : Int32} {σ : Hp} {post : Int32 → Hp → Prop} (h : vX9_lacks p1 p2 p3 σ post) : CT G mX9_lacks [.ref (G.1 71), .int p1, .int p2, .int p3] σ (LI post) := by
  refine CT.of (by decide +kernel) (Nat.le_of_ble_eq_true rfl) ?_
  show WP G mX9_lacks 0 [(0, .ref (G.1 71)), (1, .int p1), (2, .int p2), (3, .int p3)] [] σ (LI post)
  unfold vX9_lacks at h
  refine wr_aload_n (pc := 0) (dget kX9_lacks 0 rfl) 0 rfl ?_
  refine wr_getRl (pc := 1) fl_X9_7 kd_71 fk_9_0 rt_71_0 (dget kX9_lacks 1 rfl) ?_
  refine wr_iload_n (pc := 4) (dget kX9_lacks 2 rfl) 1 rfl ?_
  obtain ⟨q_1, h⟩ := h
  refine wr_ialdl (pc := 5) (σ := σ) il_72 q_1 (dget kX9_lacks 3 rfl) ?_
  refine wr_if_ge (pc := 6) (tgt := 15) (dget kX9_lacks 4 rfl) (by decide) (fun c_2 => ?_) (fun c_2 => ?_)
  · have h := h.1 c_2
    refine wr_aload_n (pc := 15) (dget kX9_lacks 9 rfl) 0 rfl ?_
    refine wr_getRl (pc := 16) fl_X9_7 kd_71 fk_9_0 rt_71_0 (dget kX9_lacks 10 rfl) ?_
    refine wr_iload_n (pc := 19) (dget kX9_lacks 11 rfl) 1 rfl ?_
    obtain ⟨q_3, h⟩ := h
    refine wr_ialdl (pc := 20) (σ := σ) il_72 q_3 (dget kX9_lacks 12 rfl) ?_
    refine wr_iload_n (pc := 21) (dget kX9_lacks 13 rfl) 2 rfl ?_
    refine wr_icmp_eq (pc := 22) (tgt := 31) (dget kX9_lacks 14 rfl) (by decide) (fun c_4 => ?_) (fun c_4 => ?_)
    · have h := h.1 c_4
      refine wr_iload_n (pc := 31) (dget kX9_lacks 19 rfl) 3 rfl ?_
      refine wr_i2l (pc := 32) (dget kX9_lacks 20 rfl) rfl ?_
      refine wr_lconst (pc := 33) (dget kX9_lacks 21 rfl) lc_0 ?_
      refine wr_aload_n (pc := 34) (dget kX9_lacks 22 rfl) 0 rfl ?_
      refine wr_getRl (pc := 35) fl_X9_13 kd_71 fk_9_1 rt_71_1 (dget kX9_lacks 23 rfl) ?_
      refine wr_iload_n (pc := 38) (dget kX9_lacks 24 rfl) 1 rfl ?_
      obtain ⟨q_5, h⟩ := h
      refine wr_ialdl (pc := 39) (σ := σ) il_73 q_5 (dget kX9_lacks 25 rfl) ?_
      refine wr_iconst (pc := 40) (dget kX9_lacks 26 rfl) ic_1 ?_
      refine wr_isub (pc := 41) (dget kX9_lacks 27 rfl) ?_
      refine wr_i2l (pc := 42) (dget kX9_lacks 28 rfl) rfl ?_
      refine wr_callSi (pc := 43) (Mc := mX9_in) (rest := []) cf_X9_75 cs_X9_in ⟨Nat.le_of_ble_eq_true rfl, Nat.le_of_ble_eq_true rfl⟩ rfl rfl (Nat.le_of_ble_eq_true rfl) (dget kX9_lacks 29 rfl) (tX9_in h) (fun r_7 σ_6 h => ?_)
      refine wr_if_eq (pc := 46) (tgt := 53) (dget kX9_lacks 30 rfl) (by decide) (fun c_8 => ?_) (fun c_8 => ?_)
      · have h := h.1 c_8
        refine wr_aload_n (pc := 53) (dget kX9_lacks 33 rfl) 0 rfl ?_
        refine wr_iconst (pc := 54) (dget kX9_lacks 34 rfl) ic_2 ?_
        refine wr_callVi (pc := 55) (Mc := mX9_finds) (o := 71) (rest := []) cf_X9_91 cv_X9_finds kd_71 rfl ⟨Nat.le_of_ble_eq_true rfl, Nat.le_of_ble_eq_true rfl⟩ rfl rfl (Nat.le_of_ble_eq_true rfl) (dget kX9_lacks 35 rfl) (tX9_finds h) (fun r_10 σ_9 h => ?_)
        exact wr_iret (pc := 58) rfl (dget kX9_lacks 36 rfl) ⟨_, rfl, h⟩
      · have h := h.2 c_8
        refine wr_iconst (pc := 49) (dget kX9_lacks 31 rfl) ic_0 ?_
        refine wr_goto (pc := 50) (tgt := 58) (dget kX9_lacks 32 rfl) (by decide) ?_
        exact wr_iret (pc := 58) rfl (dget kX9_lacks 36 rfl) ⟨_, rfl, h⟩
    · have h := h.2 c_4
      refine wr_aload_n (pc := 25) (dget kX9_lacks 15 rfl) 0 rfl ?_
      refine wr_iconst (pc := 26) (dget kX9_lacks 16 rfl) ic_3 ?_
      refine wr_callVi (pc := 27) (Mc := mX9_finds) (o := 71) (rest := []) cf_X9_91 cv_X9_finds kd_71 rfl ⟨Nat.le_of_ble_eq_true rfl, Nat.le_of_ble_eq_true rfl⟩ rfl rfl (Nat.le_of_ble_eq_true rfl) (dget kX9_lacks 17 rfl) (tX9_finds h) (fun r_12 σ_11 h => ?_)
      exact wr_iret (pc := 30) rfl (dget kX9_lacks 18 rfl) ⟨_, rfl, h⟩
  · have h := h.2 c_2
    refine wr_aload_n (pc := 9) (dget kX9_lacks 5 rfl) 0 rfl ?_
    refine wr_iconst (pc := 10) (dget kX9_lacks 6 rfl) ic_1 ?_
    refine wr_callVi (pc := 11) (Mc := mX9_finds) (o := 71) (rest := []) cf_X9_91 cv_X9_finds kd_71 rfl ⟨Nat.le_of_ble_eq_true rfl, Nat.le_of_ble_eq_true rfl⟩ rfl rfl (Nat.le_of_ble_eq_true rfl) (dget kX9_lacks 7 rfl) (tX9_finds h) (fun r_14 σ_13 h => ?_)
    exact wr_iret (pc := 14) rfl (dget kX9_lacks 8 rfl) ⟨_, rfl, h⟩
def vX9_cut (p1 : Int32) (p2 : Int32) (σ : Hp) (post : Int32 → Hp → Prop) : Prop := ((p1 = 0 → post p2.toInt8.toInt32 σ) ∧ (¬ p1 = 0 → ((p1 = (1 : Int32) → post p2.toInt16.toInt32 σ) ∧ (¬ p1 = (1 : Int32) → post p2 σ))))
set_option maxHeartbeats 4000000 in
set_option maxRecDepth 100000 in
theorem tX9_cut {G : GT} {p1 : Int32} {p2 : Int32} {σ : Hp} {post : Int32 → Hp → Prop} (h : vX9_cut p1 p2 σ post) : CT G mX9_cut [.int p1, .int p2] σ (LI post) := by
  refine CT.of (by decide +kernel) (Nat.le_of_ble_eq_true rfl) ?_
  show WP G mX9_cut 0 [(0, .int p1), (1, .int p2)] [] σ (LI post)
  unfold vX9_cut at h
  refine wr_iload_n (pc := 0) (dget kX9_cut 0 rfl) 0 rfl ?_
  refine wr_if_ne (pc := 1) (tgt := 9) (dget kX9_cut 1 rfl) (by decide) (fun c_1 => ?_) (fun c_1 => ?_)
  · have h := h.2 c_1
    refine wr_iload_n (pc := 9) (dget kX9_cut 5 rfl) 0 rfl ?_
    refine wr_iconst (pc := 10) (dget kX9_cut 6 rfl) ic_1 ?_
    refine wr_icmp_ne (pc := 11) (tgt := 19) (dget kX9_cut 7 rfl) (by decide) (fun c_2 => ?_) (fun c_2 => ?_)
    · have h := h.2 c_2
      refine wr_iload_n (pc := 19) (dget kX9_cut 11 rfl) 1 rfl ?_
      exact wr_iret (pc := 20) rfl (dget kX9_cut 12 rfl) ⟨_, rfl, h⟩
    · have h := h.1 c_2
      refine wr_iload_n (pc := 14) (dget kX9_cut 8 rfl) 1 rfl ?_
      refine wr_i2s (pc := 15) (dget kX9_cut 9 rfl) rfl ?_
      refine wr_goto (pc := 16) (tgt := 20) (dget kX9_cut 10 rfl) (by decide) ?_
      exact wr_iret (pc := 20) rfl (dget kX9_cut 12 rfl) ⟨_, rfl, h⟩
  · have h := h.1 c_1
    refine wr_iload_n (pc := 4) (dget kX9_cut 2 rfl) 1 rfl ?_
    refine wr_i2b (pc := 5) (dget kX9_cut 3 rfl) rfl ?_
    refine wr_goto (pc := 6) (tgt := 20) (dget kX9_cut 4 rfl) (by decide) ?_
    exact wr_iret (pc := 20) rfl (dget kX9_cut 12 rfl) ⟨_, rfl, h⟩
def vX9_lay (p1 : Int32) (p2 : Int32) (p3 : Int32) (p4 : Int32) (σ : Hp) (post : Int32 → Hp → Prop) : Prop := (vX9_isSheet p1 σ (fun r_2 σ_1 => ((r_2 = 0 → post (-2 : Int32) σ_1) ∧ (¬ r_2 = 0 → (vX9_in p2.toInt64 (0 : Int64) (2 : Int64) σ_1 (fun r_5 σ_4 => ((r_5 = 0 → post (-2 : Int32) σ_4) ∧ (¬ r_5 = 0 → (vX9_lacks p1 p2 p3 σ_4 (fun r_8 σ_7 => ((r_8 = 0 → (vX9_cut p2 p4 σ_7 (fun r_11 σ_10 => (vp_in (((60 : Int32) * p1) + p3) 240 ∧ ∀ σ_13 : Hp, σ_13 = wI σ_10 74 ((((60 : Int32) * p1) + p3)).toNatClampNeg r_11 → post (1 : Int32) σ_13)))) ∧ (¬ r_8 = 0 → post r_8 σ_7))))))))))))
set_option maxHeartbeats 4000000 in
set_option maxRecDepth 100000 in
theorem tX9_lay {G : GT} {p1 : Int32} {p2 : Int32} {p3 : Int32} {p4 : Int32} {σ : Hp} {post : Int32 → Hp → Prop} (h : vX9_lay p1 p2 p3 p4 σ post) : CT G mX9_lay [.ref (G.1 71), .int p1, .int p2, .int p3, .int p4] σ (LI post) := by
  refine CT.of (by decide +kernel) (Nat.le_of_ble_eq_true rfl) ?_
  show WP G mX9_lay 0 [(0, .ref (G.1 71)), (1, .int p1), (2, .int p2), (3, .int p3), (4, .int p4)] [] σ (LI post)
  unfold vX9_lay at h
  refine wr_iload_n (pc := 0) (dget kX9_lay 0 rfl) 1 rfl ?_
  refine wr_callSi (pc := 1) (Mc := mX9_isSheet) (rest := []) cf_X9_85 cs_X9_isSheet ⟨Nat.le_of_ble_eq_true rfl, Nat.le_of_ble_eq_true rfl⟩ rfl rfl (Nat.le_of_ble_eq_true rfl) (dget kX9_lay 1 rfl) (tX9_isSheet h) (fun r_2 σ_1 h => ?_)
  refine wr_if_eq (pc := 4) (tgt := 19) (dget kX9_lay 2 rfl) (by decide) (fun c_3 => ?_) (fun c_3 => ?_)
  · have h := h.1 c_3
    refine wr_bipush (pc := 19) (dget kX9_lay 9 rfl) bp_m2 ?_
    exact wr_iret (pc := 21) rfl (dget kX9_lay 10 rfl) ⟨_, rfl, h⟩
  · have h := h.2 c_3
    refine wr_iload_n (pc := 7) (dget kX9_lay 3 rfl) 2 rfl ?_
    refine wr_i2l (pc := 8) (dget kX9_lay 4 rfl) rfl ?_
    refine wr_lconst (pc := 9) (dget kX9_lay 5 rfl) lc_0 ?_
    refine wr_ldc2 (pc := 10) kl_X9_89 (dget kX9_lay 6 rfl) ?_
    refine wr_callSi (pc := 13) (Mc := mX9_in) (rest := []) cf_X9_75 cs_X9_in ⟨Nat.le_of_ble_eq_true rfl, Nat.le_of_ble_eq_true rfl⟩ rfl rfl (Nat.le_of_ble_eq_true rfl) (dget kX9_lay 7 rfl) (tX9_in h) (fun r_5 σ_4 h => ?_)
    refine wr_if_ne (pc := 16) (tgt := 22) (dget kX9_lay 8 rfl) (by decide) (fun c_6 => ?_) (fun c_6 => ?_)
    · have h := h.2 c_6
      refine wr_aload_n (pc := 22) (dget kX9_lay 11 rfl) 0 rfl ?_
      refine wr_iload_n (pc := 23) (dget kX9_lay 12 rfl) 1 rfl ?_
      refine wr_iload_n (pc := 24) (dget kX9_lay 13 rfl) 2 rfl ?_
      refine wr_iload_n (pc := 25) (dget kX9_lay 14 rfl) 3 rfl ?_
      refine wr_callVi (pc := 26) (Mc := mX9_lacks) (o := 71) (rest := []) cf_X9_95 cv_X9_lacks kd_71 rfl ⟨Nat.le_of_ble_eq_true rfl, Nat.le_of_ble_eq_true rfl⟩ rfl rfl (Nat.le_of_ble_eq_true rfl) (dget kX9_lay 15 rfl) (tX9_lacks h) (fun r_8 σ_7 h => ?_)
      refine wr_istore (pc := 29) (lv' := [(5, .int r_8), (0, .ref (G.1 71)), (1, .int p1), (2, .int p2), (3, .int p3), (4, .int p4)]) (dget kX9_lay 16 rfl) (by decide) rfl ?_
      refine wr_iload (pc := 31) (dget kX9_lay 17 rfl) 0 rfl ?_
      refine wr_if_eq (pc := 33) (tgt := 39) (dget kX9_lay 18 rfl) (by decide) (fun c_9 => ?_) (fun c_9 => ?_)
      · have h := h.1 c_9
        refine wr_aload_n (pc := 39) (dget kX9_lay 21 rfl) 1 rfl ?_
        refine wr_getRl (pc := 40) fl_X9_16 kd_71 fk_9_2 rt_71_2 (dget kX9_lay 22 rfl) ?_
        refine wr_bipush (pc := 43) (dget kX9_lay 23 rfl) bp_60 ?_
        refine wr_iload_n (pc := 45) (dget kX9_lay 24 rfl) 2 rfl ?_
        refine wr_imul (pc := 46) (dget kX9_lay 25 rfl) ?_
        refine wr_iload_n (pc := 47) (dget kX9_lay 26 rfl) 4 rfl ?_
        refine wr_iadd (pc := 48) (dget kX9_lay 27 rfl) ?_
        refine wr_iload_n (pc := 49) (dget kX9_lay 28 rfl) 3 rfl ?_
        refine wr_iload (pc := 50) (dget kX9_lay 29 rfl) 5 rfl ?_
        refine wr_callSi (pc := 52) (Mc := mX9_cut) (rest := [.int (((60 : Int32) * p1) + p3), .ref (G.1 74)]) cf_X9_99 cs_X9_cut ⟨Nat.le_of_ble_eq_true rfl, Nat.le_of_ble_eq_true rfl⟩ rfl rfl (Nat.le_of_ble_eq_true rfl) (dget kX9_lay 30 rfl) (tX9_cut h) (fun r_11 σ_10 h => ?_)
        obtain ⟨q_12, h⟩ := h
        refine wr_iastl (pc := 55) il_74 q_12 (dget kX9_lay 31 rfl) ?_
        refine wr_tops (fun σ_13 e_σ_13 => ?_)
        have h := h σ_13 e_σ_13
        refine wr_iconst (pc := 56) (dget kX9_lay 32 rfl) ic_1 ?_
        exact wr_iret (pc := 57) rfl (dget kX9_lay 33 rfl) ⟨_, rfl, h⟩
      · have h := h.2 c_9
        refine wr_iload (pc := 36) (dget kX9_lay 19 rfl) 0 rfl ?_
        exact wr_iret (pc := 38) rfl (dget kX9_lay 20 rfl) ⟨_, rfl, h⟩
    · have h := h.1 c_6
      refine wr_bipush (pc := 19) (dget kX9_lay 9 rfl) bp_m2 ?_
      exact wr_iret (pc := 21) rfl (dget kX9_lay 10 rfl) ⟨_, rfl, h⟩
def vX9_get (p1 : Int32) (p2 : Int32) (p3 : Int32) (σ : Hp) (post : Int32 → Hp → Prop) : Prop := (vX9_isSheet p1 σ (fun r_2 σ_1 => ((r_2 = 0 → post (-2147483648 : Int32) σ_1) ∧ (¬ r_2 = 0 → (vX9_in p2.toInt64 (0 : Int64) (2 : Int64) σ_1 (fun r_5 σ_4 => ((r_5 = 0 → post (-2147483648 : Int32) σ_4) ∧ (¬ r_5 = 0 → (vX9_lacks p1 p2 p3 σ_4 (fun r_8 σ_7 => ((r_8 = 0 → (vp_in (((60 : Int32) * p1) + p3) 240 ∧ post (σ_7.1 74 ((((60 : Int32) * p1) + p3)).toNatClampNeg) σ_7)) ∧ (¬ r_8 = 0 → post (-2147483648 : Int32) σ_7))))))))))))
set_option maxHeartbeats 4000000 in
set_option maxRecDepth 100000 in
theorem tX9_get {G : GT} {p1 : Int32} {p2 : Int32} {p3 : Int32} {σ : Hp} {post : Int32 → Hp → Prop} (h : vX9_get p1 p2 p3 σ post) : CT G mX9_get [.ref (G.1 71), .int p1, .int p2, .int p3] σ (LI post) := by
  refine CT.of (by decide +kernel) (Nat.le_of_ble_eq_true rfl) ?_
  show WP G mX9_get 0 [(0, .ref (G.1 71)), (1, .int p1), (2, .int p2), (3, .int p3)] [] σ (LI post)
  unfold vX9_get at h
  refine wr_iload_n (pc := 0) (dget kX9_get 0 rfl) 1 rfl ?_
  refine wr_callSi (pc := 1) (Mc := mX9_isSheet) (rest := []) cf_X9_85 cs_X9_isSheet ⟨Nat.le_of_ble_eq_true rfl, Nat.le_of_ble_eq_true rfl⟩ rfl rfl (Nat.le_of_ble_eq_true rfl) (dget kX9_get 1 rfl) (tX9_isSheet h) (fun r_2 σ_1 h => ?_)
  refine wr_if_eq (pc := 4) (tgt := 29) (dget kX9_get 2 rfl) (by decide) (fun c_3 => ?_) (fun c_3 => ?_)
  · have h := h.1 c_3
    refine wr_ldc (pc := 29) ki_X9_103 (dget kX9_get 15 rfl) ?_
    exact wr_iret (pc := 31) rfl (dget kX9_get 16 rfl) ⟨_, rfl, h⟩
  · have h := h.2 c_3
    refine wr_iload_n (pc := 7) (dget kX9_get 3 rfl) 2 rfl ?_
    refine wr_i2l (pc := 8) (dget kX9_get 4 rfl) rfl ?_
    refine wr_lconst (pc := 9) (dget kX9_get 5 rfl) lc_0 ?_
    refine wr_ldc2 (pc := 10) kl_X9_89 (dget kX9_get 6 rfl) ?_
    refine wr_callSi (pc := 13) (Mc := mX9_in) (rest := []) cf_X9_75 cs_X9_in ⟨Nat.le_of_ble_eq_true rfl, Nat.le_of_ble_eq_true rfl⟩ rfl rfl (Nat.le_of_ble_eq_true rfl) (dget kX9_get 7 rfl) (tX9_in h) (fun r_5 σ_4 h => ?_)
    refine wr_if_eq (pc := 16) (tgt := 29) (dget kX9_get 8 rfl) (by decide) (fun c_6 => ?_) (fun c_6 => ?_)
    · have h := h.1 c_6
      refine wr_ldc (pc := 29) ki_X9_103 (dget kX9_get 15 rfl) ?_
      exact wr_iret (pc := 31) rfl (dget kX9_get 16 rfl) ⟨_, rfl, h⟩
    · have h := h.2 c_6
      refine wr_aload_n (pc := 19) (dget kX9_get 9 rfl) 0 rfl ?_
      refine wr_iload_n (pc := 20) (dget kX9_get 10 rfl) 1 rfl ?_
      refine wr_iload_n (pc := 21) (dget kX9_get 11 rfl) 2 rfl ?_
      refine wr_iload_n (pc := 22) (dget kX9_get 12 rfl) 3 rfl ?_
      refine wr_callVi (pc := 23) (Mc := mX9_lacks) (o := 71) (rest := []) cf_X9_95 cv_X9_lacks kd_71 rfl ⟨Nat.le_of_ble_eq_true rfl, Nat.le_of_ble_eq_true rfl⟩ rfl rfl (Nat.le_of_ble_eq_true rfl) (dget kX9_get 13 rfl) (tX9_lacks h) (fun r_8 σ_7 h => ?_)
      refine wr_if_eq (pc := 26) (tgt := 32) (dget kX9_get 14 rfl) (by decide) (fun c_9 => ?_) (fun c_9 => ?_)
      · have h := h.1 c_9
        refine wr_aload_n (pc := 32) (dget kX9_get 17 rfl) 0 rfl ?_
        refine wr_getRl (pc := 33) fl_X9_16 kd_71 fk_9_2 rt_71_2 (dget kX9_get 18 rfl) ?_
        refine wr_bipush (pc := 36) (dget kX9_get 19 rfl) bp_60 ?_
        refine wr_iload_n (pc := 38) (dget kX9_get 20 rfl) 1 rfl ?_
        refine wr_imul (pc := 39) (dget kX9_get 21 rfl) ?_
        refine wr_iload_n (pc := 40) (dget kX9_get 22 rfl) 3 rfl ?_
        refine wr_iadd (pc := 41) (dget kX9_get 23 rfl) ?_
        obtain ⟨q_10, h⟩ := h
        refine wr_ialdl (pc := 42) (σ := σ_7) il_74 q_10 (dget kX9_get 24 rfl) ?_
        exact wr_iret (pc := 43) rfl (dget kX9_get 25 rfl) ⟨_, rfl, h⟩
      · have h := h.2 c_9
        refine wr_ldc (pc := 29) ki_X9_103 (dget kX9_get 15 rfl) ?_
        exact wr_iret (pc := 31) rfl (dget kX9_get 16 rfl) ⟨_, rfl, h⟩
def vX9_copy_157 (post : Int32 → Hp → Prop) (ex : Hp → Prop) (x3 : Int32) (x4 : Int32) (x5 : Int32) : Nat → Int32 → Hp → Prop
  | 0 => fun _ _ => False
  | n + 1 => fun x6 σ => ((x5 ≤ x6 → (ex σ)) ∧ (¬ x5 ≤ x6 → (vp_in x6 60 ∧ (vp_in ((((60 : Int32) * x3) + x4) + x6) 240 ∧ ∀ σ_4 : Hp, σ_4 = wI σ 74 (((((60 : Int32) * x3) + x4) + x6)).toNatClampNeg (σ.1 75 x6.toNatClampNeg) → (∀ x6_5 : Int32, x6_5 = x6 + (1 : Int32) → vX9_copy_157 post ex x3 x4 x5 n x6_5 σ_4)))))
set_option maxHeartbeats 4000000 in
set_option maxRecDepth 100000 in
theorem tX9_copy_157 {G : GT} {post : Int32 → Hp → Prop} {ex : Hp → Prop} {x3 : Int32} {x4 : Int32} {x5 : Int32} (hex : ∀  (τ : Hp), ex  τ → WP G mX9_copy 192 [] [] τ (LI post)) : ∀ (n : Nat) (x6 : Int32) (σ : Hp), vX9_copy_157 post ex x3 x4 x5 n x6 σ → WP G mX9_copy 157 [(0, .ref (G.1 71)), (3, .int x3), (4, .int x4), (5, .int x5), (6, .int x6)] [] σ (LI post) := by
  intro n
  induction n with
  | zero => intro x6 σ h; exact False.elim h
  | succ n ih =>
    intro x6 σ h
    simp only [vX9_copy_157] at h
    refine wr_iload (pc := 157) (dget kX9_copy 92 rfl) 4 rfl ?_
    refine wr_iload (pc := 159) (dget kX9_copy 93 rfl) 3 rfl ?_
    refine wr_icmp_ge (pc := 161) (tgt := 192) (dget kX9_copy 94 rfl) (by decide) (fun c_1 => ?_) (fun c_1 => ?_)
    · have h := h.1 c_1
      refine wr_sub [] rfl ?_
      exact hex  _ h
    · have h := h.2 c_1
      refine wr_aload_n (pc := 164) (dget kX9_copy 95 rfl) 0 rfl ?_
      refine wr_getRl (pc := 165) fl_X9_16 kd_71 fk_9_2 rt_71_2 (dget kX9_copy 96 rfl) ?_
      refine wr_bipush (pc := 168) (dget kX9_copy 97 rfl) bp_60 ?_
      refine wr_iload_n (pc := 170) (dget kX9_copy 98 rfl) 1 rfl ?_
      refine wr_imul (pc := 171) (dget kX9_copy 99 rfl) ?_
      refine wr_iload (pc := 172) (dget kX9_copy 100 rfl) 2 rfl ?_
      refine wr_iadd (pc := 174) (dget kX9_copy 101 rfl) ?_
      refine wr_iload (pc := 175) (dget kX9_copy 102 rfl) 4 rfl ?_
      refine wr_iadd (pc := 177) (dget kX9_copy 103 rfl) ?_
      refine wr_aload_n (pc := 178) (dget kX9_copy 104 rfl) 0 rfl ?_
      refine wr_getRl (pc := 179) fl_X9_19 kd_71 fk_9_3 rt_71_3 (dget kX9_copy 105 rfl) ?_
      refine wr_iload (pc := 182) (dget kX9_copy 106 rfl) 4 rfl ?_
      obtain ⟨q_2, h⟩ := h
      refine wr_ialdl (pc := 184) (σ := σ) il_75 q_2 (dget kX9_copy 107 rfl) ?_
      obtain ⟨q_3, h⟩ := h
      refine wr_iastl (pc := 185) il_74 q_3 (dget kX9_copy 108 rfl) ?_
      refine wr_tops (fun σ_4 e_σ_4 => ?_)
      have h := h σ_4 e_σ_4
      obtain ⟨x6_5, e_x6_5⟩ : ∃ y : Int32, y = x6 + (1 : Int32) := ⟨_, rfl⟩
      have h := h x6_5 e_x6_5
      refine wr_iinc (pc := 186) (v := x6_5) (lv' := [(6, .int x6_5), (0, .ref (G.1 71)), (3, .int x3), (4, .int x4), (5, .int x5)]) (dget kX9_copy 109 rfl) 4 rfl (by rw [e_x6_5, ic_1]) (by decide) rfl ?_
      refine wr_goto (pc := 189) (tgt := 157) (dget kX9_copy 110 rfl) (by decide) ?_
      refine wr_sub [1, 2, 3, 4, 0] rfl ?_
      exact ih _ _ h
def vX9_copy_120 (post : Int32 → Hp → Prop) (ex : Hp → Prop) (x1 : Int32) (x2 : Int32) (x3 : Int32) (x4 : Int32) (x5 : Int32) : Nat → Int32 → Hp → Prop
  | 0 => fun _ _ => False
  | n + 1 => fun x6 σ => ((x5 ≤ x6 → (ex σ)) ∧ (¬ x5 ≤ x6 → (vp_in ((((60 : Int32) * x1) + x2) + x6) 240 ∧ (vp_in x6 60 ∧ ∀ σ_4 : Hp, σ_4 = wI σ 75 x6.toNatClampNeg (σ.1 74 (((((60 : Int32) * x1) + x2) + x6)).toNatClampNeg) → (∀ x6_5 : Int32, x6_5 = x6 + (1 : Int32) → vX9_copy_120 post ex x1 x2 x3 x4 x5 n x6_5 σ_4)))))
set_option maxHeartbeats 4000000 in
set_option maxRecDepth 100000 in
theorem tX9_copy_120 {G : GT} {post : Int32 → Hp → Prop} {ex : Hp → Prop} {x1 : Int32} {x2 : Int32} {x3 : Int32} {x4 : Int32} {x5 : Int32} (hex : ∀  (τ : Hp), ex  τ → WP G mX9_copy 154 [(0, .ref (G.1 71)), (3, .int x3), (4, .int x4), (5, .int x5)] [] τ (LI post)) : ∀ (n : Nat) (x6 : Int32) (σ : Hp), vX9_copy_120 post ex x1 x2 x3 x4 x5 n x6 σ → WP G mX9_copy 120 [(0, .ref (G.1 71)), (1, .int x1), (2, .int x2), (3, .int x3), (4, .int x4), (5, .int x5), (6, .int x6)] [] σ (LI post) := by
  intro n
  induction n with
  | zero => intro x6 σ h; exact False.elim h
  | succ n ih =>
    intro x6 σ h
    simp only [vX9_copy_120] at h
    refine wr_iload (pc := 120) (dget kX9_copy 71 rfl) 6 rfl ?_
    refine wr_iload (pc := 122) (dget kX9_copy 72 rfl) 5 rfl ?_
    refine wr_icmp_ge (pc := 124) (tgt := 154) (dget kX9_copy 73 rfl) (by decide) (fun c_1 => ?_) (fun c_1 => ?_)
    · have h := h.1 c_1
      refine wr_sub [0, 3, 4, 5] rfl ?_
      exact hex  _ h
    · have h := h.2 c_1
      refine wr_aload_n (pc := 127) (dget kX9_copy 74 rfl) 0 rfl ?_
      refine wr_getRl (pc := 128) fl_X9_19 kd_71 fk_9_3 rt_71_3 (dget kX9_copy 75 rfl) ?_
      refine wr_iload (pc := 131) (dget kX9_copy 76 rfl) 6 rfl ?_
      refine wr_aload_n (pc := 133) (dget kX9_copy 77 rfl) 0 rfl ?_
      refine wr_getRl (pc := 134) fl_X9_16 kd_71 fk_9_2 rt_71_2 (dget kX9_copy 78 rfl) ?_
      refine wr_bipush (pc := 137) (dget kX9_copy 79 rfl) bp_60 ?_
      refine wr_iload_n (pc := 139) (dget kX9_copy 80 rfl) 1 rfl ?_
      refine wr_imul (pc := 140) (dget kX9_copy 81 rfl) ?_
      refine wr_iload_n (pc := 141) (dget kX9_copy 82 rfl) 2 rfl ?_
      refine wr_iadd (pc := 142) (dget kX9_copy 83 rfl) ?_
      refine wr_iload (pc := 143) (dget kX9_copy 84 rfl) 6 rfl ?_
      refine wr_iadd (pc := 145) (dget kX9_copy 85 rfl) ?_
      obtain ⟨q_2, h⟩ := h
      refine wr_ialdl (pc := 146) (σ := σ) il_74 q_2 (dget kX9_copy 86 rfl) ?_
      obtain ⟨q_3, h⟩ := h
      refine wr_iastl (pc := 147) il_75 q_3 (dget kX9_copy 87 rfl) ?_
      refine wr_tops (fun σ_4 e_σ_4 => ?_)
      have h := h σ_4 e_σ_4
      obtain ⟨x6_5, e_x6_5⟩ : ∃ y : Int32, y = x6 + (1 : Int32) := ⟨_, rfl⟩
      have h := h x6_5 e_x6_5
      refine wr_iinc (pc := 148) (v := x6_5) (lv' := [(6, .int x6_5), (0, .ref (G.1 71)), (1, .int x1), (2, .int x2), (3, .int x3), (4, .int x4), (5, .int x5)]) (dget kX9_copy 88 rfl) 6 rfl (by rw [e_x6_5, ic_1]) (by decide) rfl ?_
      refine wr_goto (pc := 151) (tgt := 120) (dget kX9_copy 89 rfl) (by decide) ?_
      refine wr_sub [1, 2, 3, 4, 5, 6, 0] rfl ?_
      exact ih _ _ h
def vX9_copy (p1 : Int32) (p2 : Int32) (p3 : Int32) (p4 : Int32) (p5 : Int32) (σ : Hp) (post : Int32 → Hp → Prop) : Prop := (vX9_isSheet p1 σ (fun r_2 σ_1 => ((r_2 = 0 → post (-2 : Int32) σ_1) ∧ (¬ r_2 = 0 → (vX9_isSheet p3 σ_1 (fun r_5 σ_4 => ((r_5 = 0 → post (-2 : Int32) σ_4) ∧ (¬ r_5 = 0 → (vp_in p1 4 ∧ (((σ_4.1 72 p1.toNatClampNeg) < 0 → (vX9_finds (1 : Int32) σ_4 (fun r_10 σ_9 => post r_10 σ_9))) ∧ (¬ (σ_4.1 72 p1.toNatClampNeg) < 0 → (vp_in p3 4 ∧ ((0 ≤ (σ_4.1 72 p3.toNatClampNeg) → (vp_in p1 4 ∧ (vp_in p3 4 ∧ (((σ_4.1 72 p1.toNatClampNeg) = (σ_4.1 72 p3.toNatClampNeg) → ((p2 < 0 → (vX9_finds (2 : Int32) σ_4 (fun r_18 σ_17 => post r_18 σ_17))) ∧ (¬ p2 < 0 → ((p4 < 0 → (vX9_finds (2 : Int32) σ_4 (fun r_21 σ_20 => post r_21 σ_20))) ∧ (¬ p4 < 0 → ((p5 < 0 → (vX9_finds (2 : Int32) σ_4 (fun r_24 σ_23 => post r_24 σ_23))) ∧ (¬ p5 < 0 → (vp_in p1 4 ∧ ((0 < (lg_cmp (p2.toInt64 + p5.toInt64) ((σ_4.1 73 p1.toNatClampNeg)).toInt64) → (vX9_finds (2 : Int32) σ_4 (fun r_28 σ_27 => post r_28 σ_27))) ∧ (¬ 0 < (lg_cmp (p2.toInt64 + p5.toInt64) ((σ_4.1 73 p1.toNatClampNeg)).toInt64) → (vp_in p3 4 ∧ (((lg_cmp (p4.toInt64 + p5.toInt64) ((σ_4.1 73 p3.toNatClampNeg)).toInt64) ≤ 0 → (∃ fu : Nat, vX9_copy_120 post (fun σ_31 => (∃ fu : Nat, vX9_copy_157 post (fun σ_32 => post (1 : Int32) σ_32) p3 p4 p5 fu (0 : Int32) σ_31)) p1 p2 p3 p4 p5 fu (0 : Int32) σ_4)) ∧ (¬ (lg_cmp (p4.toInt64 + p5.toInt64) ((σ_4.1 73 p3.toNatClampNeg)).toInt64) ≤ 0 → (vX9_finds (2 : Int32) σ_4 (fun r_34 σ_33 => post r_34 σ_33))))))))))))))) ∧ (¬ (σ_4.1 72 p1.toNatClampNeg) = (σ_4.1 72 p3.toNatClampNeg) → (vX9_finds (4 : Int32) σ_4 (fun r_36 σ_35 => post r_36 σ_35))))))) ∧ (¬ 0 ≤ (σ_4.1 72 p3.toNatClampNeg) → (vX9_finds (1 : Int32) σ_4 (fun r_38 σ_37 => post r_38 σ_37))))))))))))))))
set_option maxHeartbeats 4000000 in
set_option maxRecDepth 100000 in
theorem tX9_copy {G : GT} {p1 : Int32} {p2 : Int32} {p3 : Int32} {p4 : Int32} {p5 : Int32} {σ : Hp} {post : Int32 → Hp → Prop} (h : vX9_copy p1 p2 p3 p4 p5 σ post) : CT G mX9_copy [.ref (G.1 71), .int p1, .int p2, .int p3, .int p4, .int p5] σ (LI post) := by
  refine CT.of (by decide +kernel) (Nat.le_of_ble_eq_true rfl) ?_
  show WP G mX9_copy 0 [(0, .ref (G.1 71)), (1, .int p1), (2, .int p2), (3, .int p3), (4, .int p4), (5, .int p5)] [] σ (LI post)
  unfold vX9_copy at h
  refine wr_iload_n (pc := 0) (dget kX9_copy 0 rfl) 1 rfl ?_
  refine wr_callSi (pc := 1) (Mc := mX9_isSheet) (rest := []) cf_X9_85 cs_X9_isSheet ⟨Nat.le_of_ble_eq_true rfl, Nat.le_of_ble_eq_true rfl⟩ rfl rfl (Nat.le_of_ble_eq_true rfl) (dget kX9_copy 1 rfl) (tX9_isSheet h) (fun r_2 σ_1 h => ?_)
  refine wr_if_eq (pc := 4) (tgt := 14) (dget kX9_copy 2 rfl) (by decide) (fun c_3 => ?_) (fun c_3 => ?_)
  · have h := h.1 c_3
    refine wr_bipush (pc := 14) (dget kX9_copy 6 rfl) bp_m2 ?_
    exact wr_iret (pc := 16) rfl (dget kX9_copy 7 rfl) ⟨_, rfl, h⟩
  · have h := h.2 c_3
    refine wr_iload_n (pc := 7) (dget kX9_copy 3 rfl) 3 rfl ?_
    refine wr_callSi (pc := 8) (Mc := mX9_isSheet) (rest := []) cf_X9_85 cs_X9_isSheet ⟨Nat.le_of_ble_eq_true rfl, Nat.le_of_ble_eq_true rfl⟩ rfl rfl (Nat.le_of_ble_eq_true rfl) (dget kX9_copy 4 rfl) (tX9_isSheet h) (fun r_5 σ_4 h => ?_)
    refine wr_if_ne (pc := 11) (tgt := 17) (dget kX9_copy 5 rfl) (by decide) (fun c_6 => ?_) (fun c_6 => ?_)
    · have h := h.2 c_6
      refine wr_aload_n (pc := 17) (dget kX9_copy 8 rfl) 0 rfl ?_
      refine wr_getRl (pc := 18) fl_X9_7 kd_71 fk_9_0 rt_71_0 (dget kX9_copy 9 rfl) ?_
      refine wr_iload_n (pc := 21) (dget kX9_copy 10 rfl) 1 rfl ?_
      obtain ⟨q_7, h⟩ := h
      refine wr_ialdl (pc := 22) (σ := σ_4) il_72 q_7 (dget kX9_copy 11 rfl) ?_
      refine wr_if_lt (pc := 23) (tgt := 35) (dget kX9_copy 12 rfl) (by decide) (fun c_8 => ?_) (fun c_8 => ?_)
      · have h := h.1 c_8
        refine wr_aload_n (pc := 35) (dget kX9_copy 18 rfl) 0 rfl ?_
        refine wr_iconst (pc := 36) (dget kX9_copy 19 rfl) ic_1 ?_
        refine wr_callVi (pc := 37) (Mc := mX9_finds) (o := 71) (rest := []) cf_X9_91 cv_X9_finds kd_71 rfl ⟨Nat.le_of_ble_eq_true rfl, Nat.le_of_ble_eq_true rfl⟩ rfl rfl (Nat.le_of_ble_eq_true rfl) (dget kX9_copy 20 rfl) (tX9_finds h) (fun r_10 σ_9 h => ?_)
        exact wr_iret (pc := 40) rfl (dget kX9_copy 21 rfl) ⟨_, rfl, h⟩
      · have h := h.2 c_8
        refine wr_aload_n (pc := 26) (dget kX9_copy 13 rfl) 0 rfl ?_
        refine wr_getRl (pc := 27) fl_X9_7 kd_71 fk_9_0 rt_71_0 (dget kX9_copy 14 rfl) ?_
        refine wr_iload_n (pc := 30) (dget kX9_copy 15 rfl) 3 rfl ?_
        obtain ⟨q_11, h⟩ := h
        refine wr_ialdl (pc := 31) (σ := σ_4) il_72 q_11 (dget kX9_copy 16 rfl) ?_
        refine wr_if_ge (pc := 32) (tgt := 41) (dget kX9_copy 17 rfl) (by decide) (fun c_12 => ?_) (fun c_12 => ?_)
        · have h := h.1 c_12
          refine wr_aload_n (pc := 41) (dget kX9_copy 22 rfl) 0 rfl ?_
          refine wr_getRl (pc := 42) fl_X9_7 kd_71 fk_9_0 rt_71_0 (dget kX9_copy 23 rfl) ?_
          refine wr_iload_n (pc := 45) (dget kX9_copy 24 rfl) 1 rfl ?_
          obtain ⟨q_13, h⟩ := h
          refine wr_ialdl (pc := 46) (σ := σ_4) il_72 q_13 (dget kX9_copy 25 rfl) ?_
          refine wr_aload_n (pc := 47) (dget kX9_copy 26 rfl) 0 rfl ?_
          refine wr_getRl (pc := 48) fl_X9_7 kd_71 fk_9_0 rt_71_0 (dget kX9_copy 27 rfl) ?_
          refine wr_iload_n (pc := 51) (dget kX9_copy 28 rfl) 3 rfl ?_
          obtain ⟨q_14, h⟩ := h
          refine wr_ialdl (pc := 52) (σ := σ_4) il_72 q_14 (dget kX9_copy 29 rfl) ?_
          refine wr_icmp_eq (pc := 53) (tgt := 62) (dget kX9_copy 30 rfl) (by decide) (fun c_15 => ?_) (fun c_15 => ?_)
          · have h := h.1 c_15
            refine wr_iload_n (pc := 62) (dget kX9_copy 35 rfl) 2 rfl ?_
            refine wr_if_lt (pc := 63) (tgt := 111) (dget kX9_copy 36 rfl) (by decide) (fun c_16 => ?_) (fun c_16 => ?_)
            · have h := h.1 c_16
              refine wr_aload_n (pc := 111) (dget kX9_copy 65 rfl) 0 rfl ?_
              refine wr_iconst (pc := 112) (dget kX9_copy 66 rfl) ic_2 ?_
              refine wr_callVi (pc := 113) (Mc := mX9_finds) (o := 71) (rest := []) cf_X9_91 cv_X9_finds kd_71 rfl ⟨Nat.le_of_ble_eq_true rfl, Nat.le_of_ble_eq_true rfl⟩ rfl rfl (Nat.le_of_ble_eq_true rfl) (dget kX9_copy 67 rfl) (tX9_finds h) (fun r_18 σ_17 h => ?_)
              exact wr_iret (pc := 116) rfl (dget kX9_copy 68 rfl) ⟨_, rfl, h⟩
            · have h := h.2 c_16
              refine wr_iload (pc := 66) (dget kX9_copy 37 rfl) 4 rfl ?_
              refine wr_if_lt (pc := 68) (tgt := 111) (dget kX9_copy 38 rfl) (by decide) (fun c_19 => ?_) (fun c_19 => ?_)
              · have h := h.1 c_19
                refine wr_aload_n (pc := 111) (dget kX9_copy 65 rfl) 0 rfl ?_
                refine wr_iconst (pc := 112) (dget kX9_copy 66 rfl) ic_2 ?_
                refine wr_callVi (pc := 113) (Mc := mX9_finds) (o := 71) (rest := []) cf_X9_91 cv_X9_finds kd_71 rfl ⟨Nat.le_of_ble_eq_true rfl, Nat.le_of_ble_eq_true rfl⟩ rfl rfl (Nat.le_of_ble_eq_true rfl) (dget kX9_copy 67 rfl) (tX9_finds h) (fun r_21 σ_20 h => ?_)
                exact wr_iret (pc := 116) rfl (dget kX9_copy 68 rfl) ⟨_, rfl, h⟩
              · have h := h.2 c_19
                refine wr_iload (pc := 71) (dget kX9_copy 39 rfl) 5 rfl ?_
                refine wr_if_lt (pc := 73) (tgt := 111) (dget kX9_copy 40 rfl) (by decide) (fun c_22 => ?_) (fun c_22 => ?_)
                · have h := h.1 c_22
                  refine wr_aload_n (pc := 111) (dget kX9_copy 65 rfl) 0 rfl ?_
                  refine wr_iconst (pc := 112) (dget kX9_copy 66 rfl) ic_2 ?_
                  refine wr_callVi (pc := 113) (Mc := mX9_finds) (o := 71) (rest := []) cf_X9_91 cv_X9_finds kd_71 rfl ⟨Nat.le_of_ble_eq_true rfl, Nat.le_of_ble_eq_true rfl⟩ rfl rfl (Nat.le_of_ble_eq_true rfl) (dget kX9_copy 67 rfl) (tX9_finds h) (fun r_24 σ_23 h => ?_)
                  exact wr_iret (pc := 116) rfl (dget kX9_copy 68 rfl) ⟨_, rfl, h⟩
                · have h := h.2 c_22
                  refine wr_iload_n (pc := 76) (dget kX9_copy 41 rfl) 2 rfl ?_
                  refine wr_i2l (pc := 77) (dget kX9_copy 42 rfl) rfl ?_
                  refine wr_iload (pc := 78) (dget kX9_copy 43 rfl) 5 rfl ?_
                  refine wr_i2l (pc := 80) (dget kX9_copy 44 rfl) rfl ?_
                  refine wr_ladd (pc := 81) (dget kX9_copy 45 rfl) ?_
                  refine wr_aload_n (pc := 82) (dget kX9_copy 46 rfl) 0 rfl ?_
                  refine wr_getRl (pc := 83) fl_X9_13 kd_71 fk_9_1 rt_71_1 (dget kX9_copy 47 rfl) ?_
                  refine wr_iload_n (pc := 86) (dget kX9_copy 48 rfl) 1 rfl ?_
                  obtain ⟨q_25, h⟩ := h
                  refine wr_ialdl (pc := 87) (σ := σ_4) il_73 q_25 (dget kX9_copy 49 rfl) ?_
                  refine wr_i2l (pc := 88) (dget kX9_copy 50 rfl) rfl ?_
                  refine wr_lcmp (pc := 89) (dget kX9_copy 51 rfl) ?_
                  refine wr_if_gt (pc := 90) (tgt := 111) (dget kX9_copy 52 rfl) (by decide) (fun c_26 => ?_) (fun c_26 => ?_)
                  · have h := h.1 c_26
                    refine wr_aload_n (pc := 111) (dget kX9_copy 65 rfl) 0 rfl ?_
                    refine wr_iconst (pc := 112) (dget kX9_copy 66 rfl) ic_2 ?_
                    refine wr_callVi (pc := 113) (Mc := mX9_finds) (o := 71) (rest := []) cf_X9_91 cv_X9_finds kd_71 rfl ⟨Nat.le_of_ble_eq_true rfl, Nat.le_of_ble_eq_true rfl⟩ rfl rfl (Nat.le_of_ble_eq_true rfl) (dget kX9_copy 67 rfl) (tX9_finds h) (fun r_28 σ_27 h => ?_)
                    exact wr_iret (pc := 116) rfl (dget kX9_copy 68 rfl) ⟨_, rfl, h⟩
                  · have h := h.2 c_26
                    refine wr_iload (pc := 93) (dget kX9_copy 53 rfl) 4 rfl ?_
                    refine wr_i2l (pc := 95) (dget kX9_copy 54 rfl) rfl ?_
                    refine wr_iload (pc := 96) (dget kX9_copy 55 rfl) 5 rfl ?_
                    refine wr_i2l (pc := 98) (dget kX9_copy 56 rfl) rfl ?_
                    refine wr_ladd (pc := 99) (dget kX9_copy 57 rfl) ?_
                    refine wr_aload_n (pc := 100) (dget kX9_copy 58 rfl) 0 rfl ?_
                    refine wr_getRl (pc := 101) fl_X9_13 kd_71 fk_9_1 rt_71_1 (dget kX9_copy 59 rfl) ?_
                    refine wr_iload_n (pc := 104) (dget kX9_copy 60 rfl) 3 rfl ?_
                    obtain ⟨q_29, h⟩ := h
                    refine wr_ialdl (pc := 105) (σ := σ_4) il_73 q_29 (dget kX9_copy 61 rfl) ?_
                    refine wr_i2l (pc := 106) (dget kX9_copy 62 rfl) rfl ?_
                    refine wr_lcmp (pc := 107) (dget kX9_copy 63 rfl) ?_
                    refine wr_if_le (pc := 108) (tgt := 117) (dget kX9_copy 64 rfl) (by decide) (fun c_30 => ?_) (fun c_30 => ?_)
                    · have h := h.1 c_30
                      refine wr_iconst (pc := 117) (dget kX9_copy 69 rfl) ic_0 ?_
                      refine wr_istore (pc := 118) (lv' := [(6, .int (0 : Int32)), (0, .ref (G.1 71)), (1, .int p1), (2, .int p2), (3, .int p3), (4, .int p4), (5, .int p5)]) (dget kX9_copy 70 rfl) (by decide) rfl ?_
                      obtain ⟨fu, h⟩ := h
                      refine wr_sub [1, 2, 3, 4, 5, 6, 0] rfl ?_
                      refine tX9_copy_120 (fun σ_31 h => ?_) fu _ _ h
                      refine wr_iconst (pc := 154) (dget kX9_copy 90 rfl) ic_0 ?_
                      refine wr_istore (pc := 155) (lv' := [(6, .int (0 : Int32)), (0, .ref (G.1 71)), (3, .int p3), (4, .int p4), (5, .int p5)]) (dget kX9_copy 91 rfl) (by decide) rfl ?_
                      obtain ⟨fu, h⟩ := h
                      refine wr_sub [1, 2, 3, 4, 0] rfl ?_
                      refine tX9_copy_157 (fun σ_32 h => ?_) fu _ _ h
                      refine wr_iconst (pc := 192) (dget kX9_copy 111 rfl) ic_1 ?_
                      exact wr_iret (pc := 193) rfl (dget kX9_copy 112 rfl) ⟨_, rfl, h⟩
                    · have h := h.2 c_30
                      refine wr_aload_n (pc := 111) (dget kX9_copy 65 rfl) 0 rfl ?_
                      refine wr_iconst (pc := 112) (dget kX9_copy 66 rfl) ic_2 ?_
                      refine wr_callVi (pc := 113) (Mc := mX9_finds) (o := 71) (rest := []) cf_X9_91 cv_X9_finds kd_71 rfl ⟨Nat.le_of_ble_eq_true rfl, Nat.le_of_ble_eq_true rfl⟩ rfl rfl (Nat.le_of_ble_eq_true rfl) (dget kX9_copy 67 rfl) (tX9_finds h) (fun r_34 σ_33 h => ?_)
                      exact wr_iret (pc := 116) rfl (dget kX9_copy 68 rfl) ⟨_, rfl, h⟩
          · have h := h.2 c_15
            refine wr_aload_n (pc := 56) (dget kX9_copy 31 rfl) 0 rfl ?_
            refine wr_iconst (pc := 57) (dget kX9_copy 32 rfl) ic_4 ?_
            refine wr_callVi (pc := 58) (Mc := mX9_finds) (o := 71) (rest := []) cf_X9_91 cv_X9_finds kd_71 rfl ⟨Nat.le_of_ble_eq_true rfl, Nat.le_of_ble_eq_true rfl⟩ rfl rfl (Nat.le_of_ble_eq_true rfl) (dget kX9_copy 33 rfl) (tX9_finds h) (fun r_36 σ_35 h => ?_)
            exact wr_iret (pc := 61) rfl (dget kX9_copy 34 rfl) ⟨_, rfl, h⟩
        · have h := h.2 c_12
          refine wr_aload_n (pc := 35) (dget kX9_copy 18 rfl) 0 rfl ?_
          refine wr_iconst (pc := 36) (dget kX9_copy 19 rfl) ic_1 ?_
          refine wr_callVi (pc := 37) (Mc := mX9_finds) (o := 71) (rest := []) cf_X9_91 cv_X9_finds kd_71 rfl ⟨Nat.le_of_ble_eq_true rfl, Nat.le_of_ble_eq_true rfl⟩ rfl rfl (Nat.le_of_ble_eq_true rfl) (dget kX9_copy 20 rfl) (tX9_finds h) (fun r_38 σ_37 h => ?_)
          exact wr_iret (pc := 40) rfl (dget kX9_copy 21 rfl) ⟨_, rfl, h⟩
    · have h := h.1 c_6
      refine wr_bipush (pc := 14) (dget kX9_copy 6 rfl) bp_m2 ?_
      exact wr_iret (pc := 16) rfl (dget kX9_copy 7 rfl) ⟨_, rfl, h⟩
def vX9_isText (p1 : Int32) (σ : Hp) (post : Int32 → Hp → Prop) : Prop := (vX9_in p1.toInt64 (0 : Int64) (2 : Int64) σ (fun r_2 σ_1 => ((r_2 = 0 ∨ r_2 = 1) ∧ post r_2 σ_1)))
set_option maxHeartbeats 4000000 in
set_option maxRecDepth 100000 in
theorem tX9_isText {G : GT} {p1 : Int32} {σ : Hp} {post : Int32 → Hp → Prop} (h : vX9_isText p1 σ post) : CT G mX9_isText [.int p1] σ (LI post) := by
  refine CT.of (by decide +kernel) (Nat.le_of_ble_eq_true rfl) ?_
  show WP G mX9_isText 0 [(0, .int p1)] [] σ (LI post)
  unfold vX9_isText at h
  refine wr_iload_n (pc := 0) (dget kX9_isText 0 rfl) 0 rfl ?_
  refine wr_i2l (pc := 1) (dget kX9_isText 1 rfl) rfl ?_
  refine wr_lconst (pc := 2) (dget kX9_isText 2 rfl) lc_0 ?_
  refine wr_ldc2 (pc := 3) kl_X9_89 (dget kX9_isText 3 rfl) ?_
  refine wr_callSi (pc := 6) (Mc := mX9_in) (rest := []) cf_X9_75 cs_X9_in ⟨Nat.le_of_ble_eq_true rfl, Nat.le_of_ble_eq_true rfl⟩ rfl rfl (Nat.le_of_ble_eq_true rfl) (dget kX9_isText 4 rfl) (tX9_in h) (fun r_2 σ_1 h => ?_)
  obtain ⟨q_3, h⟩ := h
  exact wr_zret (pc := 9) rfl (nar_z q_3) (dget kX9_isText 5 rfl) ⟨_, rfl, h⟩
def vX9_type_49 (post : Int32 → Hp → Prop) (x1 : Int32) (x2 : Int32) (y0 : Int32) (y1 : Int32) (σ : Hp) : Prop := ((y1 = y0 → post (-4 : Int32) σ) ∧ (¬ y1 = y0 → (vp_in x1 3 ∧ (vp_in (((60 : Int32) * x1) + (σ.1 77 x1.toNatClampNeg)) 180 ∧ ∀ σ_4 : Hp, σ_4 = wI σ 76 ((((60 : Int32) * x1) + (σ.1 77 x1.toNatClampNeg))).toNatClampNeg x2 → (vp_in x1 3 ∧ (vp_in x1 3 ∧ ∀ σ_7 : Hp, σ_7 = wI σ_4 77 x1.toNatClampNeg ((σ_4.1 77 x1.toNatClampNeg) + (1 : Int32)) → (vp_in x1 3 ∧ post (σ_7.1 77 x1.toNatClampNeg) σ_7)))))))
set_option maxHeartbeats 4000000 in
set_option maxRecDepth 100000 in
theorem tX9_type_49 {G : GT} {post : Int32 → Hp → Prop} {x1 : Int32} {x2 : Int32} {y0 : Int32} {y1 : Int32} {σ : Hp} (h : vX9_type_49 post x1 x2 y0 y1 σ) : WP G mX9_type 49 [(0, .ref (G.1 71)), (1, .int x1), (2, .int x2)] [.int y0, .int y1] σ (LI post) := by
  unfold vX9_type_49 at h
  refine wr_icmp_ne (pc := 49) (tgt := 55) (dget kX9_type 25 rfl) (by decide) (fun c_1 => ?_) (fun c_1 => ?_)
  · have h := h.2 c_1
    refine wr_aload_n (pc := 55) (dget kX9_type 28 rfl) 0 rfl ?_
    refine wr_getRl (pc := 56) fl_X9_22 kd_71 fk_9_5 rt_71_5 (dget kX9_type 29 rfl) ?_
    refine wr_bipush (pc := 59) (dget kX9_type 30 rfl) bp_60 ?_
    refine wr_iload_n (pc := 61) (dget kX9_type 31 rfl) 1 rfl ?_
    refine wr_imul (pc := 62) (dget kX9_type 32 rfl) ?_
    refine wr_aload_n (pc := 63) (dget kX9_type 33 rfl) 0 rfl ?_
    refine wr_getRl (pc := 64) fl_X9_25 kd_71 fk_9_6 rt_71_6 (dget kX9_type 34 rfl) ?_
    refine wr_iload_n (pc := 67) (dget kX9_type 35 rfl) 1 rfl ?_
    obtain ⟨q_2, h⟩ := h
    refine wr_ialdl (pc := 68) (σ := σ) il_77 q_2 (dget kX9_type 36 rfl) ?_
    refine wr_iadd (pc := 69) (dget kX9_type 37 rfl) ?_
    refine wr_iload_n (pc := 70) (dget kX9_type 38 rfl) 2 rfl ?_
    obtain ⟨q_3, h⟩ := h
    refine wr_iastl (pc := 71) il_76 q_3 (dget kX9_type 39 rfl) ?_
    refine wr_tops (fun σ_4 e_σ_4 => ?_)
    have h := h σ_4 e_σ_4
    refine wr_aload_n (pc := 72) (dget kX9_type 40 rfl) 0 rfl ?_
    refine wr_getRl (pc := 73) fl_X9_25 kd_71 fk_9_6 rt_71_6 (dget kX9_type 41 rfl) ?_
    refine wr_iload_n (pc := 76) (dget kX9_type 42 rfl) 1 rfl ?_
    refine wr_dup2_11 (pc := 77) (dget kX9_type 43 rfl) rfl rfl ?_
    obtain ⟨q_5, h⟩ := h
    refine wr_ialdl (pc := 78) (σ := σ_4) il_77 q_5 (dget kX9_type 44 rfl) ?_
    refine wr_iconst (pc := 79) (dget kX9_type 45 rfl) ic_1 ?_
    refine wr_iadd (pc := 80) (dget kX9_type 46 rfl) ?_
    obtain ⟨q_6, h⟩ := h
    refine wr_iastl (pc := 81) il_77 q_6 (dget kX9_type 47 rfl) ?_
    refine wr_tops (fun σ_7 e_σ_7 => ?_)
    have h := h σ_7 e_σ_7
    refine wr_aload_n (pc := 82) (dget kX9_type 48 rfl) 0 rfl ?_
    refine wr_getRl (pc := 83) fl_X9_25 kd_71 fk_9_6 rt_71_6 (dget kX9_type 49 rfl) ?_
    refine wr_iload_n (pc := 86) (dget kX9_type 50 rfl) 1 rfl ?_
    obtain ⟨q_8, h⟩ := h
    refine wr_ialdl (pc := 87) (σ := σ_7) il_77 q_8 (dget kX9_type 51 rfl) ?_
    exact wr_iret (pc := 88) rfl (dget kX9_type 52 rfl) ⟨_, rfl, h⟩
  · have h := h.1 c_1
    refine wr_bipush (pc := 52) (dget kX9_type 26 rfl) bp_m4 ?_
    exact wr_iret (pc := 54) rfl (dget kX9_type 27 rfl) ⟨_, rfl, h⟩
def vX9_type (p1 : Int32) (p2 : Int32) (σ : Hp) (post : Int32 → Hp → Prop) : Prop := (vX9_isText p1 σ (fun r_2 σ_1 => ((r_2 = 0 → post (-2 : Int32) σ_1) ∧ (¬ r_2 = 0 → (vX9_in p2.toInt64 (0 : Int64) (255 : Int64) σ_1 (fun r_5 σ_4 => ((r_5 = 0 → post (-2 : Int32) σ_4) ∧ (¬ r_5 = 0 → (vp_in p1 3 ∧ ((p1 = 0 → vX9_type_49 post p1 p2 (8 : Int32) (σ_4.1 77 p1.toNatClampNeg) σ_4) ∧ (¬ p1 = 0 → ((p1 = (1 : Int32) → vX9_type_49 post p1 p2 (59 : Int32) (σ_4.1 77 p1.toNatClampNeg) σ_4) ∧ (¬ p1 = (1 : Int32) → vX9_type_49 post p1 p2 (47 : Int32) (σ_4.1 77 p1.toNatClampNeg) σ_4)))))))))))))
set_option maxHeartbeats 4000000 in
set_option maxRecDepth 100000 in
theorem tX9_type {G : GT} {p1 : Int32} {p2 : Int32} {σ : Hp} {post : Int32 → Hp → Prop} (h : vX9_type p1 p2 σ post) : CT G mX9_type [.ref (G.1 71), .int p1, .int p2] σ (LI post) := by
  refine CT.of (by decide +kernel) (Nat.le_of_ble_eq_true rfl) ?_
  show WP G mX9_type 0 [(0, .ref (G.1 71)), (1, .int p1), (2, .int p2)] [] σ (LI post)
  unfold vX9_type at h
  refine wr_iload_n (pc := 0) (dget kX9_type 0 rfl) 1 rfl ?_
  refine wr_callSi (pc := 1) (Mc := mX9_isText) (rest := []) cf_X9_104 cs_X9_isText ⟨Nat.le_of_ble_eq_true rfl, Nat.le_of_ble_eq_true rfl⟩ rfl rfl (Nat.le_of_ble_eq_true rfl) (dget kX9_type 1 rfl) (tX9_isText h) (fun r_2 σ_1 h => ?_)
  refine wr_if_eq (pc := 4) (tgt := 19) (dget kX9_type 2 rfl) (by decide) (fun c_3 => ?_) (fun c_3 => ?_)
  · have h := h.1 c_3
    refine wr_bipush (pc := 19) (dget kX9_type 9 rfl) bp_m2 ?_
    exact wr_iret (pc := 21) rfl (dget kX9_type 10 rfl) ⟨_, rfl, h⟩
  · have h := h.2 c_3
    refine wr_iload_n (pc := 7) (dget kX9_type 3 rfl) 2 rfl ?_
    refine wr_i2l (pc := 8) (dget kX9_type 4 rfl) rfl ?_
    refine wr_lconst (pc := 9) (dget kX9_type 5 rfl) lc_0 ?_
    refine wr_ldc2 (pc := 10) kl_X9_107 (dget kX9_type 6 rfl) ?_
    refine wr_callSi (pc := 13) (Mc := mX9_in) (rest := []) cf_X9_75 cs_X9_in ⟨Nat.le_of_ble_eq_true rfl, Nat.le_of_ble_eq_true rfl⟩ rfl rfl (Nat.le_of_ble_eq_true rfl) (dget kX9_type 7 rfl) (tX9_in h) (fun r_5 σ_4 h => ?_)
    refine wr_if_ne (pc := 16) (tgt := 22) (dget kX9_type 8 rfl) (by decide) (fun c_6 => ?_) (fun c_6 => ?_)
    · have h := h.2 c_6
      refine wr_aload_n (pc := 22) (dget kX9_type 11 rfl) 0 rfl ?_
      refine wr_getRl (pc := 23) fl_X9_25 kd_71 fk_9_6 rt_71_6 (dget kX9_type 12 rfl) ?_
      refine wr_iload_n (pc := 26) (dget kX9_type 13 rfl) 1 rfl ?_
      obtain ⟨q_7, h⟩ := h
      refine wr_ialdl (pc := 27) (σ := σ_4) il_77 q_7 (dget kX9_type 14 rfl) ?_
      refine wr_iload_n (pc := 28) (dget kX9_type 15 rfl) 1 rfl ?_
      refine wr_if_ne (pc := 29) (tgt := 37) (dget kX9_type 16 rfl) (by decide) (fun c_8 => ?_) (fun c_8 => ?_)
      · have h := h.2 c_8
        refine wr_iload_n (pc := 37) (dget kX9_type 19 rfl) 1 rfl ?_
        refine wr_iconst (pc := 38) (dget kX9_type 20 rfl) ic_1 ?_
        refine wr_icmp_ne (pc := 39) (tgt := 47) (dget kX9_type 21 rfl) (by decide) (fun c_9 => ?_) (fun c_9 => ?_)
        · have h := h.2 c_9
          refine wr_bipush (pc := 47) (dget kX9_type 24 rfl) bp_47 ?_
          exact tX9_type_49 h
        · have h := h.1 c_9
          refine wr_bipush (pc := 42) (dget kX9_type 22 rfl) bp_59 ?_
          refine wr_goto (pc := 44) (tgt := 49) (dget kX9_type 23 rfl) (by decide) ?_
          exact tX9_type_49 h
      · have h := h.1 c_8
        refine wr_bipush (pc := 32) (dget kX9_type 17 rfl) bp_8 ?_
        refine wr_goto (pc := 34) (tgt := 49) (dget kX9_type 18 rfl) (by decide) ?_
        exact tX9_type_49 h
    · have h := h.1 c_6
      refine wr_bipush (pc := 19) (dget kX9_type 9 rfl) bp_m2 ?_
      exact wr_iret (pc := 21) rfl (dget kX9_type 10 rfl) ⟨_, rfl, h⟩
def vX9_wipe (p1 : Int32) (σ : Hp) (post : Int32 → Hp → Prop) : Prop := (vX9_isText p1 σ (fun r_2 σ_1 => ((r_2 = 0 → post (-2 : Int32) σ_1) ∧ (¬ r_2 = 0 → (vp_in p1 3 ∧ (∀ x2_5 : Int32, x2_5 = (σ_1.1 77 p1.toNatClampNeg) → (vp_in p1 3 ∧ ∀ σ_7 : Hp, σ_7 = wI σ_1 77 p1.toNatClampNeg (0 : Int32) → post x2_5 σ_7)))))))
set_option maxHeartbeats 4000000 in
set_option maxRecDepth 100000 in
theorem tX9_wipe {G : GT} {p1 : Int32} {σ : Hp} {post : Int32 → Hp → Prop} (h : vX9_wipe p1 σ post) : CT G mX9_wipe [.ref (G.1 71), .int p1] σ (LI post) := by
  refine CT.of (by decide +kernel) (Nat.le_of_ble_eq_true rfl) ?_
  show WP G mX9_wipe 0 [(0, .ref (G.1 71)), (1, .int p1)] [] σ (LI post)
  unfold vX9_wipe at h
  refine wr_iload_n (pc := 0) (dget kX9_wipe 0 rfl) 1 rfl ?_
  refine wr_callSi (pc := 1) (Mc := mX9_isText) (rest := []) cf_X9_104 cs_X9_isText ⟨Nat.le_of_ble_eq_true rfl, Nat.le_of_ble_eq_true rfl⟩ rfl rfl (Nat.le_of_ble_eq_true rfl) (dget kX9_wipe 1 rfl) (tX9_isText h) (fun r_2 σ_1 h => ?_)
  refine wr_if_ne (pc := 4) (tgt := 10) (dget kX9_wipe 2 rfl) (by decide) (fun c_3 => ?_) (fun c_3 => ?_)
  · have h := h.2 c_3
    refine wr_aload_n (pc := 10) (dget kX9_wipe 5 rfl) 0 rfl ?_
    refine wr_getRl (pc := 11) fl_X9_25 kd_71 fk_9_6 rt_71_6 (dget kX9_wipe 6 rfl) ?_
    refine wr_iload_n (pc := 14) (dget kX9_wipe 7 rfl) 1 rfl ?_
    obtain ⟨q_4, h⟩ := h
    refine wr_ialdl (pc := 15) (σ := σ_1) il_77 q_4 (dget kX9_wipe 8 rfl) ?_
    refine wr_topi (fun x2_5 e_x2_5 => ?_)
    have h := h x2_5 e_x2_5
    refine wr_istore_n (pc := 16) (lv' := [(2, .int x2_5), (0, .ref (G.1 71)), (1, .int p1)]) (dget kX9_wipe 9 rfl) (by decide) rfl ?_
    refine wr_aload_n (pc := 17) (dget kX9_wipe 10 rfl) 1 rfl ?_
    refine wr_getRl (pc := 18) fl_X9_25 kd_71 fk_9_6 rt_71_6 (dget kX9_wipe 11 rfl) ?_
    refine wr_iload_n (pc := 21) (dget kX9_wipe 12 rfl) 2 rfl ?_
    refine wr_iconst (pc := 22) (dget kX9_wipe 13 rfl) ic_0 ?_
    obtain ⟨q_6, h⟩ := h
    refine wr_iastl (pc := 23) il_77 q_6 (dget kX9_wipe 14 rfl) ?_
    refine wr_tops (fun σ_7 e_σ_7 => ?_)
    have h := h σ_7 e_σ_7
    refine wr_iload_n (pc := 24) (dget kX9_wipe 15 rfl) 0 rfl ?_
    exact wr_iret (pc := 25) rfl (dget kX9_wipe 16 rfl) ⟨_, rfl, h⟩
  · have h := h.1 c_3
    refine wr_bipush (pc := 7) (dget kX9_wipe 3 rfl) bp_m2 ?_
    exact wr_iret (pc := 9) rfl (dget kX9_wipe 4 rfl) ⟨_, rfl, h⟩
def vX9_undo (p1 : Int32) (σ : Hp) (post : Int32 → Hp → Prop) : Prop := (vX9_isText p1 σ (fun r_2 σ_1 => ((r_2 = 0 → post (-2 : Int32) σ_1) ∧ (¬ r_2 = 0 → (vp_in p1 3 ∧ (((σ_1.1 77 p1.toNatClampNeg) = 0 → post (-3 : Int32) σ_1) ∧ (¬ (σ_1.1 77 p1.toNatClampNeg) = 0 → (vp_in p1 3 ∧ (vp_in p1 3 ∧ ∀ σ_8 : Hp, σ_8 = wI σ_1 77 p1.toNatClampNeg ((σ_1.1 77 p1.toNatClampNeg) - (1 : Int32)) → (vp_in p1 3 ∧ post (σ_8.1 77 p1.toNatClampNeg) σ_8))))))))))
set_option maxHeartbeats 4000000 in
set_option maxRecDepth 100000 in
theorem tX9_undo {G : GT} {p1 : Int32} {σ : Hp} {post : Int32 → Hp → Prop} (h : vX9_undo p1 σ post) : CT G mX9_undo [.ref (G.1 71), .int p1] σ (LI post) := by
  refine CT.of (by decide +kernel) (Nat.le_of_ble_eq_true rfl) ?_
  show WP G mX9_undo 0 [(0, .ref (G.1 71)), (1, .int p1)] [] σ (LI post)
  unfold vX9_undo at h
  refine wr_iload_n (pc := 0) (dget kX9_undo 0 rfl) 1 rfl ?_
  refine wr_callSi (pc := 1) (Mc := mX9_isText) (rest := []) cf_X9_104 cs_X9_isText ⟨Nat.le_of_ble_eq_true rfl, Nat.le_of_ble_eq_true rfl⟩ rfl rfl (Nat.le_of_ble_eq_true rfl) (dget kX9_undo 1 rfl) (tX9_isText h) (fun r_2 σ_1 h => ?_)
  refine wr_if_ne (pc := 4) (tgt := 10) (dget kX9_undo 2 rfl) (by decide) (fun c_3 => ?_) (fun c_3 => ?_)
  · have h := h.2 c_3
    refine wr_aload_n (pc := 10) (dget kX9_undo 5 rfl) 0 rfl ?_
    refine wr_getRl (pc := 11) fl_X9_25 kd_71 fk_9_6 rt_71_6 (dget kX9_undo 6 rfl) ?_
    refine wr_iload_n (pc := 14) (dget kX9_undo 7 rfl) 1 rfl ?_
    obtain ⟨q_4, h⟩ := h
    refine wr_ialdl (pc := 15) (σ := σ_1) il_77 q_4 (dget kX9_undo 8 rfl) ?_
    refine wr_if_ne (pc := 16) (tgt := 22) (dget kX9_undo 9 rfl) (by decide) (fun c_5 => ?_) (fun c_5 => ?_)
    · have h := h.2 c_5
      refine wr_aload_n (pc := 22) (dget kX9_undo 12 rfl) 0 rfl ?_
      refine wr_getRl (pc := 23) fl_X9_25 kd_71 fk_9_6 rt_71_6 (dget kX9_undo 13 rfl) ?_
      refine wr_iload_n (pc := 26) (dget kX9_undo 14 rfl) 1 rfl ?_
      refine wr_dup2_11 (pc := 27) (dget kX9_undo 15 rfl) rfl rfl ?_
      obtain ⟨q_6, h⟩ := h
      refine wr_ialdl (pc := 28) (σ := σ_1) il_77 q_6 (dget kX9_undo 16 rfl) ?_
      refine wr_iconst (pc := 29) (dget kX9_undo 17 rfl) ic_1 ?_
      refine wr_isub (pc := 30) (dget kX9_undo 18 rfl) ?_
      obtain ⟨q_7, h⟩ := h
      refine wr_iastl (pc := 31) il_77 q_7 (dget kX9_undo 19 rfl) ?_
      refine wr_tops (fun σ_8 e_σ_8 => ?_)
      have h := h σ_8 e_σ_8
      refine wr_aload_n (pc := 32) (dget kX9_undo 20 rfl) 0 rfl ?_
      refine wr_getRl (pc := 33) fl_X9_25 kd_71 fk_9_6 rt_71_6 (dget kX9_undo 21 rfl) ?_
      refine wr_iload_n (pc := 36) (dget kX9_undo 22 rfl) 1 rfl ?_
      obtain ⟨q_9, h⟩ := h
      refine wr_ialdl (pc := 37) (σ := σ_8) il_77 q_9 (dget kX9_undo 23 rfl) ?_
      exact wr_iret (pc := 38) rfl (dget kX9_undo 24 rfl) ⟨_, rfl, h⟩
    · have h := h.1 c_5
      refine wr_bipush (pc := 19) (dget kX9_undo 10 rfl) bp_m3 ?_
      exact wr_iret (pc := 21) rfl (dget kX9_undo 11 rfl) ⟨_, rfl, h⟩
  · have h := h.1 c_3
    refine wr_bipush (pc := 7) (dget kX9_undo 3 rfl) bp_m2 ?_
    exact wr_iret (pc := 9) rfl (dget kX9_undo 4 rfl) ⟨_, rfl, h⟩
def vX9_figureOf (p1 : Int32) (p2 : Int32) (p3 : Int32) (σ : Hp) (post : Int32 → Hp → Prop) : Prop := (vX9_in p1.toInt64 (((48 : Int32) + p2)).toInt64 (((48 : Int32) + p3)).toInt64 σ (fun r_2 σ_1 => ((r_2 = 0 → post (-9 : Int32) σ_1) ∧ (¬ r_2 = 0 → post (p1 - (48 : Int32)) σ_1))))
set_option maxHeartbeats 4000000 in
set_option maxRecDepth 100000 in
theorem tX9_figureOf {G : GT} {p1 : Int32} {p2 : Int32} {p3 : Int32} {σ : Hp} {post : Int32 → Hp → Prop} (h : vX9_figureOf p1 p2 p3 σ post) : CT G mX9_figureOf [.int p1, .int p2, .int p3] σ (LI post) := by
  refine CT.of (by decide +kernel) (Nat.le_of_ble_eq_true rfl) ?_
  show WP G mX9_figureOf 0 [(0, .int p1), (1, .int p2), (2, .int p3)] [] σ (LI post)
  unfold vX9_figureOf at h
  refine wr_iload_n (pc := 0) (dget kX9_figureOf 0 rfl) 0 rfl ?_
  refine wr_i2l (pc := 1) (dget kX9_figureOf 1 rfl) rfl ?_
  refine wr_bipush (pc := 2) (dget kX9_figureOf 2 rfl) bp_48 ?_
  refine wr_iload_n (pc := 4) (dget kX9_figureOf 3 rfl) 1 rfl ?_
  refine wr_iadd (pc := 5) (dget kX9_figureOf 4 rfl) ?_
  refine wr_i2l (pc := 6) (dget kX9_figureOf 5 rfl) rfl ?_
  refine wr_bipush (pc := 7) (dget kX9_figureOf 6 rfl) bp_48 ?_
  refine wr_iload_n (pc := 9) (dget kX9_figureOf 7 rfl) 2 rfl ?_
  refine wr_iadd (pc := 10) (dget kX9_figureOf 8 rfl) ?_
  refine wr_i2l (pc := 11) (dget kX9_figureOf 9 rfl) rfl ?_
  refine wr_callSi (pc := 12) (Mc := mX9_in) (rest := []) cf_X9_75 cs_X9_in ⟨Nat.le_of_ble_eq_true rfl, Nat.le_of_ble_eq_true rfl⟩ rfl rfl (Nat.le_of_ble_eq_true rfl) (dget kX9_figureOf 10 rfl) (tX9_in h) (fun r_2 σ_1 h => ?_)
  refine wr_if_eq (pc := 15) (tgt := 25) (dget kX9_figureOf 11 rfl) (by decide) (fun c_3 => ?_) (fun c_3 => ?_)
  · have h := h.1 c_3
    refine wr_bipush (pc := 25) (dget kX9_figureOf 16 rfl) bp_m9 ?_
    exact wr_iret (pc := 27) rfl (dget kX9_figureOf 17 rfl) ⟨_, rfl, h⟩
  · have h := h.2 c_3
    refine wr_iload_n (pc := 18) (dget kX9_figureOf 12 rfl) 0 rfl ?_
    refine wr_bipush (pc := 19) (dget kX9_figureOf 13 rfl) bp_48 ?_
    refine wr_isub (pc := 21) (dget kX9_figureOf 14 rfl) ?_
    refine wr_goto (pc := 22) (tgt := 27) (dget kX9_figureOf 15 rfl) (by decide) ?_
    exact wr_iret (pc := 27) rfl (dget kX9_figureOf 17 rfl) ⟨_, rfl, h⟩
def vX9_letterOf (p1 : Int32) (p2 : Int32) (σ : Hp) (post : Int32 → Hp → Prop) : Prop := (vX9_in p1.toInt64 (97 : Int64) p2.toInt64 σ (fun r_2 σ_1 => ((r_2 = 0 → post (-9 : Int32) σ_1) ∧ (¬ r_2 = 0 → post (p1 - (97 : Int32)) σ_1))))
set_option maxHeartbeats 4000000 in
set_option maxRecDepth 100000 in
theorem tX9_letterOf {G : GT} {p1 : Int32} {p2 : Int32} {σ : Hp} {post : Int32 → Hp → Prop} (h : vX9_letterOf p1 p2 σ post) : CT G mX9_letterOf [.int p1, .int p2] σ (LI post) := by
  refine CT.of (by decide +kernel) (Nat.le_of_ble_eq_true rfl) ?_
  show WP G mX9_letterOf 0 [(0, .int p1), (1, .int p2)] [] σ (LI post)
  unfold vX9_letterOf at h
  refine wr_iload_n (pc := 0) (dget kX9_letterOf 0 rfl) 0 rfl ?_
  refine wr_i2l (pc := 1) (dget kX9_letterOf 1 rfl) rfl ?_
  refine wr_ldc2 (pc := 2) kl_X9_109 (dget kX9_letterOf 2 rfl) ?_
  refine wr_iload_n (pc := 5) (dget kX9_letterOf 3 rfl) 1 rfl ?_
  refine wr_i2l (pc := 6) (dget kX9_letterOf 4 rfl) rfl ?_
  refine wr_callSi (pc := 7) (Mc := mX9_in) (rest := []) cf_X9_75 cs_X9_in ⟨Nat.le_of_ble_eq_true rfl, Nat.le_of_ble_eq_true rfl⟩ rfl rfl (Nat.le_of_ble_eq_true rfl) (dget kX9_letterOf 5 rfl) (tX9_in h) (fun r_2 σ_1 h => ?_)
  refine wr_if_eq (pc := 10) (tgt := 20) (dget kX9_letterOf 6 rfl) (by decide) (fun c_3 => ?_) (fun c_3 => ?_)
  · have h := h.1 c_3
    refine wr_bipush (pc := 20) (dget kX9_letterOf 11 rfl) bp_m9 ?_
    exact wr_iret (pc := 22) rfl (dget kX9_letterOf 12 rfl) ⟨_, rfl, h⟩
  · have h := h.2 c_3
    refine wr_iload_n (pc := 13) (dget kX9_letterOf 7 rfl) 0 rfl ?_
    refine wr_bipush (pc := 14) (dget kX9_letterOf 8 rfl) bp_97 ?_
    refine wr_isub (pc := 16) (dget kX9_letterOf 9 rfl) ?_
    refine wr_goto (pc := 17) (tgt := 22) (dget kX9_letterOf 10 rfl) (by decide) ?_
    exact wr_iret (pc := 22) rfl (dget kX9_letterOf 12 rfl) ⟨_, rfl, h⟩
def vX9_between (p1 : Int32) (σ : Hp) (post : Int32 → Hp → Prop) : Prop := ((p1 = (59 : Int32) → post (0 : Int32) σ) ∧ (¬ p1 = (59 : Int32) → post (-9 : Int32) σ))
set_option maxHeartbeats 4000000 in
set_option maxRecDepth 100000 in
theorem tX9_between {G : GT} {p1 : Int32} {σ : Hp} {post : Int32 → Hp → Prop} (h : vX9_between p1 σ post) : CT G mX9_between [.int p1] σ (LI post) := by
  refine CT.of (by decide +kernel) (Nat.le_of_ble_eq_true rfl) ?_
  show WP G mX9_between 0 [(0, .int p1)] [] σ (LI post)
  unfold vX9_between at h
  refine wr_iload_n (pc := 0) (dget kX9_between 0 rfl) 0 rfl ?_
  refine wr_bipush (pc := 1) (dget kX9_between 1 rfl) bp_59 ?_
  refine wr_icmp_ne (pc := 3) (tgt := 10) (dget kX9_between 2 rfl) (by decide) (fun c_1 => ?_) (fun c_1 => ?_)
  · have h := h.2 c_1
    refine wr_bipush (pc := 10) (dget kX9_between 5 rfl) bp_m9 ?_
    exact wr_iret (pc := 12) rfl (dget kX9_between 6 rfl) ⟨_, rfl, h⟩
  · have h := h.1 c_1
    refine wr_iconst (pc := 6) (dget kX9_between 3 rfl) ic_0 ?_
    refine wr_goto (pc := 7) (tgt := 12) (dget kX9_between 4 rfl) (by decide) ?_
    exact wr_iret (pc := 12) rfl (dget kX9_between 6 rfl) ⟨_, rfl, h⟩
def vX9_usual_2 (post : Hp → Prop) (ex : Hp → Prop) : Nat → Int32 → Hp → Prop
  | 0 => fun _ _ => False
  | n + 1 => fun x1 σ => (((3 : Int32) ≤ x1 → (ex σ)) ∧ (¬ (3 : Int32) ≤ x1 → (vp_in x1 3 ∧ ∀ σ_3 : Hp, σ_3 = wI σ 78 x1.toNatClampNeg (1 : Int32) → (∀ x1_4 : Int32, x1_4 = x1 + (1 : Int32) → vX9_usual_2 post ex  n x1_4 σ_3))))
set_option maxHeartbeats 4000000 in
set_option maxRecDepth 100000 in
theorem tX9_usual_2 {G : GT} {post : Hp → Prop} {ex : Hp → Prop} (hex : ∀  (τ : Hp), ex  τ → WP G mX9_usual 20 [] [] τ (LV post)) : ∀ (n : Nat) (x1 : Int32) (σ : Hp), vX9_usual_2 post ex  n x1 σ → WP G mX9_usual 2 [(0, .ref (G.1 71)), (1, .int x1)] [] σ (LV post) := by
  intro n
  induction n with
  | zero => intro x1 σ h; exact False.elim h
  | succ n ih =>
    intro x1 σ h
    simp only [vX9_usual_2] at h
    refine wr_iload_n (pc := 2) (dget kX9_usual 2 rfl) 1 rfl ?_
    refine wr_iconst (pc := 3) (dget kX9_usual 3 rfl) ic_3 ?_
    refine wr_icmp_ge (pc := 4) (tgt := 20) (dget kX9_usual 4 rfl) (by decide) (fun c_1 => ?_) (fun c_1 => ?_)
    · have h := h.1 c_1
      refine wr_sub [] rfl ?_
      exact hex  _ h
    · have h := h.2 c_1
      refine wr_aload_n (pc := 7) (dget kX9_usual 5 rfl) 0 rfl ?_
      refine wr_getRl (pc := 8) fl_X9_28 kd_71 fk_9_7 rt_71_7 (dget kX9_usual 6 rfl) ?_
      refine wr_iload_n (pc := 11) (dget kX9_usual 7 rfl) 1 rfl ?_
      refine wr_iconst (pc := 12) (dget kX9_usual 8 rfl) ic_1 ?_
      obtain ⟨q_2, h⟩ := h
      refine wr_iastl (pc := 13) il_78 q_2 (dget kX9_usual 9 rfl) ?_
      refine wr_tops (fun σ_3 e_σ_3 => ?_)
      have h := h σ_3 e_σ_3
      obtain ⟨x1_4, e_x1_4⟩ : ∃ y : Int32, y = x1 + (1 : Int32) := ⟨_, rfl⟩
      have h := h x1_4 e_x1_4
      refine wr_iinc (pc := 14) (v := x1_4) (lv' := [(1, .int x1_4), (0, .ref (G.1 71))]) (dget kX9_usual 10 rfl) 1 rfl (by rw [e_x1_4, ic_1]) (by decide) rfl ?_
      refine wr_goto (pc := 17) (tgt := 2) (dget kX9_usual 11 rfl) (by decide) ?_
      refine wr_sub [1, 0] rfl ?_
      exact ih _ _ h
def vX9_usual (σ : Hp) (post : Hp → Prop) : Prop := (∃ fu : Nat, vX9_usual_2 post (fun σ_1 => post σ_1)  fu (0 : Int32) σ)
set_option maxHeartbeats 4000000 in
set_option maxRecDepth 100000 in
theorem tX9_usual {G : GT} {σ : Hp} {post : Hp → Prop} (h : vX9_usual  σ post) : CT G mX9_usual [.ref (G.1 71)] σ (LV post) := by
  refine CT.of (by decide +kernel) (Nat.le_of_ble_eq_true rfl) ?_
  show WP G mX9_usual 0 [(0, .ref (G.1 71))] [] σ (LV post)
  unfold vX9_usual at h
  refine wr_iconst (pc := 0) (dget kX9_usual 0 rfl) ic_0 ?_
  refine wr_istore_n (pc := 1) (lv' := [(1, .int (0 : Int32)), (0, .ref (G.1 71))]) (dget kX9_usual 1 rfl) (by decide) rfl ?_
  obtain ⟨fu, h⟩ := h
  refine wr_sub [1, 0] rfl ?_
  refine tX9_usual_2 (fun σ_1 h => ?_) fu _ _ h
  exact wr_vret (pc := 20) rfl (dget kX9_usual 12 rfl) ⟨rfl, h⟩
