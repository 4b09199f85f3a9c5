/-! ===== contents: reads behind writes, frames ===== -/
theorem wI_at (σ : Hp) (k j : Nat) (v : Int32) (b : Nat) : (wI σ k j v).1 k b = if b = j then v else σ.1 k b := by simp [wI, up2]
theorem wI_eq (σ : Hp) (k j : Nat) (v : Int32) : (wI σ k j v).1 k = fun b => if b = j then v else σ.1 k b := up2_row _ _ _ _
theorem wI_ne {σ : Hp} {k j a : Nat} {v : Int32} (h : a ≠ k) : (wI σ k j v).1 a = σ.1 a := up2_ne _ _ _ h
theorem wI_nf {σ : Hp} {k j b : Nat} {v : Int32} (h : b ≠ j) : (wI σ k j v).1 k b = σ.1 k b := by rw [wI_at, if_neg h]
theorem wI_2 (σ : Hp) (k j : Nat) (v : Int32) : (wI σ k j v).2 = σ.2 := rfl
theorem wL_1 (σ : Hp) (k j : Nat) (v : Int64) : (wL σ k j v).1 = σ.1 := rfl
theorem wL_22 (σ : Hp) (k j : Nat) (v : Int64) : (wL σ k j v).2.2 = σ.2.2 := rfl
theorem wL_at (σ : Hp) (k j : Nat) (v : Int64) (b : Nat) : (wL σ k j v).2.1 k b = if b = j then v else σ.2.1 k b := by simp [wL, up2]
theorem wL_ne {σ : Hp} {k j a : Nat} {v : Int64} (h : a ≠ k) : (wL σ k j v).2.1 a = σ.2.1 a := up2_ne _ _ _ h
theorem wN_1 (σ : Hp) (k j : Nat) (v : Nat) : (wN σ k j v).1 = σ.1 := rfl
theorem wN_21 (σ : Hp) (k j : Nat) (v : Nat) : (wN σ k j v).2.1 = σ.2.1 := rfl
theorem wN_at (σ : Hp) (k j : Nat) (v : Nat) (b : Nat) : (wN σ k j v).2.2 k b = if b = j then v else σ.2.2 k b := by simp [wN, up2]
theorem wN_ne {σ : Hp} {k j a : Nat} {v : Nat} (h : a ≠ k) : (wN σ k j v).2.2 a = σ.2.2 a := up2_ne _ _ _ h
theorem wR_eq (σ : Hp) (k : Nat) (f : Nat → Int32) : (wR σ k f).1 k = f := by simp [wR]
theorem wR_ne {σ : Hp} {k a : Nat} {f : Nat → Int32} (h : a ≠ k) : (wR σ k f).1 a = σ.1 a := by simp [wR, h]
theorem wR_2 (σ : Hp) (k : Nat) (f : Nat → Int32) : (wR σ k f).2 = σ.2 := rfl
/-- where the world holds a long, or a reference that changes -/
def isL (a b : Nat) : Bool := Nat.beq a 31 || (Nat.beq a 43 || ((Nat.beq a 23 && (Nat.beq b 16 || Nat.beq b 5)) || (Nat.beq a 35 && (Nat.beq b 16 || Nat.beq b 5))))
/-- nothing has changed but where A says so -/
def Fr (A : Nat → Nat → Bool) (σ σ' : Hp) : Prop := ∀ a b, A a b = false → σ'.1 a b = σ.1 a b ∧ (isL a b = true → σ'.2.1 a b = σ.2.1 a b ∧ σ'.2.2 a b = σ.2.2 a b)
theorem Fr.rf {A : Nat → Nat → Bool} {σ : Hp} : Fr A σ σ := fun _ _ _ => ⟨rfl, fun _ => ⟨rfl, rfl⟩⟩
theorem Fr.tr {A B C : Nat → Nat → Bool} {σ σ1 σ2 : Hp} (h1 : Fr A σ σ1) (h2 : Fr B σ1 σ2) (h : ∀ a b, C a b = false → A a b = false ∧ B a b = false) : Fr C σ σ2 := fun a b hc => by
  obtain ⟨x, y⟩ := h a b hc
  obtain ⟨a1, a2⟩ := h1 a b x
  obtain ⟨b1, b2⟩ := h2 a b y
  exact ⟨b1.trans a1, fun q => ⟨(b2 q).1.trans (a2 q).1, (b2 q).2.trans (a2 q).2⟩⟩
theorem Fr.tr' {A : Nat → Nat → Bool} {σ σ1 σ2 : Hp} (h1 : Fr A σ σ1) (h2 : Fr A σ1 σ2) : Fr A σ σ2 := h1.tr h2 (fun _ _ h => ⟨h, h⟩)
theorem Fr.up {A B : Nat → Nat → Bool} {σ σ1 : Hp} (h1 : Fr A σ σ1) (h : ∀ a b, B a b = false → A a b = false) : Fr B σ σ1 := fun a b hb => h1 a b (h a b hb)
theorem Fr.wI {A : Nat → Nat → Bool} {σ : Hp} {k j : Nat} {v : Int32} (h : A k j = true) : Fr A σ (wI σ k j v) := fun a b hb => by
  refine ⟨?_, fun _ => ⟨rfl, rfl⟩⟩
  by_cases e : a = k
  · subst e
    by_cases e2 : b = j
    · subst e2; rw [h] at hb; cases hb
    · rw [wI_nf e2]
  · rw [wI_ne e]
theorem Fr.wL {A : Nat → Nat → Bool} {σ : Hp} {k j : Nat} {v : Int64} (h : A k j = true) : Fr A σ (wL σ k j v) := fun a b hb => by
  refine ⟨rfl, fun _ => ⟨?_, rfl⟩⟩
  by_cases e : a = k
  · subst e
    by_cases e2 : b = j
    · subst e2; rw [h] at hb; cases hb
    · rw [wL_at, if_neg e2]
  · rw [wL_ne e]
theorem Fr.wN {A : Nat → Nat → Bool} {σ : Hp} {k j : Nat} {v : Nat} (h : A k j = true) : Fr A σ (wN σ k j v) := fun a b hb => by
  refine ⟨rfl, fun _ => ⟨rfl, ?_⟩⟩
  by_cases e : a = k
  · subst e
    by_cases e2 : b = j
    · subst e2; rw [h] at hb; cases hb
    · rw [wN_at, if_neg e2]
  · rw [wN_ne e]
theorem Fr.wR {A : Nat → Nat → Bool} {σ : Hp} {k : Nat} {f : Nat → Int32} (h : ∀ b, A k b = false → f b = σ.1 k b) : Fr A σ (wR σ k f) := fun a b hb => by
  refine ⟨?_, fun _ => ⟨rfl, rfl⟩⟩
  by_cases e : a = k
  · subst e; rw [wR_eq]; exact h b hb
  · rw [wR_ne e]
theorem Fr.i {A : Nat → Nat → Bool} {σ σ1 : Hp} (h : Fr A σ σ1) {a b : Nat} (hb : A a b = false) : σ1.1 a b = σ.1 a b := (h a b hb).1
theorem Fr.l {A : Nat → Nat → Bool} {σ σ1 : Hp} (h : Fr A σ σ1) {a b : Nat} (hb : A a b = false) (hl : isL a b = true := by rfl) : σ1.2.1 a b = σ.2.1 a b := ((h a b hb).2 hl).1
theorem Fr.n {A : Nat → Nat → Bool} {σ σ1 : Hp} (h : Fr A σ σ1) {a b : Nat} (hb : A a b = false) (hl : isL a b = true := by rfl) : σ1.2.2 a b = σ.2.2 a b := ((h a b hb).2 hl).2
theorem Fr.r {A : Nat → Nat → Bool} {σ σ1 : Hp} (h : Fr A σ σ1) {a : Nat} (hb : ∀ b, A a b = false) : σ1.1 a = σ.1 a := funext fun b => (h a b (hb b)).1
theorem Fr.rl {A : Nat → Nat → Bool} {σ σ1 : Hp} (h : Fr A σ σ1) {a : Nat} (hb : ∀ b, A a b = false) (hl : ∀ b, isL a b = true := by exact fun _ => rfl) : σ1.2.1 a = σ.2.1 a := funext fun b => ((h a b (hb b)).2 (hl b)).1
/-! ===== numbers ===== -/
theorem li (n : Nat) : (OfNat.ofNat n : Int32) = nI n := rfl
theorem k0 : (0 : Int32) = nI 0 := rfl
theorem k1 : (1 : Int32) = nI 1 := rfl
theorem k2 : (2 : Int32) = nI 2 := rfl
theorem k3 : (3 : Int32) = nI 3 := rfl
theorem k4 : (4 : Int32) = nI 4 := rfl
theorem k5 : (5 : Int32) = nI 5 := rfl
theorem k6 : (6 : Int32) = nI 6 := rfl
theorem k7 : (7 : Int32) = nI 7 := rfl
theorem k8 : (8 : Int32) = nI 8 := rfl
theorem k9 : (9 : Int32) = nI 9 := rfl
theorem k10 : (10 : Int32) = nI 10 := rfl
theorem k11 : (11 : Int32) = nI 11 := rfl
theorem k12 : (12 : Int32) = nI 12 := rfl
theorem k13 : (13 : Int32) = nI 13 := rfl
theorem k14 : (14 : Int32) = nI 14 := rfl
theorem k15 : (15 : Int32) = nI 15 := rfl
theorem k16 : (16 : Int32) = nI 16 := rfl
theorem k17 : (17 : Int32) = nI 17 := rfl
theorem k23 : (23 : Int32) = nI 23 := rfl
theorem k24 : (24 : Int32) = nI 24 := rfl
theorem k31 : (31 : Int32) = nI 31 := rfl
theorem k32 : (32 : Int32) = nI 32 := rfl
theorem k36 : (36 : Int32) = nI 36 := rfl
theorem k47 : (47 : Int32) = nI 47 := rfl
theorem k48 : (48 : Int32) = nI 48 := rfl
theorem k53 : (53 : Int32) = nI 53 := rfl
theorem k54 : (54 : Int32) = nI 54 := rfl
theorem k57 : (57 : Int32) = nI 57 := rfl
theorem k58 : (58 : Int32) = nI 58 := rfl
theorem k59 : (59 : Int32) = nI 59 := rfl
theorem k60 : (60 : Int32) = nI 60 := rfl
theorem k63 : (63 : Int32) = nI 63 := rfl
theorem k64 : (64 : Int32) = nI 64 := rfl
theorem k97 : (97 : Int32) = nI 97 := rfl
theorem k103 : (103 : Int32) = nI 103 := rfl
theorem k104 : (104 : Int32) = nI 104 := rfl
theorem k108 : (108 : Int32) = nI 108 := rfl
theorem k114 : (114 : Int32) = nI 114 := rfl
theorem k116 : (116 : Int32) = nI 116 := rfl
theorem k120 : (120 : Int32) = nI 120 := rfl
theorem k180 : (180 : Int32) = nI 180 := rfl
theorem k240 : (240 : Int32) = nI 240 := rfl
theorem k255 : (255 : Int32) = nI 255 := rfl
theorem k256 : (256 : Int32) = nI 256 := rfl
theorem k288 : (288 : Int32) = nI 288 := rfl
theorem ks : (0 : Int32) = nI 0 ∧ (1 : Int32) = nI 1 ∧ (2 : Int32) = nI 2 ∧ (3 : Int32) = nI 3 ∧ (4 : Int32) = nI 4 ∧ (5 : Int32) = nI 5 ∧ (6 : Int32) = nI 6 ∧ (7 : Int32) = nI 7 ∧ (8 : Int32) = nI 8 ∧ (9 : Int32) = nI 9 ∧ (10 : Int32) = nI 10 ∧ (11 : Int32) = nI 11 ∧ (12 : Int32) = nI 12 ∧ (13 : Int32) = nI 13 ∧ (14 : Int32) = nI 14 ∧ (15 : Int32) = nI 15 ∧ (16 : Int32) = nI 16 ∧ (17 : Int32) = nI 17 ∧ (23 : Int32) = nI 23 ∧ (24 : Int32) = nI 24 ∧ (31 : Int32) = nI 31 ∧ (32 : Int32) = nI 32 ∧ (36 : Int32) = nI 36 ∧ (47 : Int32) = nI 47 ∧ (48 : Int32) = nI 48 ∧ (53 : Int32) = nI 53 ∧ (54 : Int32) = nI 54 ∧ (57 : Int32) = nI 57 ∧ (58 : Int32) = nI 58 ∧ (59 : Int32) = nI 59 ∧ (60 : Int32) = nI 60 ∧ (63 : Int32) = nI 63 ∧ (64 : Int32) = nI 64 ∧ (97 : Int32) = nI 97 ∧ (103 : Int32) = nI 103 ∧ (104 : Int32) = nI 104 ∧ (108 : Int32) = nI 108 ∧ (114 : Int32) = nI 114 ∧ (116 : Int32) = nI 116 ∧ (120 : Int32) = nI 120 ∧ (180 : Int32) = nI 180 ∧ (240 : Int32) = nI 240 ∧ (255 : Int32) = nI 255 ∧ (256 : Int32) = nI 256 ∧ (288 : Int32) = nI 288 := ⟨rfl, rfl, rfl, rfl, rfl, rfl, rfl, rfl, rfl, rfl, rfl, rfl, rfl, rfl, rfl, rfl, rfl, rfl, rfl, rfl, rfl, rfl, rfl, rfl, rfl, rfl, rfl, rfl, rfl, rfl, rfl, rfl, rfl, rfl, rfl, rfl, rfl, rfl, rfl, rfl, rfl, rfl, rfl, rfl, rfl⟩
theorem nI_mul (a b : Nat) : nI a * nI b = nI (a * b) := pk_mul a b
theorem nI_c {n : Nat} (h : n < 2147483648) : (nI n).toNatClampNeg = n := nI_clamp h
theorem nI_le2 {a b : Nat} (ha : a < 2147483648) (hb : b < 2147483648) : (nI a ≤ nI b) = (a ≤ b) := propext (nI_leI ha hb)
theorem nI_lt2 {a b : Nat} (ha : a < 2147483648) (hb : b < 2147483648) : (nI a < nI b) = (a < b) := propext (nI_ltI ha hb)
theorem nI_eq2 {a b : Nat} (ha : a < 2147483648) (hb : b < 2147483648) : (nI a = nI b) = (a = b) := propext (nI_eq ha hb)
theorem nI_in2 {n N : Nat} (hn : n < 2147483648) (hN : N < 2147483648) : vp_in (nI n) N = (n < N) := by
  refine propext ⟨fun h => ?_, fun h => vp_in_nI h hN⟩
  have := vp_in_iff.mp h
  rw [nI_toInt hn] at this
  omega
theorem nI_m1 {n : Nat} (h : n < 2147483648) : (nI n = (-1 : Int32)) = False := by
  refine propext ⟨fun e => ?_, False.elim⟩
  have := congrArg Int32.toInt e
  rw [nI_toInt h] at this
  have e2 : (-1 : Int32).toInt = -1 := by decide
  omega
theorem nI_rem {a d : Nat} (ha : a < 2147483648) (h0 : 0 < d) (hd : d < 2147483648) : nI a - nI a / nI d * nI d = nI (a % d) := pk_rem ha h0 hd
theorem nI_div {a d : Nat} (ha : a < 2147483648) (h0 : 0 < d) (hd : d < 2147483648) : nI a / nI d = nI (a / d) := pk_div ha h0 hd
theorem bt_shr {x : Int32} {n : Nat} (hn : n < 32) : ((x >>> (nI n &&& 31)) &&& (1 : Int32) = (1 : Int32)) = (bt x n = true) := by
  refine propext ⟨fun h => ?_, fun h => ?_⟩
  · have h0 := congrArg (fun z => bt z 0) h
    simp only [b_and, b_sshr n hn x (by omega : (0 : Nat) < 32)] at h0
    rw [if_pos (by omega)] at h0
    have : bt 1 0 = true := by decide
    rw [this, Bool.and_true] at h0
    simpa using h0
  · refine b_ext (fun i hi => ?_)
    rw [b_and, b_sshr n hn x hi]
    rcases Nat.eq_zero_or_pos i with rfl | h1
    · rw [if_pos (by omega)]; simp [h]
    · have : ∀ i, i < 32 → 0 < i → bt 1 i = false := by decide +kernel
      rw [this i hi h1, Bool.and_false]
theorem bt_one {n : Nat} (hn : n < 32) {i : Nat} (hi : i < 32) : bt ((1 : Int32) <<< (nI n &&& 31)) i = decide (i = n) := by
  rw [b_shl n hn 1 hi]
  have : ∀ i, i < 32 → bt 1 i = decide (i = 0) := by decide +kernel
  rcases Nat.lt_or_ge i n with h | h
  · rw [decide_eq_false (by omega), Bool.false_and, decide_eq_false (by omega)]
  · rw [decide_eq_true h, Bool.true_and, this _ (by omega)]
    exact decide_eq_decide.mpr (by omega)
theorem bt_zero (i : Nat) : bt 0 i = false := b_0 i
