/-! ===== the class: counts of bits, answers of a round ===== -/
def bcV (p : Int32) : Int32 :=
  let x1 := p - ((p.toUInt32 >>> ((1 : Int32).toUInt32 &&& Int32.toUInt32 31)).toInt32 &&& (1431655765 : Int32))
  let x2 := (x1 &&& (858993459 : Int32)) + ((x1.toUInt32 >>> ((2 : Int32).toUInt32 &&& Int32.toUInt32 31)).toInt32 &&& (858993459 : Int32))
  let x3 := (x2 + (x2.toUInt32 >>> ((4 : Int32).toUInt32 &&& Int32.toUInt32 31)).toInt32) &&& (252645135 : Int32)
  let x4 := x3 + (x3.toUInt32 >>> ((8 : Int32).toUInt32 &&& Int32.toUInt32 31)).toInt32
  let x5 := x4 + (x4.toUInt32 >>> ((16 : Int32).toUInt32 &&& Int32.toUInt32 31)).toInt32
  x5 &&& (63 : Int32)
/-- the number whose bits are p -/
def bmN (p : Nat → Bool) (n : Nat) : Nat := fb_sm (fun k => (if p k then 1 else 0) * 2 ^ k) n
theorem bmN_lt (p : Nat → Bool) : ∀ n, bmN p n < 2 ^ n
  | 0 => by show 0 < 1; omega
  | n + 1 => by
    have ih := bmN_lt p n
    have h1 : bmN p (n + 1) = bmN p n + (if p n then 1 else 0) * 2 ^ n := rfl
    have h2 : (if p n then 1 else 0) * 2 ^ n ≤ 1 * 2 ^ n := Nat.mul_le_mul_right _ (by split <;> omega)
    rw [h1, Nat.pow_succ]; omega
theorem bmN_get (p : Nat → Bool) : ∀ {n k : Nat}, bmN p n / 2 ^ k % 2 = if k < n ∧ p k = true then 1 else 0
  | 0, k => by rw [show bmN p 0 = 0 from rfl, Nat.zero_div, if_neg (by omega)]
  | n + 1, k => by
    have h1 : bmN p (n + 1) = bmN p n + (if p n then 1 else 0) * 2 ^ n := rfl
    rw [h1]
    rcases Nat.lt_trichotomy k n with e | e | e
    · have e2 : (if p n then 1 else 0) * 2 ^ n = ((if p n then 1 else 0) * 2 ^ (n - k - 1) * 2) * 2 ^ k := by
        rw [Nat.mul_assoc, Nat.mul_assoc, ← Nat.pow_succ', ← Nat.pow_add, show n - k - 1 + (k + 1) = n by omega]
      rw [e2, Nat.add_mul_div_right _ _ (Nat.pow_pos (by omega)), Nat.add_mul_mod_self_right, bmN_get p]
      by_cases hp : p k = true
      · rw [if_pos ⟨e, hp⟩, if_pos ⟨by omega, hp⟩]
      · rw [if_neg (fun h => hp h.2), if_neg (fun h => hp h.2)]
    · subst e
      rw [Nat.add_mul_div_right _ _ (Nat.pow_pos (by omega)), Nat.div_eq_of_lt (bmN_lt p k), Nat.zero_add]
      by_cases hp : p k = true
      · rw [if_pos hp, if_pos ⟨by omega, hp⟩]
      · rw [if_neg hp, if_neg (fun h => hp h.2)]
    · rw [if_neg (show ¬ (k < n + 1 ∧ p k = true) from fun h => by omega)]
      have hl := bmN_lt p (n + 1)
      rw [h1] at hl
      have h2 : 2 ^ (n + 1) ≤ 2 ^ k := Nat.pow_le_pow_right (by omega) e
      rw [Nat.div_eq_of_lt (by omega)]
def pc (j m : Nat) : Nat := fb_sm (fun i => m / 2 ^ i % 2) j
theorem bc_sq : ∀ a, a < 64 → ∀ b, b < 64 → bcV (nI (a * 64 + b)) = nI (pc 12 (a * 64 + b)) := by decide +kernel
theorem bc_all : ∀ m, m < 4096 → bcV (nI m) = nI (pc 12 m) := fun m hm => by
  have := bc_sq (m / 64) (by omega) (m % 64) (by omega)
  rw [show m / 64 * 64 + m % 64 = m by omega] at this; exact this
theorem pc_ct (p : Nat → Bool) {n : Nat} (hn : n ≤ 12) : pc 12 (bmN p n) = fb_ct p n := by
  have h1 : ∀ j, j ≤ n → fb_sm (fun i => bmN p n / 2 ^ i % 2) j = fb_ct p j := by
    intro j
    induction j with
    | zero => intro _; rfl
    | succ j ih =>
      intro hj
      rw [fb_sm_succ, fb_ct_succ, ih (by omega), bmN_get]
      by_cases hp : p j = true
      · rw [if_pos ⟨by omega, hp⟩, if_pos hp]
      · rw [if_neg (fun h => hp h.2), if_neg hp]
  have h2 : ∀ j, n ≤ j → fb_sm (fun i => bmN p n / 2 ^ i % 2) j = fb_ct p n := by
    intro j hj
    induction j with
    | zero => rw [show n = 0 by omega]; rfl
    | succ j ih =>
      by_cases e : n = j + 1
      · subst e; exact h1 _ (Nat.le_refl _)
      · rw [fb_sm_succ, ih (by omega), bmN_get, if_neg (by omega), Nat.add_zero]
  exact h2 12 hn
theorem bt_nI (m : Nat) {i : Nat} (hi : i < 32) : bt (nI m) i = m.testBit i := by
  show (BitVec.ofNat 32 m).getLsbD i = _
  rw [BitVec.getLsbD_ofNat, decide_eq_true hi, Bool.true_and]
/-- an int by its bits, as a number -/
theorem bt_num {x : Int32} {p : Nat → Bool} {n : Nat} (hx : ∀ k, k < 32 → bt x k = (decide (k < n) && p k)) : x = nI (bmN p n) := b_ext (fun i hi => by
  rw [hx i hi, bt_nI _ hi, Nat.testBit_eq_decide_div_mod_eq, bmN_get]
  by_cases h1 : i < n
  · cases hp : p i <;> simp [h1]
  · simp [h1])
theorem sJ6_bitCount {x : Int32} {p : Nat → Bool} {n : Nat} {σ : Hp} {post : Int32 → Hp → Prop} (hx : ∀ k, k < 32 → bt x k = (decide (k < n) && p k)) (hn : n ≤ 12) (h : post (nI (fb_ct p n)) σ) : vJ6_bitCount_0f7a4 x σ post := by
  rintro _ rfl _ rfl _ rfl _ rfl _ rfl
  show post (bcV x) σ
  have hl := bmN_lt p n
  have h2 : 2 ^ n ≤ 2 ^ 12 := Nat.pow_le_pow_right (by omega) hn
  have h3 : (2 : Nat) ^ 12 = 4096 := by decide
  rw [bt_num hx, bc_all _ (by omega), pc_ct p hn]
  exact h
section CA
variable {σ : Hp} {g : Gm} {post : Int32 → Hp → Prop} {o co : Nat}
theorem sX2_comingTick (ho : isRd o) (hG : Gok g) (hI : CRi σ o co g) {i : Nat} {a : Int32} (hi : i < ns g) (ha : a = nI i) (h : post (ghs g i 0) σ) : vX2_comingTick o a σ post := by
  subst ha
  obtain ⟨f1, f2, f3, f4, f5, f6, f7, f8, f9, f10, f11, f12, f13, l2, l3, l4, l5, l6, l7, l8, l9, l10, l11, -⟩ := rd_fact ho
  obtain ⟨g1, -, -, -, g5, g6, g7, g8, -⟩ := id hG
  obtain ⟨r0, r1, r2⟩ := g6 i hi
  unfold vX2_comingTick
  rw [f3, f4, l2, nI_c (by omega), (hI.2.1 i hi).1, hI.2.2.2.2.1, nI_add]
  refine ⟨f1, f2, vp_in_nI (by omega) (by omega), ?_⟩
  rintro _ rfl
  rw [k24, nI_le2 (by omega) (by omega)]
  unfold ghs at h
  rw [if_pos rfl] at h
  refine ⟨fun c => ?_, fun c => ?_⟩
  · rw [if_neg (by omega)] at h; exact h
  · rw [if_pos (by omega)] at h; exact h
theorem sX2_conditionBehind (ho : isRd o) (hG : Gok g) (hB : CRb σ o g 24) {t k : Nat} {a b : Int32} (ht : t < 24) (hk : k < nd g) (ha : a = nI t) (hb : b = nI k) (h : post (nI (gst g (t + 1) k)) σ) : vX2_conditionBehind o a b σ post := by
  subst ha hb
  obtain ⟨f1, f2, f3, f4, f5, f6, f7, f8, f9, f10, f11, f12, f13, l2, l3, l4, l5, l6, l7, l8, l9, l10, l11, -⟩ := rd_fact ho
  have g1 := hG.1
  obtain ⟨b1, b2, -⟩ := hB t ht
  have hs := gst_le g (t + 1) k
  unfold vX2_conditionBehind
  rw [f8, f9, l6, l7, nI_c (by omega)]
  refine ⟨f1, vp_in_nI ht (by omega), sX8_isSet rfl (by omega) (fun q => ?_) (fun q => ?_)⟩ <;> rw [b1 k (by omega), decide_eq_true hk, Bool.true_and] at q
  · have q : gst g (t + 1) k = 2 := by simpa using q
    rw [q] at h
    exact ⟨fun q => absurd q (by decide), fun _ => h⟩
  · have q : ¬ gst g (t + 1) k = 2 := by simpa using q
    refine ⟨fun _ => ⟨vp_in_nI ht (by omega), sX8_isSet rfl (by omega) (fun q2 => ?_) (fun q2 => ?_)⟩, fun q => absurd rfl q⟩ <;> rw [b2 k (by omega), decide_eq_true hk, Bool.true_and] at q2
    · have q2 : gst g (t + 1) k = 1 := by simpa using q2
      rw [q2] at h
      exact ⟨fun q => absurd q (by decide), fun _ => h⟩
    · have q2 : ¬ gst g (t + 1) k = 1 := by simpa using q2
      rw [show gst g (t + 1) k = 0 by omega] at h
      exact ⟨fun _ => h, fun q => absurd rfl q⟩
theorem sX2_hitsBehind (ho : isRd o) (hG : Gok g) (hB : CRb σ o g 24) {t k : Nat} {a b : Int32} (ht : t < 24) (hk : k < nd g) (ha : a = nI t) (hb : b = nI k) (h : post (nI (ghi g (t + 1) k)) σ) : vX2_hitsBehind o a b σ post := by
  subst ha hb
  obtain ⟨f1, f2, f3, f4, f5, f6, f7, f8, f9, f10, f11, f12, f13, l2, l3, l4, l5, l6, l7, l8, l9, l10, l11, -⟩ := rd_fact ho
  have g1 := hG.1
  unfold vX2_hitsBehind
  rw [f10, l8, nI_c (by omega), (hB t ht).2.2, k4, nI_mul, nib_read (fun k => by have := ghi_le hG (t + 1) k; omega) g1 hk]
  exact ⟨f1, vp_in_nI ht (by omega), h⟩
theorem sX2_tellDuckBehind (ho : isRd o) (hc : isCo co) (hG : Gok g) (hS : CSt σ g) (hI : CRi σ o co g) (hB : CRb σ o g 24) {t k w : Nat} {a b c : Int32} (ht : t < 24) (hk : k < nd g) (hw : w < 3) (ha : a = nI t) (hb : b = nI k) (hcw : c = nI w) (h : post (nI (gat g t k w)) σ) : vX2_tellDuckBehind o a b c σ post := by
  subst hcw
  have f1 := (rd_fact ho).1
  unfold vX2_tellDuckBehind
  rw [hI.2.2.2.2.2.1]
  rcases (by omega : w = 0 ∨ w = 1 ∨ w = 2) with rfl | rfl | rfl
  · exact ⟨fun _ => ⟨f1, (co_fact hc).1, sX0_placeBehind hc hS hG hI.2.2.2.2.2.2.1 ht hk ha hb h⟩, fun q => absurd rfl q⟩
  · exact ⟨fun q => absurd q (by decide), fun _ => ⟨fun _ => ⟨f1, sX2_conditionBehind ho hG hB ht hk ha hb h⟩, fun q => absurd rfl q⟩⟩
  · exact ⟨fun q => absurd q (by decide), fun _ => ⟨fun q => absurd q (by decide), fun _ => ⟨f1, sX2_hitsBehind ho hG hB ht hk ha hb h⟩⟩⟩
theorem sX2_tellOutcome (ho : isRd o) (hG : Gok g) (hI : CRi σ o co g) (hS : CRs σ o g (sim g 24)) {i w : Nat} {a b : Int32} (hi : i < ns g) (hw : w < 3) (ha : a = nI i) (hb : b = nI w) (h : post (ghs g i w) σ) : vX2_tellOutcome o a b σ post := by
  subst hb
  obtain ⟨f1, f2, f3, f4, f5, f6, f7, f8, f9, f10, f11, f12, f13, l2, l3, l4, l5, l6, l7, l8, l9, l10, l11, -⟩ := rd_fact ho
  have g5 := hG.2.2.2.2.1
  obtain ⟨x1, x2⟩ := hS.2.2.2.1 i hi
  unfold vX2_tellOutcome
  rcases (by omega : w = 0 ∨ w = 1 ∨ w = 2) with rfl | rfl | rfl
  · exact ⟨fun _ => ⟨f1, sX2_comingTick ho hG hI hi ha h⟩, fun q => absurd rfl q⟩
  · subst ha
    refine ⟨fun q => absurd q (by decide), fun _ => ⟨fun _ => ⟨f1, ?_⟩, fun q => absurd rfl q⟩⟩
    rw [f11, l9, nI_c (by omega), x1]
    exact ⟨vp_in_nI (by omega) (by omega), h⟩
  · subst ha
    refine ⟨fun q => absurd q (by decide), fun _ => ⟨fun q => absurd q (by decide), fun _ => ⟨f1, ?_⟩⟩⟩
    rw [f12, l10, nI_c (by omega), x2]
    exact ⟨vp_in_nI (by omega) (by omega), h⟩
theorem sX2_tellSum (ho : isRd o) (hG : Gok g) (h13 : σ.1 (o + 1) 3 = nI (ns g)) (hS : CRs σ o g (sim g 24)) {w : Nat} {a : Int32} (hw : w < 3) (ha : a = nI w) (h : post (nI (gsum g w)) σ) : vX2_tellSum o a σ post := by
  subst ha
  obtain ⟨f1, f2, f3, -⟩ := rd_fact ho
  have g5 := hG.2.2.2.2.1
  unfold vX2_tellSum
  refine ⟨f1, sJ6_bitCount (p := fun i => (sim g 24).2.2.1 i != 0) hS.2.2.2.2.2 g5 ?_⟩
  rcases (by omega : w = 0 ∨ w = 1 ∨ w = 2) with rfl | rfl | rfl
  · refine ⟨fun _ => ?_, fun q => absurd rfl q⟩
    rw [hS.2.2.2.2.1]; exact h
  · exact ⟨fun q => absurd q (by decide), fun _ => ⟨fun _ => h, fun q => absurd rfl q⟩⟩
  · refine ⟨fun q => absurd q (by decide), fun _ => ⟨fun q => absurd q (by decide), fun _ => ?_⟩⟩
    rw [f3, h13]
    refine ⟨f2, ?_⟩
    have e := pk_sub (gmany_le g)
    have e : nI (ns g) - nI (fb_ct (fun i => (sim g 24).2.2.1 i != 0) (ns g)) = nI (ns g - gmany g) := e
    rw [e]; exact h
end CA
