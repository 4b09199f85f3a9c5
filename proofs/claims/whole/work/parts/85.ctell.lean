/-! ===== the class: calls that tell ===== -/
section CV
variable {σ σ' : Hp} {T : Td} {post : Int32 → Hp → Prop} {postv : Hp → Prop}
/-- texts; the rifle; events; what was seen; sheets; the latest finding -/
def B1 : Nat → Nat → Bool := fun a b => (Nat.ble 54 a && Nat.ble a 62) || (Nat.beq a 0 && Nat.beq b 9)
def B2 : Nat → Nat → Bool := fun a b => (Nat.beq a 23 && (Nat.beq b 3 || Nat.beq b 4)) || (Nat.beq a 0 && Nat.beq b 9)
def B3 : Nat → Nat → Bool := fun a b => (Nat.ble 10 a && Nat.ble a 14) || (Nat.beq a 0 && Nat.beq b 9)
def B4 : Nat → Nat → Bool := fun a _ => Nat.ble 47 a && Nat.ble a 50
def B5 : Nat → Nat → Bool := fun a _ => Nat.ble 63 a && Nat.ble a 70
def B6 : Nat → Nat → Bool := fun a b => Nat.beq a 0 && Nat.beq b 15
theorem rg_f {lo hi a : Nat} (h : a < lo ∨ hi < a) : (Nat.ble lo a && Nat.ble a hi) = false := by
  rcases h with h | h
  · rw [ble_f h]; rfl
  · rw [ble_f h, Bool.and_false]
theorem rg_t {lo hi a : Nat} (h : lo ≤ a) (h2 : a ≤ hi) : (Nat.ble lo a && Nat.ble a hi) = true := by
  rw [Nat.ble_eq_true_of_le h, Nat.ble_eq_true_of_le h2]; rfl
theorem B1_f {a b : Nat} (h : a < 54 ∨ 62 < a) (h2 : a ≠ 0) : B1 a b = false := by unfold B1; rw [rg_f h, beq_f h2]; rfl
theorem B2_f {a b : Nat} (h : a ≠ 23) (h2 : a ≠ 0) : B2 a b = false := by unfold B2; rw [beq_f h, beq_f h2]; rfl
theorem B3_f {a b : Nat} (h : a < 10 ∨ 14 < a) (h2 : a ≠ 0) : B3 a b = false := by unfold B3; rw [rg_f h, beq_f h2]; rfl
theorem B4_f {a b : Nat} (h : a < 47 ∨ 50 < a) : B4 a b = false := rg_f h
theorem B5_f {a b : Nat} (h : a < 63 ∨ 70 < a) : B5 a b = false := rg_f h
theorem B6_f {a b : Nat} (h : a ≠ 0 ∨ b ≠ 15) : B6 a b = false := by
  unfold B6
  rcases h with h | h
  · rw [beq_f h]; rfl
  · rw [beq_f h, Bool.and_false]
theorem CTx.fr2 {t n : Nat} {B : Nat → Nat} {A : Nat → Nat → Bool} (ht : t < 3) (h : CTx σ t n B) (hF : Fr A σ σ') (hA : ∀ a b, 54 ≤ a → a ≤ 62 → A a b = false) : CTx σ' t n B := by
  obtain ⟨b1, b2, b3, b4, b5, b6⟩ := h
  refine ⟨?_, ?_, ?_, ?_, b5, fun i hi => ?_⟩
  · rw [hF.i (hA _ _ (by omega) (by omega))]; exact b1
  · rw [hF.i (hA _ _ (by omega) (by omega))]; exact b2
  · rw [hF.i (hA _ _ (by omega) (by omega))]; exact b3
  · rw [hF.i (hA _ _ (by omega) (by omega))]; exact b4
  · rw [hF.i (hA _ _ (by omega) (by omega))]; exact b6 i hi
theorem CSn.fr {n : Nat} {Q : Nat → Nat → Nat} {A : Nat → Nat → Bool} (h : CSn σ n Q) (hF : Fr A σ σ') (hA : ∀ a b, 47 ≤ a → a ≤ 50 → A a b = false) : CSn σ' n Q := by
  obtain ⟨b1, b2, b3⟩ := h
  refine ⟨by rw [hF.i (hA _ _ (by omega) (by omega))]; exact b1, b2, fun j hj => ?_⟩
  rw [hF.i (hA 48 _ (by omega) (by omega)), hF.i (hA 49 _ (by omega) (by omega)), hF.i (hA 50 _ (by omega) (by omega))]; exact b3 j hj
theorem CSh.fr {A : Nat → Nat → Bool} (h : CSh σ T) (hF : Fr A σ σ') (hA : ∀ a b, 63 ≤ a → a ≤ 70 → A a b = false) : CSh σ' T := fun s hs => by
  obtain ⟨b1, b2, b3, b4⟩ := h s hs
  refine ⟨?_, ?_, ?_, fun i hi => ?_⟩
  · rw [hF.i (hA _ _ (by omega) (by omega))]; exact b1
  · rw [hF.i (hA _ _ (by omega) (by omega))]; exact b2
  · rw [hF.i (hA _ _ (by omega) (by omega))]; exact b3
  · rw [hF.i (hA _ _ (by omega) (by omega))]; exact b4 i hi
theorem CEv.fr2 {n : Nat} {E : Nat → Nat → Nat} {A : Nat → Nat → Bool} (h : CEv σ n E) (hF : Fr A σ σ') (hA : ∀ a b, 10 ≤ a → a ≤ 14 → A a b = false) : CEv σ' n E := h.fr hF (hA _ _ (by omega) (by omega)) (fun b => hA _ _ (by omega) (by omega)) (fun b => hA _ _ (by omega) (by omega)) (fun b => hA _ _ (by omega) (by omega)) (fun b => hA _ _ (by omega) (by omega))
theorem CTd.m1 (h : CTd σ T) (hF : Fr B1 σ σ') {x : (Nat → Nat) × (Nat → Nat → Nat)} (hn : ∀ t, t < 3 → CTx σ' t (x.1 t) (x.2 t)) : CTd σ' (x, T.2) := by
  obtain ⟨a1, a2, a3, a4, a5, a6, a7, a8⟩ := h
  have a6 : CSh σ' T := a6.fr hF (fun a b _ _ => B1_f (by omega) (by omega))
  exact ⟨hn, by rw [hF.i rfl]; exact a2, by rw [hF.i rfl]; exact a3, a4.fr2 hF (fun a b _ _ => B1_f (by omega) (by omega)), a5.fr hF (fun a b _ _ => B1_f (by omega) (by omega)), a6, by rw [hF.i rfl]; exact a7, by rw [hF.n rfl]; exact a8⟩
theorem CTd.m2 (h : CTd σ T) (hF : Fr B2 σ σ') {x : Nat × Nat} (h0 : σ'.1 23 3 = nI x.1) (h1 : σ'.1 23 4 = nI x.2) : CTd σ' (T.1, x, T.2.2) := by
  obtain ⟨a1, a2, a3, a4, a5, a6, a7, a8⟩ := h
  have a6 : CSh σ' T := a6.fr hF (fun a b _ _ => B2_f (by omega) (by omega))
  exact ⟨fun t ht => (a1 t ht).fr2 ht hF (fun a b _ _ => B2_f (by omega) (by omega)), h0, h1, a4.fr2 hF (fun a b _ _ => B2_f (by omega) (by omega)), a5.fr hF (fun a b _ _ => B2_f (by omega) (by omega)), a6, by rw [hF.i rfl]; exact a7, by rw [hF.n rfl]; exact a8⟩
theorem CTd.m3 (h : CTd σ T) (hF : Fr B3 σ σ') {x : Nat × (Nat → Nat → Nat)} (h0 : CEv σ' x.1 x.2) : CTd σ' (T.1, T.2.1, x, T.2.2.2) := by
  obtain ⟨a1, a2, a3, a4, a5, a6, a7, a8⟩ := h
  have a6 : CSh σ' T := a6.fr hF (fun a b _ _ => B3_f (by omega) (by omega))
  exact ⟨fun t ht => (a1 t ht).fr2 ht hF (fun a b _ _ => B3_f (by omega) (by omega)), by rw [hF.i rfl]; exact a2, by rw [hF.i rfl]; exact a3, h0, a5.fr hF (fun a b _ _ => B3_f (by omega) (by omega)), a6, by rw [hF.i rfl]; exact a7, by rw [hF.n rfl]; exact a8⟩
theorem CTd.m4 (h : CTd σ T) (hF : Fr B4 σ σ') {x : Nat × (Nat → Nat → Nat)} (h0 : CSn σ' x.1 x.2) : CTd σ' (T.1, T.2.1, T.2.2.1, x, T.2.2.2.2) := by
  obtain ⟨a1, a2, a3, a4, a5, a6, a7, a8⟩ := h
  have a6 : CSh σ' T := a6.fr hF (fun a b _ _ => B4_f (by omega))
  exact ⟨fun t ht => (a1 t ht).fr2 ht hF (fun a b _ _ => B4_f (by omega)), by rw [hF.i rfl]; exact a2, by rw [hF.i rfl]; exact a3, a4.fr2 hF (fun a b _ _ => B4_f (by omega)), h0, a6, by rw [hF.i rfl]; exact a7, by rw [hF.n rfl]; exact a8⟩
theorem CTd.m5 (h : CTd σ T) (hF : Fr B5 σ σ') {x : (Nat → Bool) × (Nat → Nat) × (Nat → Nat) × (Nat → Nat → Int32)} (h0 : CSh σ' (shT T x)) : CTd σ' (shT T x) := by
  obtain ⟨a1, a2, a3, a4, a5, a6, a7, a8⟩ := h
  exact ⟨fun t ht => (a1 t ht).fr2 ht hF (fun a b _ _ => B5_f (by omega)), by rw [hF.i rfl]; exact a2, by rw [hF.i rfl]; exact a3, a4.fr2 hF (fun a b _ _ => B5_f (by omega)), a5.fr hF (fun a b _ _ => B5_f (by omega)), h0, by rw [hF.i rfl]; exact a7, by rw [hF.n rfl]; exact a8⟩
theorem CTd.m6 (h : CTd σ T) (hF : Fr B6 σ σ') {k : Nat} (h0 : σ'.1 0 15 = nI k) : CTd σ' (fdT T k) := by
  obtain ⟨a1, a2, a3, a4, a5, a6, a7, a8⟩ := h
  have a6 : CSh σ' T := a6.fr hF (fun a b _ _ => B6_f (by omega))
  exact ⟨fun t ht => (a1 t ht).fr2 ht hF (fun a b _ _ => B6_f (by omega)), by rw [hF.i rfl]; exact a2, by rw [hF.i rfl]; exact a3, a4.fr2 hF (fun a b _ _ => B6_f (by omega)), a5.fr hF (fun a b _ _ => B6_f (by omega)), a6, h0, by rw [hF.n rfl]; exact a8⟩
/-- cells of what was worked out -/
def KW (a : Nat) : Prop := (2 ≤ a ∧ a ≤ 9) ∨ (15 ≤ a ∧ a ≤ 18) ∨ (23 ≤ a ∧ a ≤ 34) ∨ (54 ≤ a ∧ a ≤ 62)
theorem CK.fr {A : Nat → Nat → Bool} (h : CK σ T) (hF : Fr A σ σ') (hA : ∀ a b, KW a → A a b = false) : CK σ' T := by
  obtain ⟨k1, k2, k3, k4, k5⟩ := h
  have r : ∀ a, KW a → σ'.1 a = σ.1 a := fun a hk => hF.r (fun b => hA a b hk)
  refine ⟨fun t ht => (k1 t ht).fr (hF.i (hA _ _ (by unfold KW; omega))) (hF.i (hA _ _ (by unfold KW; omega))) (r _ (by unfold KW; omega)), k2.fr hF (hA _ _ (by unfold KW; omega)) (fun b => hA _ _ (by unfold KW; omega)) (fun b => hA _ _ (by unfold KW; omega)) (fun b => hA _ _ (by unfold KW; omega)) (fun b => hA _ _ (by unfold KW; omega)) (fun b => hA _ _ (by unfold KW; omega)) (fun b => hA _ _ (by unfold KW; omega)) (fun b => hA _ _ (by unfold KW; omega)), ?_, ?_, ?_⟩
  · obtain ⟨b1, b2, b3, b4, b5, b6, b7, b8, b9⟩ := k3
    refine ⟨?_, ?_, ?_, ?_, ?_, ?_, b7.eq (r _ (by unfold KW; omega)) (r _ (by unfold KW; omega)) (r _ (by unfold KW; omega)), ?_, ?_⟩
    · rw [r _ (by unfold KW; omega)]; exact b1
    · rw [r 25 (by unfold KW; omega), r 26 (by unfold KW; omega), r 27 (by unfold KW; omega)]; exact b2
    · rw [r 28 (by unfold KW; omega)]; exact b3
    · rw [r _ (by unfold KW; omega)]; exact b4
    · rw [r _ (by unfold KW; omega)]; exact b5
    · rw [hF.n (hA 23 5 (by unfold KW; omega))]; exact b6
    · unfold CFm at b8 ⊢; rw [r 8 (by unfold KW; omega)]; exact b8
    · rw [r 7 (by unfold KW; omega)]; exact b9
  · unfold CRs at k4 ⊢
    rw [r 23 (by unfold KW; omega), r (23 + 9) (by unfold KW; omega), r (23 + 10) (by unfold KW; omega), hF.l (hA 23 16 (by unfold KW; omega))]; exact k4
  · unfold CRb at k5 ⊢
    rw [r (23 + 6) (by unfold KW; omega), r (23 + 7) (by unfold KW; omega), hF.rl (a := 23 + 8) (fun b => hA _ _ (by unfold KW; omega))]; exact k5
theorem CI.td (h : CI σ T) : CTd σ T := by
  rcases h with h | h
  · exact h.1
  · exact h.1.1
/-- what was worked out stays -/
theorem CI.keep {A : Nat → Nat → Bool} (h : CI σ T) (hF : Fr A σ σ') (hA : ∀ a b, KW a → A a b = false) (h9 : A 0 9 = false) (h10 : A 0 10 = false) (h52 : ∀ b, A 52 b = false) {x : (Nat × (Nat → Nat → Nat)) × ((Nat → Bool) × (Nat → Nat) × (Nat → Nat) × (Nat → Nat → Int32)) × Nat} (hT : CTd σ' (T.1, T.2.1, T.2.2.1, x)) : CI σ' (T.1, T.2.1, T.2.2.1, x) := by
  rcases h with ⟨h1, h2⟩ | ⟨⟨h1, h2, h3⟩, h4⟩
  · exact Or.inl ⟨hT, by rw [hF.i h9]; exact h2⟩
  · have k : CK σ' T := h3.fr hF hA
    refine Or.inr ⟨⟨hT, by rw [hF.i h9]; exact h2, k⟩, ?_⟩
    unfold CCh CHc
    rw [hF.i h10, hF.r h52]
    exact h4
theorem B1_cl (hF : Fr B1 σ σ') : Cls σ σ' := Cls.of hF (fun a b h => B1_f (by omega) (by omega))
theorem B2_cl (hF : Fr B2 σ σ') : Cls σ σ' := Cls.of hF (fun a b h => B2_f (by omega) (by omega))
theorem B3_cl (hF : Fr B3 σ σ') : Cls σ σ' := Cls.of hF (fun a b h => B3_f (by omega) (by omega))
theorem B4_cl (hF : Fr B4 σ σ') : Cls σ σ' := Cls.of hF (fun a b h => B4_f (by omega))
theorem B5_cl (hF : Fr B5 σ σ') : Cls σ σ' := Cls.of hF (fun a b h => B5_f (by omega))
theorem B6_cl (hF : Fr B6 σ σ') : Cls σ σ' := Cls.of hF (fun a b h => B6_f (by omega))
theorem rt_tx : ∀ t, t < 3 → rt 1 (nI t).toNatClampNeg = 54 + 3 * t := by decide
theorem sC_type (hI : CI σ T) (hO : Tok T) {p q : Int32} (h : ∀ σ', Cls σ σ' → CI σ' (r_type T p q).2 → post (r_type T p q).1 σ') : vX8_type p q σ post := by
  have hb := h σ Cls.rf
  refine gW (n := 3) (by omega) rfl (fun q => ?_) (fun t ht e => gW (n := 256) (by omega) rfl (fun q => ?_) (fun b hb2 e2 => ?_))
  · rw [r_type, iff_f (by rw [q]; rfl)] at hb; exact hb hI
  · rw [r_type, iff_f (by rw [q]; simp)] at hb; exact hb hI
  · subst e e2
    rw [r_type, iff_t (by rw [ib_t ht (by omega), ib_t hb2 (by omega)]; rfl), Nn_nI (by omega), Nn_nI (by omega)] at h hb
    obtain ⟨f1, f2, f3, f4, f5, f6, f7⟩ := tx_fact t ht
    obtain ⟨b0, b1, b2, b3, b4, b5⟩ := hI.td.1 t ht
    have hlim : lim t ≤ 59 := by unfold lim; repeat' split
                                 all_goals omega
    rw [rt_tx t ht]
    refine ⟨vp_in_nI ht (by omega), f1, ?_⟩
    unfold vX7_isFull
    rw [f2, f5, b3, nI_lt2 (by omega) (by omega)]
    refine ⟨f1, f4, fun q => ?_, fun q => ?_⟩
    · rw [if_neg (by omega)] at h
      refine ⟨fun _ => ⟨vp_in_nI ht (by omega), ?_⟩, fun q => absurd rfl q⟩
      unfold vX7_append
      rw [f2, f6, b3, nI_c (by omega)]
      refine ⟨f1, vp_in_nI (by omega) (by omega), ?_⟩
      rintro _ rfl _ rfl σ2 hS2
      rw [wI_ne (by omega), b3, nI_1] at hS2
      refine ⟨vp_in_nI ht (by omega), ?_⟩
      have hF : Fr B1 σ σ2 := by
        rw [hS2]
        exact ((Fr.wI (by unfold B1; rw [rg_t (by omega) (by omega)]; rfl)).tr' (Fr.wI (by unfold B1; rw [rg_t (by omega) (by omega)]; rfl))).tr' (Fr.wI rfl)
      have e5 : σ2.1 (54 + 3 * t) 5 = nI (tn T t + 1) := by rw [hS2, wI_ne (by omega), wI_at, if_pos rfl]
      have e9 : σ2.1 0 9 = 0 := by rw [hS2, wI_at, if_pos rfl]
      rw [e5]
      refine h σ2 (B1_cl hF) (Or.inl ⟨hI.td.m1 hF (fun t' ht' => ?_), e9⟩)
      obtain ⟨c0, c1, c2, c3, c4, c5⟩ := hI.td.1 t' ht'
      by_cases et : t' = t
      · subst et
        refine ⟨?_, ?_, ?_, ?_, ?_, fun i hi => ?_⟩
        · rw [hS2, wI_ne (by omega), wI_nf (by decide), wI_ne (by omega)]; exact c0
        · rw [hS2, wI_ne (by omega), wI_nf (by decide), wI_ne (by omega)]; exact c1
        · rw [hS2, wI_ne (by omega), wI_nf (by decide), wI_ne (by omega)]; exact c2
        · rw [e5]; show _ = nI (up _ _ _ _); rw [up_s]
        · show up _ _ _ _ ≤ _; rw [up_s]; omega
        · have hi : i < tn T t' + 1 := by
            have : i < up (tn T) t' (tn T t' + 1) t' := hi
            rw [up_s] at this; exact this
          show _ = nI (upB (tB T) t' (tn T t') b t' i) ∧ upB (tB T) t' (tn T t') b t' i < 256
          rw [hS2, wI_ne (by omega), wI_ne (by omega), wI_at]
          unfold upB
          by_cases ei : i = tn T t'
          · rw [if_pos ei, if_pos ⟨rfl, ei⟩]; exact ⟨rfl, hb2⟩
          · rw [if_neg ei, if_neg (fun h => ei h.2)]; exact c5 i (by omega)
      · have eB : upB (tB T) t (tn T t) b t' = tB T t' := by
          funext i; unfold upB; rw [if_neg (fun h => et h.1)]
        have eN : up (tn T) t (tn T t + 1) t' = tn T t' := if_neg et
        show CTx σ2 t' (up (tn T) t (tn T t + 1) t') (upB (tB T) t (tn T t) b t')
        rw [eB, eN]
        refine ⟨?_, ?_, ?_, ?_, c4, fun i hi => ?_⟩
        · rw [hS2, wI_ne (by omega), wI_ne (by omega), wI_ne (by omega)]; exact c0
        · rw [hS2, wI_ne (by omega), wI_ne (by omega), wI_ne (by omega)]; exact c1
        · rw [hS2, wI_ne (by omega), wI_ne (by omega), wI_ne (by omega)]; exact c2
        · rw [hS2, wI_ne (by omega), wI_ne (by omega), wI_ne (by omega)]; exact c3
        · rw [hS2, wI_ne (by omega), wI_ne (by omega), wI_ne (by omega)]; exact c5 i hi
    · rw [if_pos (by omega)] at hb
      exact ⟨fun q => absurd q (by decide), fun _ => hb hI⟩
/-- a text gets shorter -/
theorem CTd.short (hT : CTd σ T) {t n : Nat} (ht : t < 3) (hn : n ≤ tn T t) (hS : σ' = wI (wI σ (54 + 3 * t) 5 (nI n)) 0 9 0) : CTd σ' ((up (tn T) t n, tB T), T.2) ∧ Fr B1 σ σ' ∧ σ'.1 0 9 = 0 ∧ σ'.1 (54 + 3 * t) 5 = nI n := by
  have hF : Fr B1 σ σ' := by
    rw [hS]
    exact (Fr.wI (by unfold B1; rw [rg_t (by omega) (by omega)]; rfl)).tr' (Fr.wI rfl)
  refine ⟨hT.m1 hF (fun t' ht' => ?_), hF, by rw [hS, wI_at, if_pos rfl], by rw [hS, wI_ne (by omega), wI_at, if_pos rfl]⟩
  obtain ⟨c0, c1, c2, c3, c4, c5⟩ := hT.1 t' ht'
  by_cases et : t' = t
  · subst et
    show CTx σ' t' (up (tn T) t' n t') (tB T t')
    rw [up_s]
    refine ⟨?_, ?_, ?_, ?_, by omega, fun i hi => ?_⟩
    · rw [hS, wI_ne (by omega), wI_nf (by decide)]; exact c0
    · rw [hS, wI_ne (by omega), wI_nf (by decide)]; exact c1
    · rw [hS, wI_ne (by omega), wI_nf (by decide)]; exact c2
    · rw [hS, wI_ne (by omega), wI_at, if_pos rfl]
    · rw [hS, wI_ne (by omega), wI_ne (by omega)]; exact c5 i (by omega)
  · have eN : up (tn T) t n t' = tn T t' := if_neg et
    show CTx σ' t' (up (tn T) t n t') (tB T t')
    rw [eN]
    refine ⟨?_, ?_, ?_, ?_, c4, fun i hi => ?_⟩
    · rw [hS, wI_ne (by omega), wI_ne (by omega)]; exact c0
    · rw [hS, wI_ne (by omega), wI_ne (by omega)]; exact c1
    · rw [hS, wI_ne (by omega), wI_ne (by omega)]; exact c2
    · rw [hS, wI_ne (by omega), wI_ne (by omega)]; exact c3
    · rw [hS, wI_ne (by omega), wI_ne (by omega)]; exact c5 i hi
theorem sC_wipe (hI : CI σ T) (hO : Tok T) {p : Int32} (h : ∀ σ', Cls σ σ' → CI σ' (r_wipe T p).2 → post (r_wipe T p).1 σ') : vX8_wipe p σ post := by
  refine gW (n := 3) (by omega) rfl (fun q => ?_) (fun t ht e => ?_)
  · have hb := h σ Cls.rf; rw [r_wipe, iff_f q] at hb; exact hb hI
  · subst e
    rw [r_wipe, iff_t (ib_t ht (by omega)), Nn_nI (by omega)] at h
    obtain ⟨f1, f2, f3, f4, f5, f6, f7⟩ := tx_fact t ht
    rw [rt_tx t ht]
    refine ⟨vp_in_nI ht (by omega), f1, ?_⟩
    rintro _ rfl
    refine ⟨vp_in_nI ht (by omega), ?_⟩
    rintro _ rfl σ2 hS2
    obtain ⟨c1, c2, c3, c4⟩ := CTd.short (σ' := σ2) hI.td ht (Nat.zero_le _) hS2
    rw [(hI.td.1 t ht).2.2.2.1]
    exact h σ2 (B1_cl c2) (Or.inl ⟨c1, c3⟩)
theorem sC_undo (hI : CI σ T) (hO : Tok T) {p : Int32} (h : ∀ σ', Cls σ σ' → CI σ' (r_undo T p).2 → post (r_undo T p).1 σ') : vX8_undo p σ post := by
  refine gW (n := 3) (by omega) rfl (fun q => ?_) (fun t ht e => ?_)
  · have hb := h σ Cls.rf; rw [r_undo, iff_f q] at hb; exact hb hI
  · subst e
    rw [r_undo, iff_t (ib_t ht (by omega)), Nn_nI (by omega)] at h
    obtain ⟨f1, f2, f3, f4, f5, f6, f7⟩ := tx_fact t ht
    obtain ⟨b0, b1, b2, b3, b4, b5⟩ := hI.td.1 t ht
    have hlim : lim t ≤ 59 := by unfold lim; repeat' split
                                 all_goals omega
    rw [rt_tx t ht, b3]
    refine ⟨vp_in_nI ht (by omega), f1, ?_⟩
    rw [k0, nI_eq2 (by omega) (by omega)]
    refine ⟨fun q => ?_, fun q => ⟨vp_in_nI ht (by omega), ?_⟩⟩
    · have hb := h σ Cls.rf; rw [if_pos q] at hb; exact hb hI
    · rw [if_neg q] at h
      rintro _ rfl σ2 hS2
      rw [k1, pk_sub (by omega)] at hS2
      obtain ⟨c1, c2, c3, c4⟩ := CTd.short (σ' := σ2) hI.td ht (by omega) hS2
      refine ⟨vp_in_nI ht (by omega), ?_⟩
      rw [c4]
      exact h σ2 (B1_cl c2) (Or.inl ⟨c1, c3⟩)
theorem sC_rifle (hI : CI σ T) (hO : Tok T) {p q : Int32} (h : ∀ σ', Cls σ σ' → CI σ' (r_rifle T p q).2 → post (r_rifle T p q).1 σ') : vX8_rifle p q σ post := by
  have hb := h σ Cls.rf
  obtain ⟨-, b2, b3, -⟩ := hI.td
  refine gW (n := 2) (by omega) rfl (fun q => ?_) (fun t ht e => ?_)
  · rw [r_rifle, iff_f (by rw [q]; rfl)] at hb; exact hb hI
  · subst e
    rw [k0, nI_eq2 (by omega) (by omega)]
    refine ⟨fun q0 => ?_, fun q0 => ?_⟩
    · subst q0
      refine gW (n := 5) (by omega) rfl (fun q => ?_) (fun v hv e => ?_)
      · rw [r_rifle, iff_f (by rw [ib_t ht (by omega), Nn_nI (by omega), if_pos rfl, q]; rfl)] at hb; exact hb hI
      · subst e
        rw [r_rifle, iff_t (by rw [ib_t ht (by omega), Nn_nI (by omega), if_pos rfl, ib_t hv (by omega)]; rfl), Nn_nI (by omega), Nn_nI (by omega), if_pos rfl] at h
        refine ⟨fun _ => ⟨fun _ => ?_, fun q => absurd rfl q⟩, fun q => absurd rfl q⟩
        rintro _ rfl σ2 hS2
        have hF : Fr B2 σ σ2 := by rw [hS2]; exact (Fr.wI rfl).tr' (Fr.wI rfl)
        rw [b2]
        exact h σ2 (B2_cl hF) (Or.inl ⟨hI.td.m2 hF (by rw [hS2, wI_ne (by decide), wI_at, if_pos rfl]) (by rw [hS2, wI_ne (by decide), wI_nf (by decide)]; exact b3), by rw [hS2, wI_at, if_pos rfl]⟩)
    · have e1 : t = 1 := by omega
      subst e1
      refine gW (n := 4) (by omega) rfl (fun q => ?_) (fun v hv e => ?_)
      · rw [r_rifle, iff_f (by rw [ib_t ht (by omega), Nn_nI (by omega), if_neg (by decide), q]; rfl)] at hb; exact hb hI
      · subst e
        rw [r_rifle, iff_t (by rw [ib_t ht (by omega), Nn_nI (by omega), if_neg (by decide), ib_t hv (by omega)]; rfl), Nn_nI (by omega), Nn_nI (by omega), if_neg (by decide)] at h
        refine ⟨fun q => absurd q (by decide), fun _ => ⟨fun q => absurd q (by decide), fun _ => ?_⟩⟩
        rintro _ rfl σ2 hS2
        have hF : Fr B2 σ σ2 := by rw [hS2]; exact (Fr.wI rfl).tr' (Fr.wI rfl)
        rw [b3]
        exact h σ2 (B2_cl hF) (Or.inl ⟨hI.td.m2 hF (by rw [hS2, wI_ne (by decide), wI_nf (by decide)]; exact b2) (by rw [hS2, wI_ne (by decide), wI_at, if_pos rfl]), by rw [hS2, wI_at, if_pos rfl]⟩)
end CV
