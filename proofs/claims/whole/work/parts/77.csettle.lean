/-! ===== the class holds what was told; settle ===== -/
def CSn (σ : Hp) (n : Nat) (Q : Nat → Nat → Nat) : Prop := σ.1 47 3 = nI n ∧ n ≤ 8 ∧ ∀ j, j < n → σ.1 48 j = nI (Q j 0) ∧ σ.1 49 j = nI (Q j 1) ∧ σ.1 50 j = nI (Q j 2) ∧ Q j 0 < 24 ∧ Q j 1 < 12 ∧ Q j 2 < 2
def CSh (σ : Hp) (T : Td) : Prop := ∀ s, s < 4 → σ.1 (63 + 2 * s) 1 = nI (tfo T s) ∧ σ.1 (63 + 2 * s) 2 = nI (tsz T s) ∧ σ.1 (63 + 2 * s) 3 = (if tls T s then 1 else 0) ∧ ∀ i, i < tsz T s → σ.1 (64 + 2 * s) i = tit T s i
def CTd (σ : Hp) (T : Td) : Prop := (∀ t, t < 3 → CTx σ t (tn T t) (tB T t)) ∧ σ.1 23 3 = nI (tpu T) ∧ σ.1 23 4 = nI (tfl T) ∧ CEv σ (tne T) (tE T) ∧ CSn σ (tnq T) (tQ T) ∧ CSh σ T ∧ σ.1 0 15 = nI (tfd T) ∧ σ.2.2 23 5 = 15
/-- what was worked out -/
def CK (σ : Hp) (T : Td) : Prop := (∀ t, t < 3 → CEx σ t (tn T t) (tB T t)) ∧ CSt σ (gmT T) ∧ CRi σ 23 15 (gmT T) ∧ CRs σ 23 (gmT T) (sim (gmT T) 24) ∧ CRb σ 23 (gmT T) 24
def CSe (σ : Hp) (T : Td) : Prop := CTd σ T ∧ σ.1 0 9 = 1 ∧ CK σ T
/-- cells of what was told -/
def KT (a b : Nat) : Prop := (a = 55 ∨ a = 58 ∨ a = 61) ∨ ((a = 54 ∨ a = 57 ∨ a = 60) ∧ b ≤ 5) ∨ (a = 23 ∧ b ≤ 5) ∨ (10 ≤ a ∧ a ≤ 14) ∨ (47 ≤ a ∧ a ≤ 50) ∨ (63 ≤ a ∧ a ≤ 70) ∨ (a = 0 ∧ b = 15)
/-- and of what was worked out of it -/
def KS (a b : Nat) : Prop := (a = 0 ∧ (b = 9 ∨ b = 15)) ∨ (2 ≤ a ∧ a ≤ 18) ∨ (23 ≤ a ∧ a ≤ 34) ∨ (47 ≤ a ∧ a ≤ 50) ∨ (54 ≤ a ∧ a ≤ 70)
theorem CTd.fr {σ σ' : Hp} {T : Td} {A : Nat → Nat → Bool} (h : CTd σ T) (hF : Fr A σ σ') (hA : ∀ a b, KT a b → A a b = false) : CTd σ' T := by
  obtain ⟨a1, a2, a3, a4, a5, a6, a7, a8⟩ := h
  have e : ∀ a b, KT a b → σ'.1 a b = σ.1 a b := fun a b hk => hF.i (hA a b hk)
  refine ⟨fun t ht => ?_, ?_, ?_, ?_, ?_, fun s hs => ?_, ?_, ?_⟩
  · obtain ⟨b1, b2, b3, b4, b5, b6⟩ := a1 t ht
    refine ⟨?_, ?_, ?_, ?_, b5, fun i hi => ?_⟩
    · rw [e _ _ (by unfold KT; omega)]; exact b1
    · rw [e _ _ (by unfold KT; omega)]; exact b2
    · rw [e _ _ (by unfold KT; omega)]; exact b3
    · rw [e _ _ (by unfold KT; omega)]; exact b4
    · rw [e _ _ (by unfold KT; omega)]; exact b6 i hi
  · rw [e _ _ (by unfold KT; omega)]; exact a2
  · rw [e _ _ (by unfold KT; omega)]; exact a3
  · exact a4.fr hF (hA _ _ (by unfold KT; omega)) (fun b => hA _ _ (by unfold KT; omega)) (fun b => hA _ _ (by unfold KT; omega)) (fun b => hA _ _ (by unfold KT; omega)) (fun b => hA _ _ (by unfold KT; omega))
  · obtain ⟨b1, b2, b3⟩ := a5
    refine ⟨by rw [e _ _ (by unfold KT; omega)]; exact b1, b2, fun j hj => ?_⟩
    rw [e 48 _ (by unfold KT; omega), e 49 _ (by unfold KT; omega), e 50 _ (by unfold KT; omega)]; exact b3 j hj
  · obtain ⟨b1, b2, b3, b4⟩ := a6 s hs
    refine ⟨?_, ?_, ?_, fun i hi => ?_⟩
    · rw [e _ _ (by unfold KT; omega)]; exact b1
    · rw [e _ _ (by unfold KT; omega)]; exact b2
    · rw [e _ _ (by unfold KT; omega)]; exact b3
    · rw [e _ _ (by unfold KT; omega)]; exact b4 i hi
  · rw [e _ _ (by unfold KT; omega)]; exact a7
  · rw [hF.n (hA 23 5 (by unfold KT; omega))]; exact a8
theorem CEx.fr {σ σ' : Hp} {t n : Nat} {B : Nat → Nat} (h : CEx σ t n B) (h6 : σ'.1 (54 + 3 * t) 6 = σ.1 (54 + 3 * t) 6) (h7 : σ'.1 (54 + 3 * t) 7 = σ.1 (54 + 3 * t) 7) (h8 : σ'.1 (56 + 3 * t) = σ.1 (56 + 3 * t)) : CEx σ' t n B := by
  unfold CEx at h ⊢
  rw [h6, h7, h8]; exact h
theorem CSe.fr {σ σ' : Hp} {T : Td} {A : Nat → Nat → Bool} (h : CSe σ T) (hF : Fr A σ σ') (hA : ∀ a b, KS a b → A a b = false) : CSe σ' T := by
  obtain ⟨a1, a2, k1, k2, k3, k4, k5⟩ := h
  have r : ∀ a, (∀ b, KS a b) → σ'.1 a = σ.1 a := fun a hk => hF.r (fun b => hA a b (hk b))
  refine ⟨a1.fr hF (fun a b hk => hA a b (by unfold KT at hk; unfold KS; omega)), by rw [hF.i (hA 0 9 (by unfold KS; omega))]; exact a2, fun t ht => (k1 t ht).fr (hF.i (hA _ _ (by unfold KS; omega))) (hF.i (hA _ _ (by unfold KS; omega))) (r _ (fun b => by unfold KS; omega)), k2.fr hF (hA _ _ (by unfold KS; omega)) (fun b => hA _ _ (by unfold KS; omega)) (fun b => hA _ _ (by unfold KS; omega)) (fun b => hA _ _ (by unfold KS; omega)) (fun b => hA _ _ (by unfold KS; omega)) (fun b => hA _ _ (by unfold KS; omega)) (fun b => hA _ _ (by unfold KS; omega)) (fun b => hA _ _ (by unfold KS; omega)), ?_, ?_, ?_⟩
  · obtain ⟨b1, b2, b3, b4, b5, b6, b7, b8, b9⟩ := k3
    refine ⟨?_, ?_, ?_, ?_, ?_, ?_, b7.eq (r _ (fun b => by unfold KS; omega)) (r _ (fun b => by unfold KS; omega)) (r _ (fun b => by unfold KS; omega)), ?_, ?_⟩
    · rw [r _ (fun b => by unfold KS; omega)]; exact b1
    · rw [r 25 (fun b => by unfold KS; omega), r 26 (fun b => by unfold KS; omega), r 27 (fun b => by unfold KS; omega)]; exact b2
    · rw [r 28 (fun b => by unfold KS; omega)]; exact b3
    · rw [r _ (fun b => by unfold KS; omega)]; exact b4
    · rw [r _ (fun b => by unfold KS; omega)]; exact b5
    · rw [hF.n (hA 23 5 (by unfold KS; omega))]; exact b6
    · unfold CFm at b8 ⊢; rw [r 8 (fun b => by unfold KS; omega)]; exact b8
    · rw [r 7 (fun b => by unfold KS; omega)]; exact b9
  · unfold CRs at k4 ⊢
    rw [r 23 (fun b => by unfold KS; omega), r (23 + 9) (fun b => by unfold KS; omega), r (23 + 10) (fun b => by unfold KS; omega), hF.l (hA 23 16 (by unfold KS; omega))]; exact k4
  · unfold CRb at k5 ⊢
    rw [r (23 + 6) (fun b => by unfold KS; omega), r (23 + 7) (fun b => by unfold KS; omega), hF.rl (a := 23 + 8) (fun b => hA _ _ (by unfold KS; omega))]; exact k5
section CT
variable {σ : Hp} {T : Td} {post : Hp → Prop}
def CF24 : Nat → Nat → Bool := fun a b => (Nat.ble 25 a && Nat.ble a 27) || (Nat.beq a 24 && Nat.beq b 3)
theorem CF24_f {a b : Nat} (h1 : a < 25 ∨ 27 < a) (h2 : a ≠ 24 ∨ b ≠ 3) : CF24 a b = false := by
  unfold CF24
  rw [Bool.or_eq_false_iff]
  refine ⟨?_, ?_⟩
  · rcases h1 with h | h
    · rw [ble_f h]; rfl
    · rw [ble_f h, Bool.and_false]
  · rcases h2 with h | h
    · rw [beq_f h]; rfl
    · rw [beq_f h, Bool.and_false]
theorem sX5_takeText {n : Nat} {B : Nat → Nat} (hC : CTx σ 2 n B) (hE : CEx σ 2 n B) (h : ∀ σ', Fr CF24 σ σ' → σ'.1 24 3 = nI (its B 2 n) → (∀ i, i < its B 2 n → σ'.1 25 i = nI (vl B 2 i 0) ∧ σ'.1 26 i = nI (vl B 2 i 1) ∧ σ'.1 27 i = nI (vl B 2 i 2)) → post σ') : vX5_takeText 24 60 σ post := by
  have hi12 : its B 2 n ≤ 12 := its_le hC.2.2.2.2.1 (by omega)
  have e6 : σ.1 60 6 = nI (its B 2 n) := hE.1
  have e1 : σ.1 60 1 = nI 3 := hC.2.1
  unfold vX5_takeText
  refine ⟨by decide, by decide, ?_⟩
  rintro _ rfl
  rw [e6]
  suffices L : ∀ (d i : Nat) (σ1 : Hp), i + d = its B 2 n → Fr CF24 σ σ1 → σ1.1 24 3 = nI (its B 2 n) → (∀ j, j < i → σ1.1 25 j = nI (vl B 2 j 0) ∧ σ1.1 26 j = nI (vl B 2 j 1) ∧ σ1.1 27 j = nI (vl B 2 j 2)) → vX5_takeText_10 post (fun σ_4 => post σ_4) 24 60 (d + 1) (nI i) σ1 from ⟨_, L (its B 2 n) 0 _ (by omega) (Fr.wI rfl) (by rw [wI_at, if_pos rfl]) (fun j hj => absurd hj (Nat.not_lt_zero j))⟩
  intro d
  induction d with
  | zero =>
    intro i σ1 hd hF h3 hv
    rw [vX5_takeText_10]; dsimp only; rw [h3]
    have : i = its B 2 n := by omega
    subst this
    exact ⟨by decide, fun _ => h σ1 hF h3 hv, fun c => absurd (nI_le (by omega) (by omega)) c⟩
  | succ d ih =>
    intro i σ1 hd hF h3 hv
    have hi : i < its B 2 n := by omega
    have v0 : σ1.1 (56 + 3 * 2) (i * wd 2 + 0) = nI (vl B 2 i 0) := by rw [hF.i rfl]; exact hE.2.2 i hi 0 (by decide)
    have v1 : σ1.1 (56 + 3 * 2) (i * wd 2 + 1) = nI (vl B 2 i 1) := by rw [hF.i rfl]; exact hE.2.2 i hi 1 (by decide)
    have v2 : σ1.1 (56 + 3 * 2) (i * wd 2 + 2) = nI (vl B 2 i 2) := by rw [hF.i rfl]; exact hE.2.2 i hi 2 (by decide)
    have q1 : ∀ σ' : Hp, σ'.1 60 = σ1.1 60 → σ'.1 60 1 = nI 3 := fun σ' h => by rw [h, hF.i rfl]; exact e1
    have hm : i < mst 2 := by show i < 12; omega
    rw [vX5_takeText_10]; dsimp only; rw [h3]
    refine ⟨by decide, fun c => absurd c (nI_ge (by omega) (by omega)), fun _ => ⟨by decide, ?_⟩⟩
    rw [show rt 24 0 = 25 by decide, show rt 24 1 = 26 by decide, show rt 24 2 = 27 by decide, show iln 25 = 12 by decide, show iln 26 = 12 by decide, show iln 27 = 12 by decide, nI_c (by omega)]
    refine sX7_value (t := 2) (i := i) (s := 0) (by omega) (q1 _ rfl) hm (by decide) rfl rfl ?_
    refine ⟨vp_in_nI (by omega) (by omega), ?_⟩
    rintro _ rfl
    refine sX7_value (t := 2) (i := i) (s := 1) (by omega) (q1 _ (by rw [wI_ne (by decide)])) hm (by decide) rfl rfl ?_
    refine ⟨vp_in_nI (by omega) (by omega), ?_⟩
    rintro _ rfl
    refine sX7_value (t := 2) (i := i) (s := 2) (by omega) (q1 _ (by rw [wI_ne (by decide), wI_ne (by decide)])) hm (by decide) rfl rfl ?_
    refine ⟨vp_in_nI (by omega) (by omega), ?_⟩
    rintro _ rfl _ rfl
    rw [nI_1]
    simp (disch := decide) only [wI_ne]
    rw [v0, v1, v2]
    refine ih (i + 1) _ (by omega) (((hF.tr' (Fr.wI rfl)).tr' (Fr.wI rfl)).tr' (Fr.wI rfl)) (by simp (disch := decide) only [wI_ne]; exact h3) (fun j hj => ?_)
    simp (disch := decide) only [wI_ne, wI_at]
    by_cases e : j = i
    · subst e; rw [if_pos rfl, if_pos rfl, if_pos rfl]; exact ⟨rfl, rfl, rfl⟩
    · rw [if_neg e, if_neg e, if_neg e]; exact hv j (by omega)
theorem bt_all {n : Nat} (hn : n ≤ 12) : ∀ e, e < 32 → bt (((1 : Int32) <<< (nI n &&& 31)) - (1 : Int32)) e = decide (e < n) := (by decide +kernel : ∀ n, n < 13 → ∀ e, e < 32 → bt (((1 : Int32) <<< (nI n &&& 31)) - (1 : Int32)) e = decide (e < n)) n (by omega)
theorem CFt_f {t a b : Nat} (h1 : a ≠ 56 + 3 * t) (h2 : a ≠ 54 + 3 * t ∨ (b ≠ 6 ∧ b ≠ 7)) : CFt t a b = false := by
  unfold CFt
  rw [beq_f h1]
  rcases h2 with h | ⟨h, h'⟩
  · rw [beq_f h]; rfl
  · rw [beq_f h, beq_f h', Bool.or_false, Bool.and_false]; rfl
theorem CFa_f {a b : Nat} (h1 : a < 3 ∨ 9 < a) (h2 : a ≠ 2 ∨ b ≠ 5) : CFa a b = false := by
  unfold CFa
  rw [Bool.or_eq_false_iff]
  refine ⟨?_, ?_⟩
  · rcases h1 with h | h
    · rw [ble_f h]; rfl
    · rw [ble_f h, Bool.and_false]
  · rcases h2 with h | h
    · rw [beq_f h]; rfl
    · rw [beq_f h, Bool.and_false]
/-- nothing of the reference is touched -/
def Cls (σ σ' : Hp) : Prop := ∀ a b, 71 ≤ a → σ'.1 a b = σ.1 a b
theorem Cls.rf {σ : Hp} : Cls σ σ := fun _ _ _ => rfl
theorem Cls.tr {σ σ1 σ2 : Hp} (h1 : Cls σ σ1) (h2 : Cls σ1 σ2) : Cls σ σ2 := fun a b h => (h2 a b h).trans (h1 a b h)
theorem Cls.of {σ σ' : Hp} {A : Nat → Nat → Bool} (hF : Fr A σ σ') (h : ∀ a b, 71 ≤ a → A a b = false) : Cls σ σ' := fun a b hab => hF.i (h a b hab)
/-- under that choice of events shot i hits -/
def hcA (g : Gm) (i s : Nat) : Bool := gfi (gCh g (fun e => !bt (nI (2 ^ gne g - (s + 1))) e)) i != 0
def hcN (g : Gm) (i m s : Nat) : Nat := fb_ct (fun s => hcA g i s && fb_ct (bt (nI s)) (gne g) == m) s
def CHc (σ : Hp) (g : Gm) : Prop := ∀ i, i < ns g → ∀ m, m ≤ gne g → σ.1 52 (i * 9 + m) = nI (hcN g i m (2 ^ gne g))
def CCh (σ : Hp) (T : Td) : Prop := σ.1 0 10 = 0 ∨ (σ.1 0 10 = 1 ∧ CHc σ (gmT T))
/-- the class: what was told, and what was worked out, if it was -/
def CI (σ : Hp) (T : Td) : Prop := (CTd σ T ∧ σ.1 0 9 = 0) ∨ (CSe σ T ∧ CCh σ T)
theorem sX8_settle (hI : CI σ T) (hO : Tok T) (h : ∀ σ', Cls σ σ' → CSe σ' T → CCh σ' T → post σ') : vX8_settle σ post := by
  have hG := gmT_ok hO
  rcases hI with ⟨hT, h9⟩ | ⟨hS, hC⟩
  · refine ⟨fun _ => ?_, fun q => absurd h9 q⟩
    have hr : ∀ t, t < 3 → rt 1 (nI t).toNatClampNeg = 54 + 3 * t := by decide
    refine ⟨4, ?_⟩
    -- text 0
    rw [vX8_settle_10]; dsimp only
    refine ⟨fun c => absurd c (by decide), fun _ => ⟨by unfold vp_in; decide, by decide, ?_⟩⟩
    refine sX7_examine (t := 0) (by omega) (hT.1 0 (by omega)) (fun σ1 hF1 hE0 => ?_)
    rintro _ rfl
    have hT1 : CTd σ1 T := hT.fr hF1 (fun a b hk => CFt_f (by unfold KT at hk; omega) (by unfold KT at hk; omega))
    -- text 1
    rw [vX8_settle_10]; dsimp only
    refine ⟨fun c => absurd c (by decide), fun _ => ⟨by unfold vp_in; decide, by decide, ?_⟩⟩
    refine sX7_examine (t := 1) (by omega) (hT1.1 1 (by omega)) (fun σ2 hF2 hE1 => ?_)
    rintro _ rfl
    have hT2 : CTd σ2 T := hT1.fr hF2 (fun a b hk => CFt_f (by unfold KT at hk; omega) (by unfold KT at hk; omega))
    -- text 2
    rw [vX8_settle_10]; dsimp only
    refine ⟨fun c => absurd c (by decide), fun _ => ⟨by unfold vp_in; decide, by decide, ?_⟩⟩
    refine sX7_examine (t := 2) (by omega) (hT2.1 2 (by omega)) (fun σ3 hF3 hE2 => ?_)
    rintro _ rfl
    have hT3 : CTd σ3 T := hT2.fr hF3 (fun a b hk => CFt_f (by unfold KT at hk; omega) (by unfold KT at hk; omega))
    have hE0' : CEx σ3 0 (tn T 0) (tB T 0) := (hE0.fr (hF2.i (CFt_f (by omega) (by omega))) (hF2.i (CFt_f (by omega) (by omega))) (hF2.r (fun b => CFt_f (by omega) (by omega)))).fr (hF3.i (CFt_f (by omega) (by omega))) (hF3.i (CFt_f (by omega) (by omega))) (hF3.r (fun b => CFt_f (by omega) (by omega)))
    have hE1' : CEx σ3 1 (tn T 1) (tB T 1) := hE1.fr (hF3.i (CFt_f (by omega) (by omega))) (hF3.i (CFt_f (by omega) (by omega))) (hF3.r (fun b => CFt_f (by omega) (by omega)))
    rw [vX8_settle_10]; dsimp only
    refine ⟨fun _ => ⟨by unfold vp_in; decide, by unfold vp_in; decide, ?_⟩, fun c => absurd (by decide) c⟩
    refine sX6_arrange (g := gmT T) (hT3.1 0 (by omega)) (hT3.1 1 (by omega)) hE0' hE1' hG rfl rfl rfl (fun σ4 hF4 hSt => ?_)
    have hT4 : CTd σ4 T := hT3.fr hF4 (fun a b hk => CFa_f (by unfold KT at hk; omega) (by unfold KT at hk; omega))
    have ne8 := hO.2.2.2.1
    unfold vX1_all
    refine sX0_go (g := gmT T) (Or.inl rfl) hSt hG hT4.2.2.2.1 (fun e he => ?_) (fun σ5 hF5 hCo => ?_)
    · rw [hT4.2.2.2.1.1, bt_all (by omega) e (by have : e < tne T := he; omega)]
      exact (decide_eq_true he).symm
    have hT5 : CTd σ5 T := hT4.fr hF5 (fun a b hk => CFo_f (by unfold KT at hk; omega))
    have ex5 : ∀ t, t < 3 → ∀ a, (a = 54 + 3 * t ∨ a = 56 + 3 * t) → σ5.1 a = σ3.1 a := fun t ht a ha => by
      rw [hF5.r (fun b => CFo_f (by omega)), hF4.r (fun b => CFa_f (by omega) (by omega))]
    have hE0'' : CEx σ5 0 (tn T 0) (tB T 0) := hE0'.fr (by rw [ex5 0 (by omega) _ (by omega)]) (by rw [ex5 0 (by omega) _ (by omega)]) (ex5 0 (by omega) _ (by omega))
    have hE1'' : CEx σ5 1 (tn T 1) (tB T 1) := hE1'.fr (by rw [ex5 1 (by omega) _ (by omega)]) (by rw [ex5 1 (by omega) _ (by omega)]) (ex5 1 (by omega) _ (by omega))
    have hE2'' : CEx σ5 2 (tn T 2) (tB T 2) := hE2.fr (by rw [ex5 2 (by omega) _ (by omega)]) (by rw [ex5 2 (by omega) _ (by omega)]) (ex5 2 (by omega) _ (by omega))
    refine ⟨by unfold vp_in; decide, ?_⟩
    refine sX5_takeText (hT5.1 2 (by omega)) hE2'' (fun σ6 hF6 h24 h25 => ⟨by decide, by decide, by decide, by decide, by decide, ?_⟩)
    rintro σ7 hS7
    have hF7 : Fr (fun a _ => Nat.beq a 28) σ6 σ7 := by
      rw [hS7]
      exact Fr.wR (fun b hb => by cases hb)
    have x28 : ∀ k, k < 12 → σ7.1 28 k = σ6.1 6 k := fun k hk => by
      rw [hS7, wR_eq]
      unfold va_cpy
      rw [if_pos (by constructor; exact Nat.zero_le _; show k < 0 + 12; omega)]
      show σ6.1 6 (0 + (k - 0)) = _
      rw [Nat.zero_add, Nat.sub_zero]
    have hT6 : CTd σ6 T := hT5.fr hF6 (fun a b hk => CF24_f (by unfold KT at hk; omega) (by unfold KT at hk; omega))
    have hT7 : CTd σ7 T := hT6.fr hF7 (fun a b hk => beq_f (by unfold KT at hk; omega))
    have hSt7 : CSt σ7 (gmT T) := ((hSt.fr hF5 (CFo_f (by omega)) (fun _ => CFo_f (by omega)) (fun _ => CFo_f (by omega)) (fun _ => CFo_f (by omega)) (fun _ => CFo_f (by omega)) (fun _ => CFo_f (by omega)) (fun _ => CFo_f (by omega)) (fun _ => CFo_f (by omega))).fr hF6).fr hF7
    have g1 := hG.1
    have hI7 : CRi σ7 23 15 (gmT T) := by
      refine ⟨?_, fun i hi => ?_, fun k hk => ?_, hT7.2.1, hT7.2.2.1, hT7.2.2.2.2.2.2.2, (hCo.eq (hF6.r (fun b => CF24_f (by omega) (by omega))) (hF6.r (fun b => CF24_f (by omega) (by omega))) (hF6.r (fun b => CF24_f (by omega) (by omega)))).eq (hF7.r (fun b => rfl)) (hF7.r (fun b => rfl)) (hF7.r (fun b => rfl)), hSt7.2.2.2.1, fun k hk => (hSt7.2.2.1 k hk).2.2.2⟩
      · rw [hF7.i rfl]; exact h24
      · rw [hF7.i rfl, hF7.i rfl, hF7.i rfl]; exact h25 i hi
      · rw [x28 k (by omega), ← hF7.i (a := 6) (b := k) rfl]; exact (hSt7.2.2.1 k hk).2.2.1
    refine sX2_play (Or.inl rfl) (Or.inl rfl) hG hI7 (fun σ8 hF8 hRs hRb => ?_)
    rintro _ rfl _ rfl
    have hF9 : Fr (fun a b => Nat.beq a 0 && (Nat.beq b 9 || Nat.beq b 10)) σ8 (wI (wI σ8 0 9 1) 0 10 0) := (Fr.wI rfl).tr' (Fr.wI rfl)
    have z9 : ∀ a b, (a ≠ 0 ∨ (b ≠ 9 ∧ b ≠ 10)) → (fun a b => Nat.beq a 0 && (Nat.beq b 9 || Nat.beq b 10)) a b = false := fun a b hh => by
      show (Nat.beq a 0 && (Nat.beq b 9 || Nat.beq b 10)) = false
      rcases hh with h | ⟨h, h'⟩
      · rw [beq_f h]; rfl
      · rw [beq_f h, beq_f h', Bool.or_false, Bool.and_false]
    have ez : ∀ a, a ≠ 0 → (wI (wI σ8 0 9 1) 0 10 0).1 a = σ8.1 a := fun a ha => by rw [wI_ne ha, wI_ne ha]
    have hI8 := hI7.fr (Or.inl rfl) (Or.inl rfl) hF8
    refine h _ ?_ ⟨?_, ?_, ?_, ?_, ?_, ?_, ?_⟩ (Or.inl (by rw [wI_at, if_pos rfl]))
    · exact ((((((((Cls.of hF1 (fun a b h => CFt_f (by omega) (by omega))).tr (Cls.of hF2 (fun a b h => CFt_f (by omega) (by omega)))).tr (Cls.of hF3 (fun a b h => CFt_f (by omega) (by omega)))).tr (Cls.of hF4 (fun a b h => CFa_f (by omega) (by omega)))).tr (Cls.of hF5 (fun a b h => CFo_f (by omega)))).tr (Cls.of hF6 (fun a b h => CF24_f (by omega) (by omega)))).tr (Cls.of hF7 (fun a b h => beq_f (by omega)))).tr (Cls.of hF8 (fun a b h => CFr_f (by omega) (by omega)))).tr (Cls.of hF9 (fun a b h => z9 a b (by omega)))
    · exact (hT7.fr hF8 (fun a b hk => CFr_f (by unfold KT at hk; omega) (by unfold KT at hk; omega))).fr hF9 (fun a b hk => z9 a b (by unfold KT at hk; omega))
    · rw [wI_nf (by decide), wI_at, if_pos rfl]
    · intro t ht
      have e8 : ∀ a, (a = 54 + 3 * t ∨ a = 56 + 3 * t) → (wI (wI σ8 0 9 1) 0 10 0).1 a = σ5.1 a := fun a ha => by
        rw [ez a (by omega), hF8.r (fun b => CFr_f (by omega) (by omega)), hF7.r (fun b => beq_f (by omega)), hF6.r (fun b => CF24_f (by omega) (by omega))]
      rcases (by omega : t = 0 ∨ t = 1 ∨ t = 2) with rfl | rfl | rfl
      · exact hE0''.fr (by rw [e8 _ (by omega)]) (by rw [e8 _ (by omega)]) (e8 _ (by omega))
      · exact hE1''.fr (by rw [e8 _ (by omega)]) (by rw [e8 _ (by omega)]) (e8 _ (by omega))
      · exact hE2''.fr (by rw [e8 _ (by omega)]) (by rw [e8 _ (by omega)]) (e8 _ (by omega))
    · exact (hSt7.fr hF8 (CFr_f (by omega) (by omega)) (fun _ => CFr_f (by omega) (by omega)) (fun _ => CFr_f (by omega) (by omega)) (fun _ => CFr_f (by omega) (by omega)) (fun _ => CFr_f (by omega) (by omega)) (fun _ => CFr_f (by omega) (by omega)) (fun _ => CFr_f (by omega) (by omega)) (fun _ => CFr_f (by omega) (by omega))).fr hF9
    · obtain ⟨b1, b2, b3, b4, b5, b6, b7, b8, b9⟩ := hI8
      refine ⟨?_, ?_, ?_, ?_, ?_, b6, b7.eq (ez _ (by omega)) (ez _ (by omega)) (ez _ (by omega)), ?_, ?_⟩
      · rw [ez _ (by omega)]; exact b1
      · rw [ez _ (by omega), ez _ (by omega), ez _ (by omega)]; exact b2
      · rw [ez _ (by omega)]; exact b3
      · rw [ez _ (by omega)]; exact b4
      · rw [ez _ (by omega)]; exact b5
      · unfold CFm at b8 ⊢; rw [ez _ (by omega)]; exact b8
      · rw [ez _ (by omega)]; exact b9
    · unfold CRs at hRs ⊢
      rw [ez 23 (by omega), ez (23 + 9) (by omega), ez (23 + 10) (by omega)]; exact hRs
    · unfold CRb at hRb ⊢
      rw [ez (23 + 6) (by omega), ez (23 + 7) (by omega)]; exact hRb
  · refine ⟨fun q => absurd q (by rw [hS.2.1]; decide), fun _ => h σ Cls.rf hS hC⟩
end CT
