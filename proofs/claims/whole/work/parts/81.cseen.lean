/-! ===== the class: what was seen ===== -/
section CN
variable {σ : Hp} {T : Td} {post : Int32 → Hp → Prop} {postv : Hp → Prop}
theorem sX3_fits {g : Gm} {Q : Nat → Nat → Nat} {n : Nat} (hQ : CSn σ n Q) (hB : CRb σ 35 g 24) (hnd : nd g ≤ 12) {a : Int32} (ha : a = nI (nd g)) (h : post (if gsn g Q n = true then 1 else 0) σ) : vX3_fits 41 a σ post := by
  subst ha
  obtain ⟨q1, q2, q3⟩ := hQ
  have hs : ∀ j, gsn g Q (j + 1) = (gsn g Q j && (decide (Q j 1 < nd g) && ((gst g (Q j 0 + 1) (Q j 1) == 2) == (Q j 2 == 1)))) := fun j => by
    unfold gsn; rw [anyb, Bool.not_or, Bool.not_not]
  have hno : ∀ j, j < n → (decide (Q j 1 < nd g) && ((gst g (Q j 0 + 1) (Q j 1) == 2) == (Q j 2 == 1))) = false → gsn g Q n = false := fun j hj e => by
    have : anyb (fun j => !(decide (Q j 1 < nd g) && ((gst g (Q j 0 + 1) (Q j 1) == 2) == (Q j 2 == 1)))) n = true := anyb_iff.mpr ⟨j, hj, by rw [e]; rfl⟩
    unfold gsn; rw [this]; rfl
  suffices L : ∀ (d j : Nat), j + d = n → gsn g Q j = true → vX3_fits_2 post (fun σ_1 => post (1 : Int32) σ_1) 41 (nI (nd g)) (d + 1) (nI j) σ from ⟨n + 1, L n 0 (by omega) rfl⟩
  intro d
  induction d with
  | zero =>
    intro j hd hj
    rw [vX3_fits_2]; dsimp only; rw [q1]
    refine ⟨fun _ => ?_, fun c => absurd (nI_le (by omega) (by omega)) c⟩
    have : j = n := by omega
    subst this
    rw [hj] at h; exact h
  | succ d ih =>
    intro j hd hj
    obtain ⟨e0, e1, e2, l0, l1, l2⟩ := q3 j (by omega)
    rw [vX3_fits_2]; dsimp only; rw [q1]
    refine ⟨fun c => absurd c (nI_ge (by omega) (by omega)), fun _ => ?_⟩
    rw [nI_c (show j < 2147483648 by omega), e0, e1, nI_c (show Q j 0 < 2147483648 by omega), show iln 41 = 24 by decide]
    refine ⟨vp_in_nI (by omega) (by omega), vp_in_nI l0 (by omega), vp_in_nI (by omega) (by omega), ?_⟩
    have hbit := (hB (Q j 0) l0).1 (Q j 1) (by omega)
    have hbit : bt (σ.1 41 (Q j 0)) (Q j 1) = (decide (Q j 1 < nd g) && gst g (Q j 0 + 1) (Q j 1) == 2) := hbit
    have bad : (decide (Q j 1 < nd g) && ((gst g (Q j 0 + 1) (Q j 1) == 2) == (Q j 2 == 1))) = false → post 0 σ := fun e => by
      rw [hno j (by omega) e] at h; exact h
    have good : (decide (Q j 1 < nd g) && ((gst g (Q j 0 + 1) (Q j 1) == 2) == (Q j 2 == 1))) = true → ∀ x3 : Int32, x3 = nI j + 1 → vX3_fits_2 post (fun σ_1 => post (1 : Int32) σ_1) 41 (nI (nd g)) (d + 1) x3 σ := by
      rintro e _ rfl
      rw [nI_1]; exact ih (j + 1) (by omega) (by rw [hs, hj, e]; rfl)
    have fin : ∀ r : Int32, (r = 1 ∧ bt (σ.1 41 (Q j 0)) (Q j 1) = true) ∨ (r = 0 ∧ bt (σ.1 41 (Q j 0)) (Q j 1) = false) → (vp_in (nI j) 8 ∧ ((nI (nd g) ≤ nI (Q j 1) → post (0 : Int32) σ) ∧ (¬ nI (nd g) ≤ nI (Q j 1) → (vp_in (nI j) 8 ∧ ((nI (Q j 2) = (1 : Int32) → ((r = (1 : Int32) → (∀ x3_14 : Int32, x3_14 = nI j + (1 : Int32) → vX3_fits_2 post (fun σ_1 => post (1 : Int32) σ_1) 41 (nI (nd g)) (d + 1) x3_14 σ)) ∧ (¬ r = (1 : Int32) → post (0 : Int32) σ))) ∧ (¬ nI (Q j 2) = (1 : Int32) → ((r = (0 : Int32) → (∀ x3_12 : Int32, x3_12 = nI j + (1 : Int32) → vX3_fits_2 post (fun σ_1 => post (1 : Int32) σ_1) 41 (nI (nd g)) (d + 1) x3_12 σ)) ∧ (¬ r = (0 : Int32) → post (0 : Int32) σ)))))))) := by
      intro r hr
      refine ⟨vp_in_nI (by omega) (by omega), ?_⟩
      rw [nI_le2 (by omega) (by omega), k1, nI_eq2 (by omega) (by omega)]
      refine ⟨fun c => bad ?_, fun c => ⟨vp_in_nI (by omega) (by omega), fun q => ⟨fun q2 => good ?_, fun q2 => bad ?_⟩, fun q => ⟨fun q2 => good ?_, fun q2 => bad ?_⟩⟩⟩
      · rw [decide_eq_false (by omega), Bool.false_and]
      · rcases hr with ⟨hr, hr2⟩ | ⟨hr, hr2⟩
        · rw [hr2] at hbit
          rw [decide_eq_true (by omega), Bool.true_and] at hbit ⊢
          rw [← hbit, q]; rfl
        · rw [hr] at q2; exact absurd q2 (by decide)
      · rcases hr with ⟨hr, hr2⟩ | ⟨hr, hr2⟩
        · exact absurd hr q2
        · rw [hr2] at hbit
          rw [decide_eq_true (by omega), Bool.true_and] at hbit ⊢
          rw [← hbit, q]; rfl
      · have q : Q j 2 = 0 := by omega
        rcases hr with ⟨hr, hr2⟩ | ⟨hr, hr2⟩
        · rw [hr] at q2; exact absurd q2 (by decide)
        · rw [hr2] at hbit
          rw [decide_eq_true (by omega), Bool.true_and] at hbit ⊢
          rw [← hbit, q]; rfl
      · have q : Q j 2 = 0 := by omega
        rcases hr with ⟨hr, hr2⟩ | ⟨hr, hr2⟩
        · rw [hr2] at hbit
          rw [decide_eq_true (by omega), Bool.true_and] at hbit ⊢
          rw [← hbit, q]; rfl
        · exact absurd hr q2
    exact sX8_isSet rfl (by omega) (fun q => by rw [e1, e2]; exact fin 1 (Or.inl ⟨rfl, q⟩)) (fun q => by rw [e1, e2]; exact fin 0 (Or.inr ⟨rfl, q⟩))
theorem sX8_bitIfSeen {g : Gm} {Q : Nat → Nat → Nat} {n : Nat} (hQ : CSn σ n Q) (hB : CRb σ 35 g 24) (hnd : nd g ≤ 12) (hk : σ.1 2 5 = nI (nd g)) {v : Nat} {a : Int32} (ha : a = nI v) (h : post (if gsn g Q n = true then on v else 0) σ) : vX8_bitIfSeen a σ post := by
  subst ha
  refine sX3_fits hQ hB hnd hk ?_
  cases e : gsn g Q n
  · rw [e] at h
    exact ⟨fun _ => h, fun q => absurd rfl q⟩
  · rw [e] at h
    exact ⟨fun q => absurd q (by decide), fun _ => h⟩
theorem Cst.sn (h : Cst σ T) : CSn σ (tnq T) (tQ T) := h.1.1.2.2.2.2.1
theorem bm_s {p : Nat → Bool} {n : Nat} : bm p (n + 1) = bm p n ||| (if p n = true then on n else 0) := rfl
theorem sX8_eventsThatNeverWere (hS : Cst σ T) (hO : Tok T) (h : ∀ σ', Fr CFx σ σ' → post (gnv (gmT T) (tQ T) (tnq T)) σ') : vX8_eventsThatNeverWere σ post := by
  have n8 := hS.ev.2.1
  suffices L : ∀ (d e : Nat) (σ1 : Hp), e + d = tne T → Fr CFx σ σ1 → vX8_eventsThatNeverWere_4 post (fun z1_1 σ_2 => post z1_1 σ_2) (d + 1) (bm (fun e => gsn (gCh (gmT T) (fun e' => !bt (on e) e')) (tQ T) (tnq T)) e) (nI e) σ1 from ⟨tne T + 1, L (tne T) 0 σ (by omega) Fr.rf⟩
  intro d
  induction d with
  | zero =>
    intro e σ1 hd hF
    rw [vX8_eventsThatNeverWere_4]; dsimp only; rw [(hS.fx hF).ev.1]
    refine ⟨fun _ => ?_, fun c => absurd (nI_le (by omega) (by omega)) c⟩
    rw [show e = tne T by omega]
    exact h _ hF
  | succ d ih =>
    intro e σ1 hd hF
    have hS1 := hS.fx hF
    rw [vX8_eventsThatNeverWere_4]; dsimp only; rw [hS1.ev.1]
    refine ⟨fun c => absurd c (nI_ge (by omega) (by omega)), fun _ => ?_⟩
    unfold vX1_all
    rw [hS1.ev.1]
    refine sX8_tryEvents hS1 hO (ch := fun e' => !bt (on e) e') (x := (((1 : Int32) <<< (nI (tne T) &&& 31)) - (1 : Int32)) &&& ((on e) ^^^ (-1 : Int32))) (fun e' he => bt_less n8 he) (fun σ2 hF2 _ _ hB => ?_)
    have hS2 := hS1.fx hF2
    refine sX8_bitIfSeen hS2.sn hB (gmT_ok hO).1 hS2.dk (v := e) rfl ?_
    rintro _ rfl _ rfl
    rw [nI_1]
    exact ih (e + 1) σ2 (by omega) (hF.tr' hF2)
theorem sX8_kindsThatMightBe (hS : Cst σ T) (hO : Tok T) {k : Nat} {a : Int32} (hk : k < nd (gmT T)) (ha : a = nI k) (h : ∀ σ', Fr CFx σ σ' → post (gkb (gmT T) (tQ T) (tnq T) k) σ') : vX8_kindsThatMightBe a σ post := by
  subst ha
  have hG := gmT_ok hO
  have g1 := hG.1
  unfold vX8_kindsThatMightBe
  refine sX2_takeFrom hS hO (fun σ0 hF0 hI0 => ?_)
  have hI0 := CRi_k0 (k := k) hI0
  have hSx : ∀ σ', Fr CFx σ σ' → CSn σ' (tnq T) (tQ T) ∧ σ'.1 2 5 = nI (nd (gmT T)) := fun σ' hF => ⟨(hS.fx hF).sn, (hS.fx hF).dk⟩
  generalize gmT T = g at *
  suffices L : ∀ (d v : Nat) (σ1 : Hp), v + d = 3 → Fr CFx σ σ1 → (∃ w, CRi σ1 35 15 (gKd g k w)) → vX8_kindsThatMightBe_15 post (fun z2_3 σ_4 => post z2_3 σ_4) (nI k) (d + 1) (bm (fun v => gsn (gKd g k v) (tQ T) (tnq T)) v) (nI v) σ1 from ⟨3 + 1, L 3 0 _ (by omega) hF0 ⟨_, hI0⟩⟩
  intro d
  induction d with
  | zero =>
    intro v σ1 hd hF hI
    have : v = 3 := by omega
    subst this
    rw [vX8_kindsThatMightBe_15]; dsimp only
    exact ⟨fun _ => h σ1 hF, fun c => absurd (nI_le (a := 3) (b := 3) (by omega) (by omega)) c⟩
  | succ d ih =>
    intro v σ1 hd hF hI
    obtain ⟨w, hI⟩ := hI
    rw [vX8_kindsThatMightBe_15]; dsimp only
    refine ⟨fun c => absurd c (nI_ge (b := 3) (by omega) (by omega)), fun _ => ?_⟩
    rw [nI_c (by omega)]
    refine ⟨vp_in_nI (by omega) (by omega), ?_⟩
    rintro σ2 hS2
    have hI2 : CRi σ2 35 15 (gKd g k v) := by rw [hS2]; exact CRi_kd (Or.inl rfl) hI
    have hF2 : Fr CFx σ1 σ2 := by rw [hS2]; exact Fr.wI rfl
    refine tryStep (Or.inl rfl) (hG.kd (by omega)) hI2 (fun σ3 hF3 hI3 _ _ hB => ?_)
    have hF' := (hF.tr' hF2).tr' (hF3.up CFr_CFx)
    obtain ⟨x1, x2⟩ := hSx σ3 hF'
    refine sX8_bitIfSeen (g := gKd g k v) x1 hB g1 x2 (v := v) rfl ?_
    rintro _ rfl _ rfl
    rw [nI_1 v]
    exact ih (v + 1) σ3 (by omega) hF' ⟨v, hI3⟩
/-- rows of those pulls that fit, one behind the other -/
def CDp (σ : Hp) (g : Gm) (P : Nat → Bool) (v : Nat) : Prop := ∀ w, w < v → P w = true → ∀ t, t < 24 → σ.1 53 (fb_ct P w * 24 + t) = gdb (gPu g w) (t + 1)
theorem fb_ct_lt {P : Nat → Bool} : ∀ {v w : Nat}, w < v → P w = true → fb_ct P w < fb_ct P v
  | v + 1, w, hw, hp => by
    rw [fb_ct_succ]
    by_cases e : w = v
    · subst e; rw [hp]; show _ < _ + 1; omega
    · have := fb_ct_lt (v := v) (w := w) (by omega) hp; omega
theorem on_ne : ∀ v, v < 5 → ¬ on v = 0 := by decide
theorem sX8_pullsThatMightBe (hS : Cst σ T) (hO : Tok T) (h : ∀ σ', Fr CFx σ σ' → CDp σ' (gmT T) (fun v => gsn (gPu (gmT T) v) (tQ T) (tnq T)) 5 → post (gpb (gmT T) (tQ T) (tnq T)) σ') : vX8_pullsThatMightBe σ post := by
  have hG := gmT_ok hO
  have g1 := hG.1
  unfold vX8_pullsThatMightBe
  refine sX2_takeFrom hS hO (fun σ0 hF0 hI0 => ?_)
  have hSx : ∀ σ', Fr CFx σ σ' → CSn σ' (tnq T) (tQ T) ∧ σ'.1 2 5 = nI (nd (gmT T)) := fun σ' hF => ⟨(hS.fx hF).sn, (hS.fx hF).dk⟩
  generalize gmT T = g at *
  have hI0 : CRi σ0 35 15 (gPu g (gpu g)) := hI0
  generalize hP : (fun v => gsn (gPu g v) (tQ T) (tnq T)) = P at *
  have hPv : ∀ v, gsn (gPu g v) (tQ T) (tnq T) = P v := fun v => by rw [← hP]
  have hgp : gpb g (tQ T) (tnq T) = bm P 5 := by unfold gpb; rw [hP]
  rw [hgp] at h
  suffices L : ∀ (d v : Nat) (σ1 : Hp), v + d = 5 → Fr CFx σ σ1 → (∃ w, CRi σ1 35 15 (gPu g w)) → CDp σ1 g P v → vX8_pullsThatMightBe_17 post (fun z2_3 σ_4 => post z2_3 σ_4) (d + 1) (bm P v) (nI (fb_ct P v)) (nI v) σ1 from ⟨5 + 1, L 5 0 _ (by omega) hF0 ⟨_, hI0⟩ (fun w hw => absurd hw (Nat.not_lt_zero w))⟩
  intro d
  induction d with
  | zero =>
    intro v σ1 hd hF hI hD
    have : v = 5 := by omega
    subst this
    rw [vX8_pullsThatMightBe_17]; dsimp only
    exact ⟨fun _ => h σ1 hF hD, fun c => absurd (nI_le (a := 5) (b := 5) (by omega) (by omega)) c⟩
  | succ d ih =>
    intro v σ1 hd hF hI hD
    obtain ⟨w, hI⟩ := hI
    have hcl := fb_ct_le P v
    rw [vX8_pullsThatMightBe_17]; dsimp only
    refine ⟨fun c => absurd c (nI_ge (b := 5) (by omega) (by omega)), fun _ => ?_⟩
    rintro σ2 hS2
    have hI2 : CRi σ2 35 15 (gPu g v) := by rw [hS2]; exact CRi_pu (Or.inl rfl) hI
    have hF2 : Fr CFx σ1 σ2 := by rw [hS2]; exact Fr.wI rfl
    refine tryStep (Or.inl rfl) (hG.pu (by omega)) hI2 (fun σ3 hF3 hI3 _ _ hB => ?_)
    have hF' := (hF.tr' hF2).tr' (hF3.up CFr_CFx)
    obtain ⟨x1, x2⟩ := hSx σ3 hF'
    have e53 : σ3.1 53 = σ1.1 53 := by rw [hF3.r (fun b => CFr_f (by omega) (by omega)), hS2, wI_ne (by decide)]
    have hD3 : CDp σ3 g P v := by unfold CDp; rw [e53]; exact hD
    refine sX8_bitIfSeen (g := gPu g v) x1 hB g1 x2 (v := v) rfl ?_
    rw [hPv v]
    have ih := ih (v + 1)
    rw [bm_s, fb_ct_succ] at ih
    cases hp : P v with
    | false =>
      rw [hp] at ih
      refine ⟨fun _ => ?_, fun q => absurd rfl q⟩
      rintro _ rfl _ rfl
      rw [nI_1 v]
      refine ih σ3 (by omega) hF' ⟨v, hI3⟩ (fun w hw pw => ?_)
      by_cases e : w = v
      · subst e; rw [hp] at pw; cases pw
      · exact hD3 w (by omega) pw
    | true =>
      rw [hp] at ih
      refine ⟨fun q => absurd q (on_ne v (by omega)), fun _ => ?_⟩
      rw [k24, nI_mul, show (0 : Int32).toNatClampNeg = 0 by decide, nI_c (by omega), nI_c (by omega), show iln 41 = 24 by decide, show iln 53 = 120 by decide]
      refine ⟨by decide, nI_pos (by omega), nI_pos (by omega), by omega, by omega, ?_⟩
      rintro σ4 hS4
      rintro _ rfl _ rfl _ rfl
      rw [nI_1 v, nI_1 (fb_ct P v)]
      have hF4 : Fr CFx σ3 σ4 := by rw [hS4]; exact Fr.wR (fun b hb => by cases hb)
      have r4 : ∀ a, a ≠ 53 → σ4.1 a = σ3.1 a := fun a ha => by rw [hS4, wR_ne ha]
      refine ih σ4 (by omega) (hF'.tr' hF4) ⟨v, ?_⟩ (fun w hw pw t ht => ?_)
      · obtain ⟨a1, a2, a3, a4, a5, a6, a7, a8, a9⟩ := hI3
        refine ⟨?_, ?_, ?_, ?_, ?_, ?_, a7.eq (r4 _ (by omega)) (r4 _ (by omega)) (r4 _ (by omega)), ?_, ?_⟩
        · rw [r4 _ (by omega)]; exact a1
        · rw [r4 _ (by omega), r4 _ (by omega), r4 _ (by omega)]; exact a2
        · rw [r4 _ (by omega)]; exact a3
        · rw [r4 _ (by omega)]; exact a4
        · rw [r4 _ (by omega)]; exact a5
        · rw [hS4]; exact a6
        · unfold CFm at a8 ⊢; rw [r4 _ (by omega)]; exact a8
        · rw [r4 _ (by omega)]; exact a9
      · rw [hS4, wR_eq]
        unfold va_cpy
        by_cases e : w = v
        · subst e
          rw [if_pos (by omega), show 0 + (fb_ct P w * 24 + t - fb_ct P w * 24) = t by omega]
          refine b_ext (fun i hi => ?_)
          have hb := (hB t ht).1 i hi
          unfold gdb
          rw [bm_bt _ (by have : nd (gPu g w) ≤ 12 := g1; omega) hi]
          exact hb
        · have := fb_ct_lt (P := P) (show w < v by omega) pw
          rw [if_neg (by omega)]
          exact hD3 w (by omega) pw t ht
theorem sC_might (hI : CI σ T) (hO : Tok T) {p : Int32} (h : ∀ σ', Cls σ σ' → CI σ' T → post (a_might T p) σ') : vX8_might p σ post := by
  refine gW (n := 2) (by omega) rfl (fun q => ?_) (fun j hj e => ?_)
  · have hb := h σ Cls.rf hI; rw [a_might, iff_f q] at hb; exact hb
  · subst e
    refine sC_settle hI hO (fun σ1 hF hS => ?_)
    rw [k0, nI_eq2 (by omega) (by omega)]
    refine ⟨fun q => sX8_eventsThatNeverWere hS hO (fun σ2 hF2 => ?_), fun q => sX8_pullsThatMightBe hS hO (fun σ2 hF2 _ => ?_)⟩
    · have hb := h σ2 (hF.tr (Cls.fx hF2)) (hS.fx hF2).ci
      rw [a_might, iff_t (ib_t hj (by omega)), Nn_nI (by omega), if_pos q] at hb
      exact hb
    · have hb := h σ2 (hF.tr (Cls.fx hF2)) (hS.fx hF2).ci
      rw [a_might, iff_t (ib_t hj (by omega)), Nn_nI (by omega), if_neg q] at hb
      exact hb
theorem sC_kind (hI : CI σ T) (hO : Tok T) {p : Int32} (h : ∀ σ', Cls σ σ' → CI σ' T → post (a_kind T p) σ') : vX8_kind p σ post := by
  have hG := gmT_ok hO
  have g1 := hG.1
  refine sC_settle hI hO (fun σ1 hF hS => ?_)
  refine gWD g1 hS.dk (fun q => ?_) (fun k hk e => ?_)
  · have hb := h σ1 hF hS.ci
    rw [a_kind, iff_f q] at hb; exact hb
  · subst e
    refine sX8_kindsThatMightBe hS hO hk rfl (fun σ2 hF2 => ?_)
    have hb := h σ2 (hF.tr (Cls.fx hF2)) (hS.fx hF2).ci
    rw [a_kind, iff_t (ib_t hk (by omega)), Nn_nI (by omega)] at hb
    exact hb
end CN
