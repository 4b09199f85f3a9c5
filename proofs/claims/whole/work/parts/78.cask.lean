/-! ===== the class: calls that ask of what was worked out ===== -/
/-- what trying out writes -/
def CFx : Nat → Nat → Bool := fun a b => (Nat.beq a 0 && (Nat.beq b 13 || Nat.beq b 14)) || ((Nat.ble 19 a && Nat.ble a 22) || ((Nat.ble 35 a && Nat.ble a 46) || Nat.beq a 53))
theorem CFx_f {a b : Nat} (h1 : a ≠ 0 ∨ (b ≠ 13 ∧ b ≠ 14)) (h2 : a < 19 ∨ 22 < a) (h3 : a < 35 ∨ 46 < a) (h4 : a ≠ 53) : CFx a b = false := by
  unfold CFx
  rw [Bool.or_eq_false_iff, Bool.or_eq_false_iff, Bool.or_eq_false_iff]
  refine ⟨?_, ?_, ?_, beq_f h4⟩
  · rcases h1 with h | ⟨h, h'⟩
    · rw [beq_f h]; rfl
    · rw [beq_f h, beq_f h', Bool.or_false, Bool.and_false]
  · rcases h2 with h | h
    · rw [ble_f h]; rfl
    · rw [ble_f h, Bool.and_false]
  · rcases h3 with h | h
    · rw [ble_f h]; rfl
    · rw [ble_f h, Bool.and_false]
/-- settled -/
def Cst (σ : Hp) (T : Td) : Prop := CSe σ T ∧ CCh σ T
theorem Cst.ci {σ : Hp} {T : Td} (h : Cst σ T) : CI σ T := Or.inr h
theorem Cst.fx {σ σ' : Hp} {T : Td} (h : Cst σ T) (hF : Fr CFx σ σ') : Cst σ' T := by
  refine ⟨h.1.fr hF (fun a b hk => CFx_f (by unfold KS at hk; omega) (by unfold KS at hk; omega) (by unfold KS at hk; omega) (by unfold KS at hk; omega)), ?_⟩
  unfold CCh CHc
  rw [hF.i rfl, hF.r (fun b => rfl)]
  exact h.2
theorem Cls.fx {σ σ' : Hp} (hF : Fr CFx σ σ') : Cls σ σ' := Cls.of hF (fun a b h => CFx_f (by omega) (by omega) (by omega) (by omega))
section GC
variable {x y : Int32} {σ : Hp} {A B : Hp → Prop}
theorem gW {n : Nat} (hn : n < 2147483648) (hy : y = nI n) (h0 : ib x n = false → A σ) (h1 : ∀ k, k < n → x = nI k → B σ) : vX8_within x y σ (fun r σ' => (r = 0 → A σ') ∧ (¬ r = 0 → B σ')) :=
  sX8_within hn hy (fun k hk e => ⟨fun q => absurd q (by decide), fun _ => h1 k hk e⟩) (fun q => ⟨fun _ => h0 q, fun q2 => absurd rfl q2⟩)
theorem gWD {n : Nat} (hn : n ≤ 12) (hy : σ.1 2 5 = nI n) (h0 : ib x n = false → A σ) (h1 : ∀ k, k < n → x = nI k → B σ) : vX8_isDuck x σ (fun r σ' => (r = 0 → A σ') ∧ (¬ r = 0 → B σ')) :=
  sX8_within (by omega) hy (fun k hk e => ⟨Or.inr rfl, fun q => absurd q (by decide), fun _ => h1 k hk e⟩) (fun q => ⟨Or.inl rfl, fun _ => h0 q, fun q2 => absurd rfl q2⟩)
theorem gWS {n : Nat} (hn : n ≤ 12) (hy : σ.1 24 3 = nI n) (h0 : ib x n = false → A σ) (h1 : ∀ k, k < n → x = nI k → B σ) : vX8_isShot x σ (fun r σ' => (r = 0 → A σ') ∧ (¬ r = 0 → B σ')) :=
  sX8_within (by omega) hy (fun k hk e => ⟨Or.inr rfl, fun q => absurd q (by decide), fun _ => h1 k hk e⟩) (fun q => ⟨Or.inl rfl, fun _ => h0 q, fun q2 => absurd rfl q2⟩)
end GC
section CK
variable {σ : Hp} {T : Td} {post : Int32 → Hp → Prop} {postv : Hp → Prop}
theorem sC_settle (hI : CI σ T) (hO : Tok T) (h : ∀ σ', Cls σ σ' → Cst σ' T → postv σ') : vX8_settle σ postv := sX8_settle hI hO (fun σ' h1 h2 h3 => h σ' h1 ⟨h2, h3⟩)
theorem Cst.dk (h : Cst σ T) : σ.1 2 5 = nI (nd (gmT T)) := h.1.2.2.2.1.1
theorem Cst.st (h : Cst σ T) : CSt σ (gmT T) := h.1.2.2.2.1
theorem Cst.ri (h : Cst σ T) : CRi σ 23 15 (gmT T) := h.1.2.2.2.2.1
theorem Cst.rs (h : Cst σ T) : CRs σ 23 (gmT T) (sim (gmT T) 24) := h.1.2.2.2.2.2.1
theorem Cst.rb (h : Cst σ T) : CRb σ 23 (gmT T) 24 := h.1.2.2.2.2.2.2
theorem Cst.sh (h : Cst σ T) : σ.1 24 3 = nI (ns (gmT T)) := h.ri.1
theorem sC_fault (hI : CI σ T) (hO : Tok T) {p : Int32} (h : ∀ σ', Cls σ σ' → CI σ' T → post (a_fault T p) σ') : vX8_fault p σ post := by
  refine gW (n := 3) (by omega) rfl (fun q => ?_) (fun t ht e => ?_)
  · have hb := h σ Cls.rf hI; rw [a_fault, iff_f q] at hb; exact hb
  · subst e
    refine sC_settle hI hO (fun σ1 hF hS => ?_)
    have hb := h σ1 hF hS.ci
    rw [a_fault, iff_t (ib_t ht (by omega)), Nn_nI (by omega)] at hb
    have hr : ∀ t, t < 3 → kd (rt 1 t) = 7 ∧ rt 1 t = 54 + 3 * t := by decide
    rw [nI_c (by omega)]
    refine ⟨vp_in_nI ht (by omega), (hr t ht).1, ?_⟩
    rw [(hr t ht).2, (hS.1.2.2.1 t ht).2.1]; exact hb
theorem sC_chain (hI : CI σ T) (hO : Tok T) {p : Int32} (h : ∀ σ', Cls σ σ' → CI σ' T → post (a_chain T p) σ') : vX8_chain p σ post := by
  refine gW (n := 3) (by omega) rfl (fun q => ?_) (fun t ht e => ?_)
  · have hb := h σ Cls.rf hI; rw [a_chain, iff_f q] at hb; exact hb
  · subst e
    refine sC_settle hI hO (fun σ1 hF hS => ?_)
    have hb := h σ1 hF hS.ci
    rw [a_chain, iff_t (ib_t ht (by omega)), Nn_nI (by omega)] at hb
    rw [nI_c (by omega), hS.st.2.1 t ht]
    exact ⟨vp_in_nI ht (by omega), hb⟩
theorem sX6_tellDuck {g : Gm} (hS : CSt σ g) (hG : Gok g) {k w : Nat} {a b : Int32} (hk : k < nd g) (hw : w < 4) (ha : a = nI k) (hb : b = nI w) (h : post (nI (gD g k w)) σ) : vX6_tellDuck a b σ post := by
  subst ha hb
  have g1 := hG.1
  obtain ⟨x0, x1, x2, x3⟩ := hS.2.2.1 k hk
  unfold vX6_tellDuck
  rw [nI_c (by omega), x0, x1, x2, x3]
  rcases (by omega : w = 0 ∨ w = 1 ∨ w = 2 ∨ w = 3) with rfl | rfl | rfl | rfl
  · exact ⟨fun _ => ⟨vp_in_nI (by omega) (by omega), h⟩, fun q => absurd rfl q⟩
  · exact ⟨fun q => absurd q (by decide), fun _ => ⟨fun _ => ⟨vp_in_nI (by omega) (by omega), h⟩, fun q => absurd rfl q⟩⟩
  · exact ⟨fun q => absurd q (by decide), fun _ => ⟨fun q => absurd q (by decide), fun _ => ⟨fun _ => ⟨vp_in_nI (by omega) (by omega), h⟩, fun q => absurd rfl q⟩⟩⟩
  · exact ⟨fun q => absurd q (by decide), fun _ => ⟨fun q => absurd q (by decide), fun _ => ⟨fun q => absurd q (by decide), fun _ => ⟨vp_in_nI (by omega) (by omega), h⟩⟩⟩⟩
theorem sX5_tellShot {g : Gm} (hI : CRi σ 23 15 g) (hG : Gok g) {i w : Nat} {a b : Int32} (hi : i < ns g) (hw : w < 3) (ha : a = nI i) (hb : b = nI w) (h : post (nI (gS g i w)) σ) : vX5_tellShot 24 a b σ post := by
  subst ha hb
  have g5 := hG.2.2.2.2.1
  obtain ⟨x0, x1, x2⟩ := hI.2.1 i hi
  unfold vX5_tellShot
  rw [show rt 24 0 = 25 by decide, show rt 24 1 = 26 by decide, show rt 24 2 = 27 by decide, show iln 25 = 12 by decide, show iln 26 = 12 by decide, show iln 27 = 12 by decide, nI_c (by omega), x0, x1, x2]
  rcases (by omega : w = 0 ∨ w = 1 ∨ w = 2) with rfl | rfl | rfl
  · exact ⟨fun _ => ⟨by decide, vp_in_nI (by omega) (by omega), h⟩, fun q => absurd rfl q⟩
  · exact ⟨fun q => absurd q (by decide), fun _ => ⟨fun _ => ⟨by decide, vp_in_nI (by omega) (by omega), h⟩, fun q => absurd rfl q⟩⟩
  · exact ⟨fun q => absurd q (by decide), fun _ => ⟨fun q => absurd q (by decide), fun _ => ⟨by decide, vp_in_nI (by omega) (by omega), h⟩⟩⟩
theorem sC_duck (hI : CI σ T) (hO : Tok T) {p q : Int32} (h : ∀ σ', Cls σ σ' → CI σ' T → post (a_duck T p q) σ') : vX8_duck p q σ post := by
  have hG := gmT_ok hO
  have g1 := hG.1
  refine sC_settle hI hO (fun σ1 hF hS => ?_)
  have hb := h σ1 hF hS.ci
  refine gWD g1 hS.dk (fun q => ?_) (fun k hk e => gW (n := 4) (by omega) rfl (fun q => ?_) (fun j hj e2 => ?_))
  · rw [a_duck, iff_f (by rw [q]; rfl)] at hb; exact hb
  · rw [a_duck, iff_f (by rw [q]; simp)] at hb; exact hb
  · subst e e2
    rw [a_duck, iff_t (by rw [ib_t hk (by omega), ib_t hj (by omega)]; rfl), Nn_nI (by omega), Nn_nI (by omega)] at hb
    exact sX6_tellDuck hS.st hG hk hj rfl rfl hb
theorem sC_shot (hI : CI σ T) (hO : Tok T) {p q : Int32} (h : ∀ σ', Cls σ σ' → CI σ' T → post (a_shot T p q) σ') : vX8_shot p q σ post := by
  have hG := gmT_ok hO
  have g5 := hG.2.2.2.2.1
  refine sC_settle hI hO (fun σ1 hF hS => ?_)
  have hb := h σ1 hF hS.ci
  refine gWS g5 hS.sh (fun q => ?_) (fun k hk e => gW (n := 3) (by omega) rfl (fun q => ?_) (fun j hj e2 => ?_))
  · rw [a_shot, iff_f (by rw [q]; rfl)] at hb; exact hb
  · rw [a_shot, iff_f (by rw [q]; simp)] at hb; exact hb
  · subst e e2
    rw [a_shot, iff_t (by rw [ib_t hk (by omega), ib_t hj (by omega)]; rfl), Nn_nI (by omega), Nn_nI (by omega)] at hb
    exact sX5_tellShot hS.ri hG hk hj rfl rfl hb
theorem sC_at (hI : CI σ T) (hO : Tok T) {p q r : Int32} (h : ∀ σ', Cls σ σ' → CI σ' T → post (a_at T p q r) σ') : vX8_at p q r σ post := by
  have hG := gmT_ok hO
  have g1 := hG.1
  refine sC_settle hI hO (fun σ1 hF hS => ?_)
  have hb := h σ1 hF hS.ci
  refine gW (n := 24) (by omega) rfl (fun q => ?_) (fun t ht e => gWD g1 hS.dk (fun q => ?_) (fun k hk e2 => gW (n := 3) (by omega) rfl (fun q => ?_) (fun j hj e3 => ?_)))
  · rw [a_at, iff_f (by rw [q]; rfl)] at hb; exact hb
  · rw [a_at, iff_f (by rw [q]; simp)] at hb; exact hb
  · rw [a_at, iff_f (by rw [q]; simp)] at hb; exact hb
  · subst e e2 e3
    rw [a_at, iff_t (by rw [ib_t ht (by omega), ib_t hk (by omega), ib_t hj (by omega)]; rfl), Nn_nI (by omega), Nn_nI (by omega), Nn_nI (by omega)] at hb
    exact sX2_tellDuckBehind (Or.inl rfl) (Or.inl rfl) hG hS.st hS.ri hS.rb ht hk hj rfl rfl rfl hb
theorem sC_sees (hI : CI σ T) (hO : Tok T) {p q r : Int32} (h : ∀ σ', Cls σ σ' → CI σ' T → post (a_sees T p q r) σ') : vX8_sees p q r σ post := by
  have hG := gmT_ok hO
  refine gW (n := 24) (by omega) rfl (fun q => ?_) (fun t ht e => gW (n := 3) (by omega) rfl (fun q => ?_) (fun k hk e2 => gW (n := 12) (by omega) rfl (fun q => ?_) (fun j hj e3 => ?_)))
  · have hb := h σ Cls.rf hI; rw [a_sees, iff_f (by rw [q]; rfl)] at hb; exact hb
  · have hb := h σ Cls.rf hI; rw [a_sees, iff_f (by rw [q]; simp)] at hb; exact hb
  · have hb := h σ Cls.rf hI; rw [a_sees, iff_f (by rw [q]; simp)] at hb; exact hb
  · subst e e2 e3
    refine sC_settle hI hO (fun σ1 hF hS => ?_)
    have hb := h σ1 hF hS.ci
    rw [a_sees, iff_t (by rw [ib_t ht (by omega), ib_t hk (by omega), ib_t hj (by omega)]; rfl), Nn_nI (by omega), Nn_nI (by omega), Nn_nI (by omega)] at hb
    exact sX0_duckAt (Or.inl rfl) hS.st.2.2.2.1 hG hS.ri.2.2.2.2.2.2.1 ht hk hj rfl rfl rfl hb
theorem sC_down (hI : CI σ T) (hO : Tok T) {p : Int32} (h : ∀ σ', Cls σ σ' → CI σ' T → post (a_down T p) σ') : vX8_down p σ post := by
  have hG := gmT_ok hO
  refine gW (n := 24) (by omega) rfl (fun q => ?_) (fun t ht e => ?_)
  · have hb := h σ Cls.rf hI; rw [a_down, iff_f q] at hb; exact hb
  · subst e
    refine sC_settle hI hO (fun σ1 hF hS => ?_)
    have hb := h σ1 hF hS.ci
    rw [a_down, iff_t (ib_t ht (by omega)), Nn_nI (by omega)] at hb
    refine ⟨vp_in_nI ht (by omega), ?_⟩
    rw [nI_c (by omega)]
    exact sJ6_bitCount (p := fun k => gst (gmT T) (t + 1) k == 2) (hS.rb t ht).1 hG.1 hb
theorem sC_hits (hI : CI σ T) (hO : Tok T) {p q : Int32} (h : ∀ σ', Cls σ σ' → CI σ' T → post (a_hits T p q) σ') : vX8_hits p q σ post := by
  have hG := gmT_ok hO
  have g5 := hG.2.2.2.2.1
  refine sC_settle hI hO (fun σ1 hF hS => ?_)
  have hb := h σ1 hF hS.ci
  refine gWS g5 hS.sh (fun q => ?_) (fun k hk e => gW (n := 3) (by omega) rfl (fun q => ?_) (fun j hj e2 => ?_))
  · rw [a_hits, iff_f (by rw [q]; rfl)] at hb; exact hb
  · rw [a_hits, iff_f (by rw [q]; simp)] at hb; exact hb
  · subst e e2
    rw [a_hits, iff_t (by rw [ib_t hk (by omega), ib_t hj (by omega)]; rfl), Nn_nI (by omega), Nn_nI (by omega)] at hb
    exact sX2_tellOutcome (Or.inl rfl) hG hS.ri hS.rs hk hj rfl rfl hb
theorem sC_sum (hI : CI σ T) (hO : Tok T) {p : Int32} (h : ∀ σ', Cls σ σ' → CI σ' T → post (a_sum T p) σ') : vX8_sum p σ post := by
  have hG := gmT_ok hO
  refine gW (n := 3) (by omega) rfl (fun q => ?_) (fun j hj e => ?_)
  · have hb := h σ Cls.rf hI; rw [a_sum, iff_f q] at hb; exact hb
  · subst e
    refine sC_settle hI hO (fun σ1 hF hS => ?_)
    have hb := h σ1 hF hS.ci
    rw [a_sum, iff_t (ib_t hj (by omega)), Nn_nI (by omega)] at hb
    exact sX2_tellSum (Or.inl rfl) hG hS.sh hS.rs hj rfl hb
/-- 'which' and 'much' -/
def CWm (σ : Hp) (w m : Int32) : Prop := σ.1 0 13 = w ∧ σ.1 0 14 = m
theorem sX8_offer {w m p q : Int32} (hW : CWm σ w m) (h : ∀ σ', Fr CFx σ σ' → CWm σ' (if q ≤ m then w else p) (if q ≤ m then m else q) → postv σ') : vX8_offer p q σ postv := by
  unfold vX8_offer
  rw [hW.2]
  refine ⟨fun c => ?_, fun c => ?_⟩
  · rw [if_pos c, if_pos c] at h; exact h σ Fr.rf hW
  · rw [if_neg c, if_neg c] at h
    rintro _ rfl _ rfl
    exact h _ ((Fr.wI rfl).tr' (Fr.wI rfl)) ⟨by rw [wI_at, if_pos rfl], by rw [wI_nf (by decide), wI_at, if_pos rfl]⟩
theorem sX8_seekRun (hS : Cst σ T) (hO : Tok T) (h : ∀ σ', Fr CFx σ σ' → CWm σ' (grnI (gmT T) 1) (grnI (gmT T) 0) → postv σ') : vX8_seekRun σ postv := by
  have hG := gmT_ok hO
  have g5 := hG.2.2.2.2.1
  unfold vX8_seekRun
  rintro _ rfl _ rfl
  generalize hg : gmT T = g at *
  have hF0 : Fr CFx σ (wI (wI σ 0 13 (-1)) 0 14 0) := (Fr.wI rfl).tr' (Fr.wI rfl)
  have hs0 : σ.1 24 3 = nI (ns g) := by rw [← hg]; exact hS.sh
  have hr0 := hS.rs.2.2.2.2.2
  rw [hg] at hr0
  suffices L : ∀ (d k : Nat) (σ1 : Hp), k + d = ns g → Fr CFx σ σ1 → CWm σ1 (fI (rnb (fun i => gfi g i != 0) k).2.1) (nI (rnb (fun i => gfi g i != 0) k).1) → vX8_seekRun_14 postv (fun σ_3 => postv σ_3) (d + 1) (nI (rnb (fun i => gfi g i != 0) k).2.2) (nI k) σ1 from ⟨ns g + 1, L (ns g) 0 _ (by omega) hF0 ⟨by rw [wI_nf (by decide), wI_at, if_pos rfl]; rfl, by rw [wI_at, if_pos rfl]; rfl⟩⟩
  intro d
  induction d with
  | zero =>
    intro k σ1 hd hF hW
    have e3 : σ1.1 24 3 = nI (ns g) := by rw [hF.i rfl]; exact hs0
    rw [vX8_seekRun_14]; dsimp only; rw [e3]
    have : k = ns g := by omega
    subst this
    exact ⟨fun _ => h σ1 hF hW, fun c => absurd (nI_le (by omega) (by omega)) c⟩
  | succ d ih =>
    intro k σ1 hd hF hW
    have e3 : σ1.1 24 3 = nI (ns g) := by rw [hF.i rfl]; exact hs0
    have e12 : bt (σ1.1 23 12) k = (gfi g k != 0) := by
      rw [hF.i rfl, hr0 k (by omega), decide_eq_true (by omega), Bool.true_and]; rfl
    obtain ⟨l1, l2, l3⟩ := rnb_le (fun i => gfi g i != 0) k
    have ih := ih (k + 1)
    rw [rnb] at ih
    dsimp only at ih
    rw [vX8_seekRun_14]; dsimp only; rw [e3]
    refine ⟨fun c => absurd c (nI_ge (by omega) (by omega)), fun _ => ?_⟩
    generalize rnb (fun i => gfi g i != 0) k = R at *
    have step : ∀ y : Nat, y ≤ k + 1 → y = (if (gfi g k != 0) = true then R.2.2 + 1 else 0) → ∀ z : Int32, z = nI k - nI y + 1 → vX8_offer z (nI y) σ1 (fun σ_5 => (∀ x2_7 : Int32, x2_7 = nI k + (1 : Int32) → vX8_seekRun_14 postv (fun σ_3 => postv σ_3) (d + 1) (nI y) x2_7 σ_5)) := by
      rintro y hy he _ rfl
      rw [← he] at ih
      have e : nI k - nI y + 1 = nI (k + 1 - y) := by
        rw [← pk_sub (by omega), ← nI_1]
        simp only [Int32.sub_eq_add_neg]
        ac_rfl
      refine sX8_offer hW (fun σ2 hF2 hW2 => ?_)
      rintro _ rfl
      rw [nI_1]
      refine ih σ2 (by omega) (hF.tr' hF2) ?_
      rw [e] at hW2
      by_cases q : y ≤ R.1
      · rw [if_pos (nI_le q (by omega)), if_pos (nI_le q (by omega))] at hW2
        rw [if_neg (by omega), if_neg (by omega)]; exact hW2
      · rw [if_neg (nI_ge (by omega) (by omega)), if_neg (nI_ge (by omega) (by omega))] at hW2
        rw [if_pos (by omega), if_pos (by omega), fI_s]; exact hW2
    refine sX8_isSet rfl (by omega) (fun q => ?_) (fun q => ?_) <;> rw [e12] at q
    · refine ⟨fun q => absurd q (by decide), fun _ => ?_⟩
      rintro _ rfl
      rw [nI_1]
      exact step (R.2.2 + 1) (by omega) (by rw [if_pos q]) _ rfl
    · exact ⟨fun _ => step 0 (by omega) (by rw [if_neg (by rw [q]; decide)]) _ rfl, fun q => absurd rfl q⟩
theorem sC_run (hI : CI σ T) (hO : Tok T) {p : Int32} (h : ∀ σ', Cls σ σ' → CI σ' T → post (a_run T p) σ') : vX8_run p σ post := by
  refine gW (n := 2) (by omega) rfl (fun q => ?_) (fun j hj e => ?_)
  · have hb := h σ Cls.rf hI; rw [a_run, iff_f q] at hb; exact hb
  · subst e
    refine sC_settle hI hO (fun σ1 hF hS => ?_)
    refine sX8_seekRun hS hO (fun σ2 hF2 hW => ?_)
    have hb := h σ2 (hF.tr (Cls.fx hF2)) (hS.fx hF2).ci
    rw [a_run, iff_t (ib_t hj (by omega)), Nn_nI (by omega)] at hb
    rw [hW.1, hW.2, k0, nI_eq2 (by omega) (by omega)]
    refine ⟨fun q => ?_, fun q => ?_⟩
    · rw [q] at hb; exact hb
    · rw [show j = 1 by omega] at hb; exact hb
theorem sX8_easiestDuck (hS : Cst σ T) (hO : Tok T) (h : ∀ σ', Fr CFx σ σ' → post (gez (gmT T)) σ') : vX8_easiestDuck σ post := by
  have hG := gmT_ok hO
  have g1 := hG.1
  unfold vX8_easiestDuck
  rintro _ rfl _ rfl
  have hF0 : Fr CFx σ (wI (wI σ 0 13 (-1)) 0 14 0) := (Fr.wI rfl).tr' (Fr.wI rfl)
  suffices L : ∀ (d k : Nat) (σ1 : Hp), k + d = nd (gmT T) → Fr CFx σ σ1 → CWm σ1 (fI (bst (ghi (gmT T) 24) k).1) (nI (bst (ghi (gmT T) 24) k).2) → vX8_easiestDuck_12 post (fun σ_3 => post (σ_3.1 0 13) σ_3) (d + 1) (nI k) σ1 from ⟨_, L (nd (gmT T)) 0 _ (by omega) hF0 ⟨by rw [wI_nf (by decide), wI_at, if_pos rfl]; rfl, by rw [wI_at, if_pos rfl]; rfl⟩⟩
  intro d
  induction d with
  | zero =>
    intro k σ1 hd hF hW
    rw [vX8_easiestDuck_12]; dsimp only; rw [(hS.fx hF).dk]
    refine ⟨fun _ => ?_, fun c => absurd (nI_le (by omega) (by omega)) c⟩
    rw [hW.1, show k = nd (gmT T) by omega]; exact h σ1 hF
  | succ d ih =>
    intro k σ1 hd hF hW
    have hh := ghi_le hG 24 k
    have hl := (bst_le (ghi_le hG 24) k).2
    have ih := ih (k + 1)
    rw [bst] at ih
    rw [vX8_easiestDuck_12]; dsimp only; rw [(hS.fx hF).dk]
    refine ⟨fun c => absurd c (nI_ge (by omega) (by omega)), fun _ => ?_⟩
    refine sX2_hitsBehind (Or.inl rfl) hG (hS.fx hF).rb (by omega : 23 < 24) (by omega : k < nd (gmT T)) rfl rfl ?_
    show vX8_offer (nI k) (nI (ghi (gmT T) 24 k)) σ1 _
    refine sX8_offer hW (fun σ2 hF2 hW2 => ?_)
    rintro _ rfl
    rw [nI_1]
    refine ih σ2 (by omega) (hF.tr' hF2) ?_
    by_cases q : ghi (gmT T) 24 k ≤ (bst (ghi (gmT T) 24) k).2
    · rw [if_pos (nI_le q (by omega)), if_pos (nI_le q (by omega))] at hW2
      rw [if_neg (by omega)]; exact hW2
    · rw [if_neg (nI_ge (by omega) (by omega)), if_neg (nI_ge (by omega) (by omega))] at hW2
      rw [if_pos (by omega), fI_s]; exact hW2
theorem sX8_safeDucks (hS : Cst σ T) (hO : Tok T) (h : post (gsf (gmT T)) σ) : vX8_safeDucks σ post := by
  have hG := gmT_ok hO
  have g1 := hG.1
  suffices L : ∀ (d k : Nat), k + d = nd (gmT T) → vX8_safeDucks_4 post (fun z1_1 σ_2 => post z1_1 σ_2) (d + 1) (bm (fun k => ghi (gmT T) 24 k == 0) k) (nI k) σ from ⟨_, L (nd (gmT T)) 0 (by omega)⟩
  intro d
  induction d with
  | zero =>
    intro k hd
    rw [vX8_safeDucks_4]; dsimp only; rw [hS.dk]
    refine ⟨fun _ => ?_, fun c => absurd (nI_le (by omega) (by omega)) c⟩
    rw [show k = nd (gmT T) by omega]; exact h
  | succ d ih =>
    intro k hd
    have hh := ghi_le hG 24 k
    have ih := ih (k + 1) (by omega)
    rw [bm] at ih
    rw [vX8_safeDucks_4]; dsimp only; rw [hS.dk]
    refine ⟨fun c => absurd c (nI_ge (by omega) (by omega)), fun _ => ?_⟩
    refine sX2_hitsBehind (Or.inl rfl) hG hS.rb (by omega : 23 < 24) (by omega : k < nd (gmT T)) rfl rfl ?_
    show (nI (ghi (gmT T) 24 k) = 0 → _) ∧ (¬ nI (ghi (gmT T) 24 k) = 0 → _)
    rw [k0, nI_eq2 (by omega) (by omega)]
    refine ⟨fun q => ?_, fun q => ?_⟩
    · rintro _ rfl _ rfl
      have q : ghi (gmT T) 24 k = 0 := q
      rw [if_pos (by simp [q])] at ih; rw [nI_1]; exact ih
    · rintro _ rfl
      have q : ¬ ghi (gmT T) 24 k = 0 := q
      rw [if_neg (by simp [q])] at ih
      rw [nI_1]
      have hz : bm (fun k => ghi (gmT T) 24 k == 0) k ||| 0 = bm (fun k => ghi (gmT T) 24 k == 0) k := b_ext (fun i _ => by rw [b_or, bt_zero, Bool.or_false])
      rw [hz] at ih; exact ih
theorem sC_easy (hI : CI σ T) (hO : Tok T) (h : ∀ σ', Cls σ σ' → CI σ' T → post (gez (gmT T)) σ') : vX8_easy σ post :=
  sC_settle hI hO (fun σ1 hF hS => sX8_easiestDuck hS hO (fun σ2 hF2 => h σ2 (hF.tr (Cls.fx hF2)) (hS.fx hF2).ci))
theorem sC_safe (hI : CI σ T) (hO : Tok T) (h : ∀ σ', Cls σ σ' → CI σ' T → post (gsf (gmT T)) σ') : vX8_safe σ post :=
  sC_settle hI hO (fun σ1 hF hS => sX8_safeDucks hS hO (h σ1 hF hS.ci))
theorem sX8_tellCount (hS : Cst σ T) (hO : Tok T) {p : Int32} (hb : post (a_count T p) σ) : vX8_tellCount p σ post := by
  have hG := gmT_ok hO
  obtain ⟨a1, a2, a3, a4, a5, a6, a7, a8⟩ := hS.1.1
  unfold a_count at hb
  refine ⟨fun c => ?_, fun c0 => ⟨fun c => ?_, fun c1 => ⟨fun c => ?_, fun c2 => ⟨fun c => ?_, fun c3 => ⟨fun c => ?_, fun c4 => ⟨fun c => ?_, fun c5 => ⟨fun c => ?_, fun c6 => ⟨fun c => ?_, fun c7 => ⟨fun c => ?_, fun c8 => ?_⟩⟩⟩⟩⟩⟩⟩⟩⟩
  · rw [if_pos c] at hb; rw [hS.dk]; exact hb
  · rw [if_neg c0, if_pos c] at hb; rw [hS.sh]; exact hb
  · rw [if_neg c0, if_neg c1, if_pos c] at hb
    refine ⟨by unfold vp_in; decide, by decide, by unfold vp_in; decide, by decide, by unfold vp_in; decide, by decide, ?_⟩
    rw [show rt 1 (0 : Int32).toNatClampNeg = 54 + 3 * 0 by decide, show rt 1 (1 : Int32).toNatClampNeg = 54 + 3 * 1 by decide, show rt 1 (2 : Int32).toNatClampNeg = 54 + 3 * 2 by decide, (a1 0 (by omega)).2.2.2.1, (a1 1 (by omega)).2.2.2.1, (a1 2 (by omega)).2.2.2.1]; exact hb
  · rw [if_neg c0, if_neg c1, if_neg c2, if_pos c] at hb; rw [a4.1]; exact hb
  · rw [if_neg c0, if_neg c1, if_neg c2, if_neg c3, if_pos c] at hb; rw [hS.rs.2.2.2.2.1]; exact hb
  · rw [if_neg c0, if_neg c1, if_neg c2, if_neg c3, if_neg c4, if_pos c] at hb
    exact sJ6_bitCount (p := fun i => (sim (gmT T) 24).2.2.1 i != 0) hS.rs.2.2.2.2.2 hG.2.2.2.2.1 hb
  · rw [if_neg c0, if_neg c1, if_neg c2, if_neg c3, if_neg c4, if_neg c5, if_pos c] at hb
    refine ⟨by unfold vp_in; decide, ?_⟩
    exact sJ6_bitCount (p := fun k => gst (gmT T) 24 k == 2) (hS.rb 23 (by omega)).1 hG.1 hb
  · rw [if_neg c0, if_neg c1, if_neg c2, if_neg c3, if_neg c4, if_neg c5, if_neg c6, if_pos c] at hb; rw [a5.1]; exact hb
  · rw [if_neg c0, if_neg c1, if_neg c2, if_neg c3, if_neg c4, if_neg c5, if_neg c6, if_neg c7, if_pos c] at hb; rw [a7]; exact hb
  · rw [if_neg c0, if_neg c1, if_neg c2, if_neg c3, if_neg c4, if_neg c5, if_neg c6, if_neg c7, if_neg c8] at hb; exact hb
theorem sC_count (hI : CI σ T) (hO : Tok T) {p : Int32} (h : ∀ σ', Cls σ σ' → CI σ' T → post (a_count T p) σ') : vX8_count p σ post :=
  sC_settle hI hO (fun σ1 hF hS => sX8_tellCount hS hO (h σ1 hF hS.ci))
end CK
