/-! ===== the class: fairs ===== -/
section CJ
variable {σ : Hp} {T : Td} {post : Int32 → Hp → Prop} {postv : Hp → Prop}
def CF36 : Nat → Nat → Bool := fun a b => (Nat.ble 37 a && Nat.ble a 39) || (Nat.beq a 36 && Nat.beq b 3)
theorem CF36_f {a b : Nat} (h : a < 36 ∨ 39 < a) : CF36 a b = false := by
  unfold CF36
  rcases h with h | h
  · rw [ble_f (by omega), beq_f (by omega)]; rfl
  · rw [ble_f h, beq_f (by omega), Bool.and_false]; rfl
theorem CF36_CFx : ∀ a b, CFx a b = false → CF36 a b = false := fun a b h => by
  refine CF36_f ?_
  by_cases h1 : 36 ≤ a ∧ a ≤ 39
  · unfold CFx at h
    rw [Bool.or_eq_false_iff, Bool.or_eq_false_iff, Bool.or_eq_false_iff] at h
    rw [Nat.ble_eq_true_of_le (show 35 ≤ a by omega), Nat.ble_eq_true_of_le (show a ≤ 46 by omega)] at h
    cases h.2.2.1
  · omega
theorem sX5_draw {n : Nat} {seed b : Int32} (hn : n ≤ 12) (hb : b = nI n) (h : ∀ σ', Fr CF36 σ σ' → σ'.1 36 3 = nI n → (∀ i, i < n → σ'.1 37 i = nI (frS seed i 0) ∧ σ'.1 38 i = nI (frS seed i 1) ∧ σ'.1 39 i = nI (frS seed i 2)) → postv σ') : vX5_draw 36 seed b σ postv := by
  subst hb
  refine ⟨by decide, ?_⟩
  rintro _ rfl
  suffices L : ∀ (d i : Nat) (σ1 : Hp), i + d = n → Fr CF36 σ σ1 → σ1.1 36 3 = nI n → (∀ a, a < i → σ1.1 37 a = nI (frS seed a 0) ∧ σ1.1 38 a = nI (frS seed a 1) ∧ σ1.1 39 a = nI (frS seed a 2)) → vX5_draw_10 postv (fun σ_3 => postv σ_3) 36 (nI n) (d + 1) (seqs seed (3 * i)) (nI i) σ1 from ⟨n + 1, L n 0 _ (by omega) (Fr.wI rfl) (by rw [wI_at, if_pos rfl]) (fun a ha => absurd ha (Nat.not_lt_zero a))⟩
  intro d
  induction d with
  | zero =>
    intro i σ1 hd hF h3 hv
    have : i = n := by omega
    subst this
    rw [vX5_draw_10]; dsimp only
    exact ⟨fun _ => h σ1 hF h3 hv, fun c => absurd (nI_le (by omega) (by omega)) c⟩
  | succ d ih =>
    intro i σ1 hd hF h3 hv
    rw [vX5_draw_10]; dsimp only
    refine ⟨fun c => absurd c (nI_ge (by omega) (by omega)), fun _ => ?_⟩
    unfold vX5_nextSeed
    rw [show rt 36 0 = 37 by decide, show rt 36 1 = 38 by decide, show rt 36 2 = 39 by decide, show iln 37 = 12 by decide, show iln 38 = 12 by decide, show iln 39 = 12 by decide, nI_c (by omega)]
    dsimp only
    rw [k24, k3, k6, lot_eq (m := 24) _ (by omega) (by omega), lot_eq (m := 3) _ (by omega) (by omega), lot_eq (m := 6) _ (by omega) (by omega)]
    refine ⟨by decide, vp_in_nI (by omega) (by omega), ?_⟩
    rintro _ rfl
    refine ⟨vp_in_nI (by omega) (by omega), ?_⟩
    rintro _ rfl
    refine ⟨vp_in_nI (by omega) (by omega), ?_⟩
    rintro _ rfl _ rfl
    rw [nI_1 i]
    refine ih (i + 1) _ (by omega) (((hF.tr' (Fr.wI rfl)).tr' (Fr.wI rfl)).tr' (Fr.wI rfl)) ?_ (fun a ha => ?_)
    · simp (disch := decide) only [wI_ne]; exact h3
    · simp (disch := decide) only [wI_ne, wI_at]
      by_cases e : a = i
      · subst e
        rw [if_pos rfl, if_pos rfl, if_pos rfl]
        exact ⟨rfl, rfl, rfl⟩
      · rw [if_neg e, if_neg e, if_neg e]; exact hv a (by omega)
theorem sX8_tryFair (hS : Cst σ T) (hO : Tok T) {n : Nat} {seed b : Int32} (hn : n ≤ 12) (hb : b = nI n) (h : ∀ σ', Fr CFx σ σ' → σ'.1 36 3 = nI n → CRs σ' 35 (gSh (gmT T) n (frS seed)) (sim (gSh (gmT T) n (frS seed)) 24) → postv σ') : vX8_tryFair seed b σ postv := by
  have hG := gmT_ok hO
  unfold vX8_tryFair
  refine sX2_takeFrom hS hO (fun σ1 hF1 hI1 => ?_)
  generalize gmT T = g at *
  refine sX5_draw hn hb (fun σ2 hF2 h3 hv => ?_)
  have r : ∀ a, a < 36 ∨ 39 < a → σ2.1 a = σ1.1 a := fun a ha => hF2.r (fun b => CF36_f ha)
  have hI2 : CRi σ2 35 15 (gSh g n (frS seed)) := by
    obtain ⟨a1, a2, a3, a4, a5, a6, a7, a8, a9⟩ := hI1
    refine ⟨h3, hv, fun k hk => ?_, ?_, ?_, ?_, (CCo_cg (g' := gSh g n (frS seed)) a7 (fun _ _ _ => rfl) (fun _ => rfl) rfl rfl (fun _ => rfl) (fun _ => rfl)).eq (r _ (by omega)) (r _ (by omega)) (r _ (by omega)), ?_, fun k hk => ?_⟩
    · rw [r _ (by omega)]; exact a3 k hk
    · rw [r _ (by omega)]; exact a4
    · rw [r _ (by omega)]; exact a5
    · rw [hF2.n (CF36_f (by omega))]; exact a6
    · unfold CFm at a8 ⊢; rw [r _ (by omega)]; exact a8
    · rw [r _ (by omega)]; exact a9 k hk
  refine tryStep (Or.inl rfl) (hG.fr hn seed) hI2 (fun σ4 hF4 hI4 _ hS4 hB4 => ?_)
  exact h σ4 ((hF1.tr' (hF2.up CF36_CFx)).tr' (hF4.up CFr_CFx)) hI4.1 hS4
theorem sC_fairs (hI : CI σ T) (hO : Tok T) {p q r : Int32} (h : ∀ σ', Cls σ σ' → CI σ' T → post (a_fairs T p q r) σ') : vX8_fairs p q r σ post := by
  have hG := gmT_ok hO
  have hb := h σ Cls.rf hI
  refine gW (n := 13) (by omega) rfl (fun q => ?_) (fun n hn e => gW (n := 2) (by omega) rfl (fun q => ?_) (fun w hw e2 => ?_))
  · rw [a_fairs, iff_f (by rw [q]; rfl)] at hb; exact hb
  · rw [a_fairs, iff_f (by rw [q]; simp)] at hb; exact hb
  · subst e e2
    refine sC_settle hI hO (fun σ1 hF hS => ?_)
    refine sX8_tryFair hS hO (by omega) rfl (fun σ2 hF2 h3 hR => ?_)
    have hb := h σ2 (hF.tr (Cls.fx hF2)) (hS.fx hF2).ci
    rw [a_fairs, iff_t (by rw [ib_t hn (by omega), ib_t hw (by omega)]; rfl), Nn_nI (by omega), Nn_nI (by omega)] at hb
    exact sX2_tellSum (Or.inr rfl) (hG.fr (by omega) p) h3 hR (by omega) rfl hb
end CJ
