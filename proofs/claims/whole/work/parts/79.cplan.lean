/-! ===== the class: tries ===== -/
theorem gnb_cg {g g' : Gm} (hE : ∀ k t c, hasE g' k t c = hasE g k t c) (hs : gsp g' = gsp g) : ∀ T c, gnb g' T c = gnb g T c
  | 0, _ => rfl
  | T + 1, c => by rw [gnb, gnb, gnb_cg hE hs T c, hE, hs]
theorem CCo_cg {σ : Hp} {co T : Nat} {g g' : Gm} (h : CCo σ co g T) (hE : ∀ k t c, hasE g' k t c = hasE g k t c) (hd : ∀ t, drg g' t = drg g t) (hn : nd g' = nd g) (hs : gsp g' = gsp g) (h0 : ∀ k, gD g' k 0 = gD g k 0) (h1 : ∀ k, gD g' k 1 = gD g k 1) : CCo σ co g' T := by
  have hg := gnb_cg hE hs
  have hp : ∀ T k, pl g' T k = pl g T k := fun T k => by unfold pl; rw [h0, h1, hg]
  intro t ht
  obtain ⟨a, b, c⟩ := h t ht
  refine ⟨fun c hc => by rw [hg]; exact a c hc, fun k hk => by rw [hE, hn, hp]; exact b k hk, by rw [hd]; exact c⟩
theorem CFm_cg {σ : Hp} {g g' : Gm} (h : CFm σ g (nd g)) (hn : nd g' = nd g) (h0 : ∀ k, gD g' k 0 = gD g k 0) (h1 : ∀ k, gD g' k 1 = gD g k 1) : CFm σ g' (nd g') := by
  intro c hc p hp
  rw [h c hc p hp, hn]
  congr 1
  exact lastk_cong (fun k _ => by rw [h0, h1])
/-- a round goes by another game -/
theorem CRi_ss {σ : Hp} {co : Nat} {g : Gm} {i j v w : Nat} (hj : j = 0 ∨ j = 2) (hc : isCo co) (h : CRi σ 35 co (gSs g i j w)) : CRi (wI σ (37 + j) i (nI v)) 35 co (gSs g i j v) := by
  have hcc : co = 15 ∨ co = 19 := hc
  obtain ⟨a1, a2, a3, a4, a5, a6, a7, a8, a9⟩ := h
  have e : ∀ a, a ≠ 37 + j → (wI σ (37 + j) i (nI v)).1 a = σ.1 a := fun a ha => wI_ne ha
  refine ⟨?_, fun a ha => ?_, fun k hk => ?_, ?_, ?_, a6, (CCo_cg (g' := gSs g i j v) a7 (fun _ _ _ => rfl) (fun _ => rfl) rfl rfl (fun _ => rfl) (fun _ => rfl)).eq (e _ (by omega)) (e _ (by omega)) (e _ (by omega)), ?_, fun k hk => ?_⟩
  · rw [e _ (by omega)]; exact a1
  · obtain ⟨x0, x1, x2⟩ := a2 a ha
    have x0 : σ.1 37 a = nI (if a = i ∧ 0 = j then w else gS g a 0) := x0
    have x1 : σ.1 38 a = nI (if a = i ∧ 1 = j then w else gS g a 1) := x1
    have x2 : σ.1 39 a = nI (if a = i ∧ 2 = j then w else gS g a 2) := x2
    show _ = nI (if a = i ∧ 0 = j then v else gS g a 0) ∧ _ = nI (if a = i ∧ 1 = j then v else gS g a 1) ∧ _ = nI (if a = i ∧ 2 = j then v else gS g a 2)
    refine ⟨?_, ?_, ?_⟩
    · by_cases ej : j = 0
      · subst ej
        rw [show (37 + 0 : Nat) = 37 from rfl, wI_at]
        by_cases ea : a = i
        · rw [if_pos ea, if_pos (show a = i ∧ 0 = 0 from ⟨ea, rfl⟩)]
        · rw [if_neg ea, if_neg (show ¬ (a = i ∧ 0 = 0) from fun h => ea h.1)]
          rw [if_neg (show ¬ (a = i ∧ 0 = 0) from fun h => ea h.1)] at x0; exact x0
      · rw [e 37 (by omega), if_neg (show ¬ (a = i ∧ 0 = j) by omega)]
        rw [if_neg (show ¬ (a = i ∧ 0 = j) by omega)] at x0; exact x0
    · rw [e 38 (by omega), if_neg (show ¬ (a = i ∧ 1 = j) by omega)]
      rw [if_neg (show ¬ (a = i ∧ 1 = j) by omega)] at x1; exact x1
    · by_cases ej : j = 2
      · subst ej
        rw [show (37 + 2 : Nat) = 39 from rfl, wI_at]
        by_cases ea : a = i
        · rw [if_pos ea, if_pos (show a = i ∧ 2 = 2 from ⟨ea, rfl⟩)]
        · rw [if_neg ea, if_neg (show ¬ (a = i ∧ 2 = 2) from fun h => ea h.1)]
          rw [if_neg (show ¬ (a = i ∧ 2 = 2) from fun h => ea h.1)] at x2; exact x2
      · rw [e 39 (by omega), if_neg (show ¬ (a = i ∧ 2 = j) by omega)]
        rw [if_neg (show ¬ (a = i ∧ 2 = j) by omega)] at x2; exact x2
  · rw [e _ (by omega)]; exact a3 k hk
  · rw [e _ (by omega)]; exact a4
  · rw [e _ (by omega)]; exact a5
  · unfold CFm at a8 ⊢; rw [e 8 (by omega)]; exact a8
  · rw [e 7 (by omega)]; exact a9 k hk
theorem CRi_s0 {σ : Hp} {co : Nat} {g : Gm} {i j : Nat} (hj : j = 0 ∨ j = 2) (h : CRi σ 35 co g) : CRi σ 35 co (gSs g i j (gS g i j)) := by
  obtain ⟨a1, a2, a3, a4, a5, a6, a7, a8, a9⟩ := h
  refine ⟨a1, fun a ha => ?_, a3, a4, a5, a6, CCo_cg a7 (fun _ _ _ => rfl) (fun _ => rfl) rfl rfl (fun _ => rfl) (fun _ => rfl), a8, a9⟩
  obtain ⟨x0, x1, x2⟩ := a2 a ha
  have key : ∀ b, (if a = i ∧ b = j then gS g i j else gS g a b) = gS g a b := fun b => by
    by_cases e : a = i ∧ b = j
    · rw [if_pos e, e.1, e.2]
    · rw [if_neg e]
  show _ = nI (if a = i ∧ 0 = j then gS g i j else gS g a 0) ∧ _ = nI (if a = i ∧ 1 = j then gS g i j else gS g a 1) ∧ _ = nI (if a = i ∧ 2 = j then gS g i j else gS g a 2)
  rw [key, key, key]
  exact ⟨x0, x1, x2⟩
theorem CRi_pu {σ : Hp} {co : Nat} {g : Gm} {v w : Nat} (hc : isCo co) (h : CRi σ 35 co (gPu g w)) : CRi (wI σ 35 3 (nI v)) 35 co (gPu g v) := by
  have hcc : co = 15 ∨ co = 19 := hc
  obtain ⟨a1, a2, a3, a4, a5, a6, a7, a8, a9⟩ := h
  have e : ∀ a, a ≠ 35 → (wI σ 35 3 (nI v)).1 a = σ.1 a := fun a ha => wI_ne ha
  refine ⟨?_, fun a ha => ?_, fun k hk => ?_, ?_, ?_, a6, (CCo_cg (g' := gPu g v) a7 (fun _ _ _ => rfl) (fun _ => rfl) rfl rfl (fun _ => rfl) (fun _ => rfl)).eq (e _ (by omega)) (e _ (by omega)) (e _ (by omega)), ?_, fun k hk => ?_⟩
  · rw [e _ (by omega)]; exact a1
  · rw [e _ (by omega), e _ (by omega), e _ (by omega)]; exact a2 a ha
  · rw [e _ (by omega)]; exact a3 k hk
  · rw [wI_at, if_pos rfl]; rfl
  · rw [wI_nf (by decide)]; exact a5
  · unfold CFm at a8 ⊢; rw [e 8 (by omega)]; exact a8
  · rw [e 7 (by omega)]; exact a9 k hk
theorem CRi_kd {σ : Hp} {co : Nat} {g : Gm} {k v w : Nat} (hc : isCo co) (h : CRi σ 35 co (gKd g k w)) : CRi (wI σ 40 k (nI v)) 35 co (gKd g k v) := by
  have hcc : co = 15 ∨ co = 19 := hc
  obtain ⟨a1, a2, a3, a4, a5, a6, a7, a8, a9⟩ := h
  have e : ∀ a, a ≠ 40 → (wI σ 40 k (nI v)).1 a = σ.1 a := fun a ha => wI_ne ha
  have dk : ∀ u x j, j ≠ 2 → gD (gKd g k u) x j = gD g x j := fun u x j hj => if_neg (fun h => hj h.2)
  refine ⟨?_, fun a ha => ?_, fun x hx => ?_, ?_, ?_, a6, (CCo_cg (g' := gKd g k v) a7 (fun _ _ _ => rfl) (fun _ => rfl) rfl rfl (fun x => by rw [dk v x 0 (by omega), dk w x 0 (by omega)]) (fun x => by rw [dk v x 1 (by omega), dk w x 1 (by omega)])).eq (e _ (by omega)) (e _ (by omega)) (e _ (by omega)), ?_, fun x hx => ?_⟩
  · rw [e _ (by omega)]; exact a1
  · rw [e _ (by omega), e _ (by omega), e _ (by omega)]; exact a2 a ha
  · have x3 : σ.1 40 x = nI (if x = k ∧ 2 = 2 then w else gD g x 2) := a3 x hx
    show (wI σ 40 k (nI v)).1 40 x = nI (if x = k ∧ 2 = 2 then v else gD g x 2)
    rw [wI_at]
    by_cases ea : x = k
    · rw [if_pos ea, if_pos ⟨ea, rfl⟩]
    · rw [if_neg ea, if_neg (fun h => ea h.1)]
      rw [if_neg (fun h => ea h.1)] at x3; exact x3
  · rw [e _ (by omega)]; exact a4
  · rw [e _ (by omega)]; exact a5
  · refine CFm_cg (g := gKd g k w) (g' := gKd g k v) ?_ rfl (fun x => by rw [dk v x 0 (by omega), dk w x 0 (by omega)]) (fun x => by rw [dk v x 1 (by omega), dk w x 1 (by omega)])
    unfold CFm at a8 ⊢; rw [e 8 (by omega)]; exact a8
  · rw [e 7 (by omega), dk v x 3 (by omega), ← dk w x 3 (by omega)]; exact a9 x hx
theorem CRi_k0 {σ : Hp} {co : Nat} {g : Gm} {k : Nat} (h : CRi σ 35 co g) : CRi σ 35 co (gKd g k (gD g k 2)) := by
  obtain ⟨a1, a2, a3, a4, a5, a6, a7, a8, a9⟩ := h
  have key : ∀ x j, gD (gKd g k (gD g k 2)) x j = gD g x j := fun x j => by
    show (if x = k ∧ j = 2 then gD g k 2 else gD g x j) = _
    by_cases e : x = k ∧ j = 2
    · rw [if_pos e, e.1, e.2]
    · rw [if_neg e]
  refine ⟨a1, a2, fun x hx => by rw [key]; exact a3 x hx, a4, a5, a6, CCo_cg a7 (fun _ _ _ => rfl) (fun _ => rfl) rfl rfl (fun x => key x 0) (fun x => key x 1), CFm_cg a8 rfl (fun x => key x 0) (fun x => key x 1), fun x hx => by rw [key]; exact a9 x hx⟩
section CU
variable {σ : Hp} {T : Td} {post : Int32 → Hp → Prop} {postv : Hp → Prop}
theorem cpy_0 (F G : Nat → Int32) {n k : Nat} (hk : k < n) : va_cpy F G 0 0 n k = F k := by
  unfold va_cpy
  rw [if_pos ⟨Nat.zero_le k, by omega⟩, Nat.zero_add, Nat.sub_zero]
/-- what is told is taken over -/
theorem sX2_takeFrom (hS : Cst σ T) (hO : Tok T) (h : ∀ σ', Fr CFx σ σ' → CRi σ' 35 15 (gmT T) → postv σ') : vX2_takeFrom 35 23 σ postv := by
  have hG := gmT_ok hO
  have g1 := hG.1
  have g5 := hG.2.2.2.2.1
  obtain ⟨b1, b2, b3, b4, b5, b6, b7, b8, b9⟩ := hS.ri
  unfold vX2_takeFrom
  refine ⟨by decide, by decide, by decide, ?_⟩
  show vX5_takeFrom 36 24 σ _
  unfold vX5_takeFrom
  refine ⟨by decide, by decide, ?_⟩
  rintro _ rfl
  refine ⟨by decide, by decide, by decide, by decide, ?_⟩
  rw [show rt 24 0 = 25 by decide, show rt 24 1 = 26 by decide, show rt 24 2 = 27 by decide, show rt 36 0 = 37 by decide, show rt 36 1 = 38 by decide, show rt 36 2 = 39 by decide, show iln 25 = 12 by decide, show iln 26 = 12 by decide, show iln 27 = 12 by decide, show iln 37 = 12 by decide, show iln 38 = 12 by decide, show iln 39 = 12 by decide, show (0 : Int32).toNatClampNeg = 0 by decide]
  have b1 : σ.1 24 3 = nI (ns (gmT T)) := b1
  rw [wI_at, if_pos rfl, b1, nI_c (by omega)]
  refine ⟨nI_pos (by omega), by omega, by omega, ?_⟩
  rintro _ rfl
  refine ⟨by decide, by decide, by decide, by decide, ?_⟩
  rw [wR_ne (by decide), wI_at, if_pos rfl, nI_c (by omega)]
  refine ⟨nI_pos (by omega), by omega, by omega, ?_⟩
  rintro _ rfl
  refine ⟨by decide, by decide, by decide, by decide, ?_⟩
  rw [wR_ne (by decide), wR_ne (by decide), wI_at, if_pos rfl, nI_c (by omega)]
  refine ⟨nI_pos (by omega), by omega, by omega, ?_⟩
  rintro σ4 hS4
  have hF4 : Fr CFx σ σ4 := by
    rw [hS4]
    exact (((Fr.wI rfl).tr' (Fr.wR (fun b hb => by cases hb))).tr' (Fr.wR (fun b hb => by cases hb))).tr' (Fr.wR (fun b hb => by cases hb))
  have x36 : σ4.1 36 3 = nI (ns (gmT T)) := by rw [hS4, wR_ne (by decide), wR_ne (by decide), wR_ne (by decide), wI_at, if_pos rfl]
  have x37 : ∀ i, i < ns (gmT T) → σ4.1 37 i = nI (gS (gmT T) i 0) := fun i hi => by
    rw [hS4, wR_ne (by decide), wR_ne (by decide), wR_eq, cpy_0 _ _ hi, wI_ne (by decide)]; exact (b2 i hi).1
  have x38 : ∀ i, i < ns (gmT T) → σ4.1 38 i = nI (gS (gmT T) i 1) := fun i hi => by
    rw [hS4, wR_ne (by decide), wR_eq, cpy_0 _ _ hi, wR_ne (by decide), wI_ne (by decide)]; exact (b2 i hi).2.1
  have x39 : ∀ i, i < ns (gmT T) → σ4.1 39 i = nI (gS (gmT T) i 2) := fun i hi => by
    rw [hS4, wR_eq, cpy_0 _ _ hi, wR_ne (by decide), wR_ne (by decide), wI_ne (by decide)]; exact (b2 i hi).2.2
  refine ⟨by decide, by decide, by decide, by decide, by decide, by decide, by decide, ?_⟩
  rw [show rt 23 2 = 28 by decide, show rt 35 2 = 40 by decide, show (12 : Int32).toNatClampNeg = 12 by decide]
  rintro _ rfl _ rfl _ rfl
  rintro σ8 hS8
  have hF8 : Fr CFx σ4 σ8 := by
    rw [hS8]
    exact (((Fr.wR (fun b hb => by cases hb)).tr' (Fr.wI rfl)).tr' (Fr.wI rfl)).tr' (Fr.wN rfl)
  have hF : Fr CFx σ σ8 := hF4.tr' hF8
  have y1 : σ8.1 = (wI (wI (wR σ4 40 (va_cpy (σ4.1 28) (σ4.1 40) 0 0 12)) 35 3 ((wR σ4 40 (va_cpy (σ4.1 28) (σ4.1 40) 0 0 12)).1 23 3)) 35 4 ((wI (wR σ4 40 (va_cpy (σ4.1 28) (σ4.1 40) 0 0 12)) 35 3 ((wR σ4 40 (va_cpy (σ4.1 28) (σ4.1 40) 0 0 12)).1 23 3)).1 23 4)).1 := by rw [hS8]; rfl
  have y2 : σ8.2.2 35 5 = σ4.2.2 23 5 := by rw [hS8, wN_at, if_pos rfl]; rfl
  have z : ∀ a, a ≠ 35 → a ≠ 40 → σ8.1 a = σ4.1 a := fun a h1 h2 => by rw [y1, wI_ne h1, wI_ne h1, wR_ne h2]
  refine h σ8 hF ⟨?_, fun i hi => ?_, fun k hk => ?_, ?_, ?_, ?_, b7.eq (hF.r (fun _ => rfl)) (hF.r (fun _ => rfl)) (hF.r (fun _ => rfl)), ?_, fun k hk => ?_⟩
  · rw [z 36 (by decide) (by decide)]; exact x36
  · rw [z 37 (by decide) (by decide), z 38 (by decide) (by decide), z 39 (by decide) (by decide)]; exact ⟨x37 i hi, x38 i hi, x39 i hi⟩
  · rw [y1, wI_ne (by decide), wI_ne (by decide), wR_eq, cpy_0 _ _ (by omega), hF4.i rfl]; exact b3 k hk
  · rw [y1, wI_nf (by decide), wI_at, if_pos rfl, wR_ne (by decide), hF4.i rfl]; exact b4
  · rw [y1, wI_at, if_pos rfl, wI_ne (by decide), wR_ne (by decide), hF4.i rfl]; exact b5
  · rw [y2, hF4.n rfl]; exact b6
  · unfold CFm at b8 ⊢; rw [hF.r (fun _ => rfl)]; exact b8
  · rw [hF.i rfl]; exact b9 k hk
theorem CFr_CFx : ∀ a b, CFx a b = false → CFr 35 a b = false := fun a b h => by
  refine CFr_f ?_ ?_
  · by_cases h1 : 41 ≤ a ∧ a ≤ 46
    · unfold CFx at h
      rw [Bool.or_eq_false_iff, Bool.or_eq_false_iff, Bool.or_eq_false_iff] at h
      rw [Nat.ble_eq_true_of_le (show 35 ≤ a by omega), Nat.ble_eq_true_of_le (show a ≤ 46 by omega)] at h
      cases h.2.2.1
    · omega
  · refine Or.inl ?_
    rintro rfl
    cases h
theorem CFo_CFx : ∀ a b, CFx a b = false → CFo 19 a b = false := fun a b h => by
  refine CFo_f ?_
  by_cases h1 : 20 ≤ a ∧ a ≤ 22
  · unfold CFx at h
    rw [Bool.or_eq_false_iff, Bool.or_eq_false_iff] at h
    rw [Nat.ble_eq_true_of_le (show 19 ≤ a by omega), Nat.ble_eq_true_of_le (show a ≤ 22 by omega)] at h
    cases h.2.1
  · omega
/-- 'which' and 'much' -/
def CF0 : Nat → Nat → Bool := fun a b => Nat.beq a 0 && (Nat.beq b 13 || Nat.beq b 14)
theorem CF0_f {a b : Nat} (h : a ≠ 0 ∨ (b ≠ 13 ∧ b ≠ 14)) : CF0 a b = false := by
  unfold CF0
  rcases h with h | ⟨h1, h2⟩
  · rw [show Nat.beq a 0 = false from beq_f h]; rfl
  · rw [show Nat.beq b 13 = false from beq_f h1, show Nat.beq b 14 = false from beq_f h2, Bool.or_false, Bool.and_false]
theorem CF0_CFx : ∀ a b, CFx a b = false → CF0 a b = false := fun a b h => by
  refine CF0_f ?_
  by_cases ha : a = 0
  · subst ha
    refine Or.inr ⟨?_, ?_⟩
    · rintro rfl; cases h
    · rintro rfl; cases h
  · exact Or.inl ha
theorem CRi.f0 {co : Nat} {g : Gm} (hc : isCo co) (h : CRi σ 35 co g) {σ' : Hp} (hF : Fr CF0 σ σ') : CRi σ' 35 co g := by
  have hcc : co = 15 ∨ co = 19 := hc
  have r : ∀ a, a ≠ 0 → σ'.1 a = σ.1 a := fun a ha => hF.r (fun b => CF0_f (Or.inl ha))
  obtain ⟨a1, a2, a3, a4, a5, a6, a7, a8, a9⟩ := h
  refine ⟨?_, ?_, ?_, ?_, ?_, ?_, a7.eq (r _ (by omega)) (r _ (by omega)) (r _ (by omega)), ?_, ?_⟩
  · rw [r _ (by omega)]; exact a1
  · rw [r _ (by omega), r _ (by omega), r _ (by omega)]; exact a2
  · rw [r _ (by omega)]; exact a3
  · rw [r _ (by omega)]; exact a4
  · rw [r _ (by omega)]; exact a5
  · rw [hF.n (CF0_f (Or.inl (by decide)))]; exact a6
  · unfold CFm at a8 ⊢; rw [r _ (by omega)]; exact a8
  · rw [r _ (by omega)]; exact a9
/-- one try -/
theorem tryStep {co : Nat} {g : Gm} (hc : isCo co) (hG : Gok g) (hI : CRi σ 35 co g) (h : ∀ σ', Fr (CFr 35) σ σ' → CRi σ' 35 co g → σ'.1 35 11 = nI (gscore g) → CRs σ' 35 g (sim g 24) → CRb σ' 35 g 24 → postv σ') : vX2_play 35 σ postv :=
  sX2_play (Or.inr rfl) hc hG hI (fun σ' hF hS hB => h σ' hF (hI.fr (Or.inr rfl) hc hF) hS.2.2.2.2.1 hS hB)
/-- the best so far, in 'which' and 'much' -/
def CBs (σ : Hp) (f : Nat → Nat) (v : Nat) : Prop := (0 < v → σ.1 0 13 = fI (bst (fun v => f v + 1) v).1) ∧ σ.1 0 14 = fI (bst (fun v => f v + 1) v).2
theorem CBs.step {f : Nat → Nat} {v : Nat} {M : Nat} (hf : f v ≤ M) (hb : (bst (fun v => f v + 1) v).2 ≤ M + 1) (hM : M < 1000000) (hC : CBs σ f v) {a b : Int32} (ha : a = nI v) (hb2 : b = nI (f v)) (h : ∀ σ', Fr CF0 σ σ' → CBs σ' f (v + 1) → postv σ') : vX8_offer a b σ postv := by
  subst ha hb2
  unfold vX8_offer
  rw [hC.2, fI_le (by omega) (by omega)]
  have hbs : bst (fun v => f v + 1) (v + 1) = if (bst (fun v => f v + 1) v).2 < f v + 1 then (v + 1, f v + 1) else bst (fun v => f v + 1) v := rfl
  refine ⟨fun c => ?_, fun c => ?_⟩
  · rw [if_neg (by omega)] at hbs
    refine h σ Fr.rf ⟨fun _ => ?_, by rw [hbs]; exact hC.2⟩
    rw [hbs]
    refine hC.1 ?_
    rcases Nat.eq_zero_or_pos v with e | e
    · subst e
      have : (bst (fun v => f v + 1) 0).2 = 0 := rfl
      omega
    · exact e
  · rw [if_pos (by omega)] at hbs
    rintro _ rfl _ rfl
    refine h _ ((Fr.wI rfl).tr' (Fr.wI rfl)) ⟨fun _ => ?_, ?_⟩
    · rw [wI_at, if_pos rfl, hbs, fI_s]
    · rw [wI_nf (by decide), wI_at, if_pos rfl, hbs, fI_s]
theorem bst_bd {f : Nat → Nat} {M : Nat} : ∀ n, (∀ v, v < n → f v ≤ M) → (bst (fun v => f v + 1) n).2 ≤ M + 1
  | 0, _ => Nat.zero_le _
  | n + 1, h => by
    rw [bst]
    split
    · have := h n (by omega); show f n + 1 ≤ M + 1; omega
    · exact bst_bd n (fun v hv => h v (by omega))
theorem CBs.eq {f : Nat → Nat} {v : Nat} (hC : CBs σ f v) {σ' : Hp} (h1 : σ'.1 0 13 = σ.1 0 13) (h2 : σ'.1 0 14 = σ.1 0 14) : CBs σ' f v := ⟨fun q => by rw [h1]; exact hC.1 q, by rw [h2]; exact hC.2⟩
theorem CBs.fin {f : Nat → Nat} {n : Nat} (hC : CBs σ f n) (hn : 0 < n) : CWm σ (gpl f n 0) (gpl f n 1) := by
  unfold gpl
  rw [if_pos rfl, if_neg (by decide)]
  exact ⟨hC.1 hn, hC.2⟩
theorem sX8_seekAim (hS : Cst σ T) (hO : Tok T) {i : Nat} {a : Int32} (hi : i < ns (gmT T)) (ha : a = nI i) (h : ∀ σ', Fr CFx σ σ' → CWm σ' (gpl (fun v => gscore (gSs (gmT T) i 2 v)) 6 0) (gpl (fun v => gscore (gSs (gmT T) i 2 v)) 6 1) → postv σ') : vX8_seekAim a σ postv := by
  subst ha
  have hG := gmT_ok hO
  have g5 := hG.2.2.2.2.1
  have g1 := hG.1
  unfold vX8_seekAim
  refine sX2_takeFrom hS hO (fun σ0 hF0 hI0 => ?_)
  generalize gmT T = g at *
  rintro _ rfl
  have hF00 : Fr CF0 σ0 (wI σ0 0 14 (-1)) := Fr.wI rfl
  have hI0 := (CRi_s0 (i := i) (j := 2) (Or.inr rfl) hI0).f0 (Or.inl rfl) hF00
  suffices L : ∀ (d v : Nat) (σ1 : Hp), v + d = 6 → Fr CFx σ σ1 → (∃ w, CRi σ1 35 15 (gSs g i 2 w)) → CBs σ1 (fun v => gscore (gSs g i 2 v)) v → vX8_seekAim_18 postv (fun σ_4 => postv σ_4) (nI i) (d + 1) (nI v) σ1 from ⟨6 + 1, L 6 0 _ (by omega) (hF0.tr' (Fr.wI rfl)) ⟨_, hI0⟩ ⟨fun q => absurd q (Nat.lt_irrefl 0), by rw [wI_at, if_pos rfl]; rfl⟩⟩
  intro d
  induction d with
  | zero =>
    intro v σ1 hd hF hI hB
    have : v = 6 := by omega
    subst this
    rw [vX8_seekAim_18]; dsimp only
    exact ⟨fun _ => h σ1 hF (hB.fin (by omega)), fun c => absurd (nI_le (a := 6) (b := 6) (by omega) (by omega)) c⟩
  | succ d ih =>
    intro v σ1 hd hF hI hB
    obtain ⟨w, hI⟩ := hI
    rw [vX8_seekAim_18]; dsimp only
    refine ⟨fun c => absurd c (nI_ge (b := 6) (by omega) (by omega)), fun _ => ?_⟩
    rw [nI_c (by omega)]
    refine ⟨vp_in_nI (by omega) (by omega), ?_⟩
    rintro σ2 hS2
    have hI2 : CRi σ2 35 15 (gSs g i 2 v) := by rw [hS2]; exact CRi_ss (j := 2) (Or.inr rfl) (Or.inl rfl) hI
    have hF2 : Fr CFx σ1 σ2 := by rw [hS2]; exact Fr.wI rfl
    have hB2 : CBs σ2 (fun v => gscore (gSs g i 2 v)) v := hB.eq (by rw [hS2, wI_ne (by decide)]) (by rw [hS2, wI_ne (by decide)])
    refine tryStep (Or.inl rfl) (hG.ss (Or.inr ⟨rfl, by omega⟩)) hI2 (fun σ3 hF3 hI3 h11 _ _ => ?_)
    rw [h11]
    refine CBs.step (f := (fun v => gscore (gSs g i 2 v))) (M := 324) (gscore_le (hG.ss (Or.inr ⟨rfl, by omega⟩))) (bst_bd v (fun v _ => gscore_le (hG.ss (Or.inr ⟨rfl, by omega⟩)))) (by omega) (hB2.eq (hF3.i rfl) (hF3.i rfl)) rfl rfl (fun σ4 hF4 hB4 => ?_)
    rintro _ rfl
    rw [nI_1 v]
    exact ih (v + 1) σ4 (by omega) (((hF.tr' hF2).tr' (hF3.up CFr_CFx)).tr' (hF4.up CF0_CFx)) ⟨v, hI3.f0 (Or.inl rfl) hF4⟩ hB4
theorem sX8_seekFire (hS : Cst σ T) (hO : Tok T) {i : Nat} {a : Int32} (hi : i < ns (gmT T)) (ha : a = nI i) (h : ∀ σ', Fr CFx σ σ' → CWm σ' (gpl (fun v => gscore (gSs (gmT T) i 0 v)) 24 0) (gpl (fun v => gscore (gSs (gmT T) i 0 v)) 24 1) → postv σ') : vX8_seekFire a σ postv := by
  subst ha
  have hG := gmT_ok hO
  have g5 := hG.2.2.2.2.1
  have g1 := hG.1
  unfold vX8_seekFire
  refine sX2_takeFrom hS hO (fun σ0 hF0 hI0 => ?_)
  generalize gmT T = g at *
  rintro _ rfl
  have hF00 : Fr CF0 σ0 (wI σ0 0 14 (-1)) := Fr.wI rfl
  have hI0 := (CRi_s0 (i := i) (j := 0) (Or.inl rfl) hI0).f0 (Or.inl rfl) hF00
  suffices L : ∀ (d v : Nat) (σ1 : Hp), v + d = 24 → Fr CFx σ σ1 → (∃ w, CRi σ1 35 15 (gSs g i 0 w)) → CBs σ1 (fun v => gscore (gSs g i 0 v)) v → vX8_seekFire_18 postv (fun σ_4 => postv σ_4) (nI i) (d + 1) (nI v) σ1 from ⟨24 + 1, L 24 0 _ (by omega) (hF0.tr' (Fr.wI rfl)) ⟨_, hI0⟩ ⟨fun q => absurd q (Nat.lt_irrefl 0), by rw [wI_at, if_pos rfl]; rfl⟩⟩
  intro d
  induction d with
  | zero =>
    intro v σ1 hd hF hI hB
    have : v = 24 := by omega
    subst this
    rw [vX8_seekFire_18]; dsimp only
    exact ⟨fun _ => h σ1 hF (hB.fin (by omega)), fun c => absurd (nI_le (a := 24) (b := 24) (by omega) (by omega)) c⟩
  | succ d ih =>
    intro v σ1 hd hF hI hB
    obtain ⟨w, hI⟩ := hI
    rw [vX8_seekFire_18]; dsimp only
    refine ⟨fun c => absurd c (nI_ge (b := 24) (by omega) (by omega)), fun _ => ?_⟩
    rw [nI_c (by omega)]
    refine ⟨vp_in_nI (by omega) (by omega), ?_⟩
    rintro σ2 hS2
    have hI2 : CRi σ2 35 15 (gSs g i 0 v) := by rw [hS2]; exact CRi_ss (j := 0) (Or.inl rfl) (Or.inl rfl) hI
    have hF2 : Fr CFx σ1 σ2 := by rw [hS2]; exact Fr.wI rfl
    have hB2 : CBs σ2 (fun v => gscore (gSs g i 0 v)) v := hB.eq (by rw [hS2, wI_ne (by decide)]) (by rw [hS2, wI_ne (by decide)])
    refine tryStep (Or.inl rfl) (hG.ss (Or.inl ⟨rfl, by omega⟩)) hI2 (fun σ3 hF3 hI3 h11 _ _ => ?_)
    rw [h11]
    refine CBs.step (f := (fun v => gscore (gSs g i 0 v))) (M := 324) (gscore_le (hG.ss (Or.inl ⟨rfl, by omega⟩))) (bst_bd v (fun v _ => gscore_le (hG.ss (Or.inl ⟨rfl, by omega⟩)))) (by omega) (hB2.eq (hF3.i rfl) (hF3.i rfl)) rfl rfl (fun σ4 hF4 hB4 => ?_)
    rintro _ rfl
    rw [nI_1 v]
    exact ih (v + 1) σ4 (by omega) (((hF.tr' hF2).tr' (hF3.up CFr_CFx)).tr' (hF4.up CF0_CFx)) ⟨v, hI3.f0 (Or.inl rfl) hF4⟩ hB4
theorem sX8_seekMend (hS : Cst σ T) (hO : Tok T) (h : ∀ σ', Fr CFx σ σ' → CWm σ' (gpl (fun v => gscore (gPu (gmT T) v)) 5 0) (gpl (fun v => gscore (gPu (gmT T) v)) 5 1) → postv σ') : vX8_seekMend σ postv := by
  have hG := gmT_ok hO
  have g5 := hG.2.2.2.2.1
  have g1 := hG.1
  unfold vX8_seekMend
  refine sX2_takeFrom hS hO (fun σ0 hF0 hI0 => ?_)
  generalize gmT T = g at *
  rintro _ rfl
  have hF00 : Fr CF0 σ0 (wI σ0 0 14 (-1)) := Fr.wI rfl
  have hI0 := ((show CRi σ0 35 15 (gPu g (gpu g)) from hI0)).f0 (Or.inl rfl) hF00
  suffices L : ∀ (d v : Nat) (σ1 : Hp), v + d = 5 → Fr CFx σ σ1 → (∃ w, CRi σ1 35 15 (gPu g w)) → CBs σ1 (fun v => gscore (gPu g v)) v → vX8_seekMend_18 postv (fun σ_4 => postv σ_4) (d + 1) (nI v) σ1 from ⟨5 + 1, L 5 0 _ (by omega) (hF0.tr' (Fr.wI rfl)) ⟨_, hI0⟩ ⟨fun q => absurd q (Nat.lt_irrefl 0), by rw [wI_at, if_pos rfl]; rfl⟩⟩
  intro d
  induction d with
  | zero =>
    intro v σ1 hd hF hI hB
    have : v = 5 := by omega
    subst this
    rw [vX8_seekMend_18]; dsimp only
    exact ⟨fun _ => h σ1 hF (hB.fin (by omega)), fun c => absurd (nI_le (a := 5) (b := 5) (by omega) (by omega)) c⟩
  | succ d ih =>
    intro v σ1 hd hF hI hB
    obtain ⟨w, hI⟩ := hI
    rw [vX8_seekMend_18]; dsimp only
    refine ⟨fun c => absurd c (nI_ge (b := 5) (by omega) (by omega)), fun _ => ?_⟩
    rintro σ2 hS2
    have hI2 : CRi σ2 35 15 (gPu g v) := by rw [hS2]; exact CRi_pu (Or.inl rfl) hI
    have hF2 : Fr CFx σ1 σ2 := by rw [hS2]; exact Fr.wI rfl
    have hB2 : CBs σ2 (fun v => gscore (gPu g v)) v := hB.eq (by rw [hS2, wI_ne (by decide)]) (by rw [hS2, wI_ne (by decide)])
    refine tryStep (Or.inl rfl) (hG.pu (by omega)) hI2 (fun σ3 hF3 hI3 h11 _ _ => ?_)
    rw [h11]
    refine CBs.step (f := (fun v => gscore (gPu g v))) (M := 324) (gscore_le (hG.pu (by omega))) (bst_bd v (fun v _ => gscore_le (hG.pu (by omega)))) (by omega) (hB2.eq (hF3.i rfl) (hF3.i rfl)) rfl rfl (fun σ4 hF4 hB4 => ?_)
    rintro _ rfl
    rw [nI_1 v]
    exact ih (v + 1) σ4 (by omega) (((hF.tr' hF2).tr' (hF3.up CFr_CFx)).tr' (hF4.up CF0_CFx)) ⟨v, hI3.f0 (Or.inl rfl) hF4⟩ hB4
theorem pl_ans {f : Nat → Nat} {n : Nat} (hW : CWm σ (gpl f n 0) (gpl f n 1)) {j : Nat} (hj : j < 2) (hb : post (gpl f n j) σ) : (nI j = 0 → post (σ.1 0 13) σ) ∧ (¬ nI j = 0 → post (σ.1 0 14) σ) := by
  rw [hW.1, hW.2, k0, nI_eq2 (by omega) (by omega)]
  refine ⟨fun q => ?_, fun q => ?_⟩
  · rw [q] at hb; exact hb
  · rw [show j = 1 by omega] at hb; exact hb
theorem sC_aim (hI : CI σ T) (hO : Tok T) {p q : Int32} (h : ∀ σ', Cls σ σ' → CI σ' T → post (a_aim T p q) σ') : vX8_aim p q σ post := by
  have hG := gmT_ok hO
  have g5 := hG.2.2.2.2.1
  refine sC_settle hI hO (fun σ1 hF hS => ?_)
  have hb := h σ1 hF hS.ci
  refine gWS g5 hS.sh (fun q => ?_) (fun k hk e => gW (n := 2) (by omega) rfl (fun q => ?_) (fun j hj e2 => ?_))
  · rw [a_aim, iff_f (by rw [q]; rfl)] at hb; exact hb
  · rw [a_aim, iff_f (by rw [q]; simp)] at hb; exact hb
  · subst e e2
    refine sX8_seekAim hS hO hk rfl (fun σ2 hF2 hW => ?_)
    have hb := h σ2 (hF.tr (Cls.fx hF2)) (hS.fx hF2).ci
    rw [a_aim, iff_t (by rw [ib_t hk (by omega), ib_t hj (by omega)]; rfl), Nn_nI (by omega), Nn_nI (by omega)] at hb
    exact pl_ans hW hj hb
theorem sC_fire (hI : CI σ T) (hO : Tok T) {p q : Int32} (h : ∀ σ', Cls σ σ' → CI σ' T → post (a_fire T p q) σ') : vX8_fire p q σ post := by
  have hG := gmT_ok hO
  have g5 := hG.2.2.2.2.1
  refine sC_settle hI hO (fun σ1 hF hS => ?_)
  have hb := h σ1 hF hS.ci
  refine gWS g5 hS.sh (fun q => ?_) (fun k hk e => gW (n := 2) (by omega) rfl (fun q => ?_) (fun j hj e2 => ?_))
  · rw [a_fire, iff_f (by rw [q]; rfl)] at hb; exact hb
  · rw [a_fire, iff_f (by rw [q]; simp)] at hb; exact hb
  · subst e e2
    refine sX8_seekFire hS hO hk rfl (fun σ2 hF2 hW => ?_)
    have hb := h σ2 (hF.tr (Cls.fx hF2)) (hS.fx hF2).ci
    rw [a_fire, iff_t (by rw [ib_t hk (by omega), ib_t hj (by omega)]; rfl), Nn_nI (by omega), Nn_nI (by omega)] at hb
    exact pl_ans hW hj hb
theorem sC_mend (hI : CI σ T) (hO : Tok T) {p : Int32} (h : ∀ σ', Cls σ σ' → CI σ' T → post (a_mend T p) σ') : vX8_mend p σ post := by
  refine gW (n := 2) (by omega) rfl (fun q => ?_) (fun j hj e => ?_)
  · have hb := h σ Cls.rf hI; rw [a_mend, iff_f q] at hb; exact hb
  · subst e
    refine sC_settle hI hO (fun σ1 hF hS => ?_)
    refine sX8_seekMend hS hO (fun σ2 hF2 hW => ?_)
    have hb := h σ2 (hF.tr (Cls.fx hF2)) (hS.fx hF2).ci
    rw [a_mend, iff_t (ib_t hj (by omega)), Nn_nI (by omega)] at hb
    exact pl_ans hW hj hb
end CU
