/-! ===== the class: sheets ===== -/
section CY
variable {σ σ' : Hp} {T : Td} {post : Int32 → Hp → Prop} {postv : Hp → Prop}
/-- the items of one sheet are others -/
theorem CI.it (hI : CI σ T) {s : Nat} (hs : s < 4) {F : Nat → Int32} (hF : Fr B5 σ σ') (hr : ∀ a, a ≠ 64 + 2 * s → σ'.1 a = σ.1 a) (hv : ∀ i, i < tsz T s → σ'.1 (64 + 2 * s) i = F i) : CI σ' (shT T (tls T, tfo T, tsz T, upI (tit T) s F)) := by
  refine hI.keep hF (fun a b hk => B5_f (by unfold KW at hk; omega)) rfl rfl (fun _ => rfl) (hI.td.m5 hF (fun s' hs' => ?_))
  obtain ⟨b1, b2, b3, b4⟩ := hI.td.2.2.2.2.2.1 s' hs'
  show _ = nI (tfo T s') ∧ _ = nI (tsz T s') ∧ _ = (if tls T s' then 1 else 0) ∧ ∀ i, i < tsz T s' → _ = upI (tit T) s F s' i
  rw [hr (63 + 2 * s') (by omega)]
  refine ⟨b1, b2, b3, fun i hi => ?_⟩
  unfold upI
  by_cases es : s' = s
  · subst es; rw [if_pos rfl]; exact hv i hi
  · rw [if_neg es, hr _ (by omega)]; exact b4 i hi
theorem sX4_put {s i f : Nat} {a v : Int32} (hs : s < 4) (hi : i < 60) (hf : f < 3) (ha : a = nI i) (h1 : σ.1 (63 + 2 * s) 1 = nI f) (h : postv (wI σ (64 + 2 * s) i (cutI f v))) : vX4_put (63 + 2 * s) a v σ postv := by
  subst ha
  obtain ⟨f1, f2, f3, f4, f5⟩ := sht_fact s hs
  unfold vX4_put
  rw [f2, f5, h1, nI_c (by omega)]
  refine ⟨f1, fun q => ⟨vp_in_nI hi (by omega), ?_⟩, fun q => ⟨fun q2 => ⟨vp_in_nI hi (by omega), ?_⟩, fun q2 => ⟨vp_in_nI hi (by omega), ?_⟩⟩⟩
  · rw [nI_z (by omega)] at q
    subst q
    rintro _ rfl; exact h
  · have : f = 1 := (nI_eq (b := 1) (by omega) (by omega)).mp q2
    subst this
    rintro _ rfl; exact h
  · have h0 : f ≠ 0 := fun e => q (by rw [e]; rfl)
    have h1 : f ≠ 1 := fun e => q2 (by rw [e]; rfl)
    unfold cutI at h
    rw [if_neg h0, if_neg h1] at h
    rintro _ rfl; exact h
theorem sX8_refuseItem (hI : CI σ T) (hO : Tok T) {p q r : Int32} (h1 : ∀ s f i, s < 4 → f < 3 → i < tsz T s → p = nI s → q = nI f → r = nI i → lck T s f r = 0 → tfo T s = f → post 0 σ) (h2 : (ib p 4 && ib q 3) = false → post (-2) σ) (h3 : ∀ s f, s < 4 → f < 3 → p = nI s → q = nI f → lck T s f r ≠ 0 → ∀ σ', Cls σ σ' → CI σ' (fnd T (lck T s f r)).2 → post (fnd T (lck T s f r)).1 σ') : vX8_refuseItem p q r σ post := by
  refine gW (n := 3) (by omega) rfl (fun q => h2 (by rw [q]; simp)) (fun f hf e => ?_)
  subst e
  refine sX8_refuseSheet hI (fun s hs e el => ?_) (fun q => ?_) (fun s hs e el σ2 hF2 hI2 => ?_)
  · subst e
    refine ⟨fun _ => ?_, fun q => absurd rfl q⟩
    obtain ⟨f1, f2, f3, f4, f5⟩ := sht_fact s hs
    obtain ⟨b1, b2, b3, b4⟩ := hI.td.2.2.2.2.2.1 s hs
    have hsz := tsz_ok hO hs
    have hfo := tfo_ok hO hs
    rw [rt_sh s hs, b1, b2, nI_eq2 (by omega) (by omega)]
    refine ⟨vp_in_nI hs (by omega), f1, fun q => ⟨vp_in_nI hs (by omega), ?_⟩, fun q => ?_⟩
    · refine gW (n := tsz T s) (by omega) rfl (fun q2 => ?_) (fun i hi e => ?_)
      · have hl : lck T s f r = 2 := by unfold lck; rw [iff_f el, if_pos q, iff_f q2]
        have h3 := h3 s f hs hf rfl rfl (by rw [hl]; decide)
        rw [hl] at h3
        exact sX8_finding hI rfl h3
      · have hl : lck T s f r = 0 := by unfold lck; rw [iff_f el, if_pos q, iff_t (by rw [e]; exact ib_t hi (by omega))]
        exact h1 s f i hs hf hi rfl rfl e hl q
    · have hl : lck T s f r = 3 := by unfold lck; rw [iff_f el, if_neg q]
      have h3 := h3 s f hs hf rfl rfl (by rw [hl]; decide)
      rw [hl] at h3
      exact sX8_finding hI rfl h3
  · exact ⟨fun q => absurd q (by decide), fun _ => h2 (by rw [q]; rfl)⟩
  · subst e
    have hl : lck T s f r = 1 := by unfold lck; rw [iff_t el]
    have h3 := h3 s f hs hf rfl rfl (by rw [hl]; decide) σ2 hF2
    rw [hl] at h3
    exact ⟨fun q => absurd q (by show ¬ (-10 : Int32) - nI 1 = 0; decide), fun _ => h3 hI2⟩
theorem lck_cs (T : Td) (s f : Nat) (i : Int32) : lck T s f i = 0 ∨ lck T s f i = 1 ∨ lck T s f i = 2 ∨ lck T s f i = 3 := by
  unfold lck
  repeat' split
  all_goals simp
theorem fnd_ne {T : Td} {k : Nat} (h : k = 1 ∨ k = 2 ∨ k = 3) : ¬ (fnd T k).1 = 0 := by
  show ¬ (-10 : Int32) - nI k = 0
  rcases h with rfl | rfl | rfl <;> decide
theorem sC_lay (hI : CI σ T) (hO : Tok T) {p q r v : Int32} (h : ∀ σ', Cls σ σ' → CI σ' (r_lay T p q r v).2 → post (r_lay T p q r v).1 σ') : vX8_lay p q r v σ post := by
  refine sX8_refuseItem hI hO (fun s f i hs hf hi e1 e2 e3 hl ho => ?_) (fun q => ?_) (fun s f hs hf e1 e2 hl σ2 hF2 hI2 => ?_)
  · subst e1 e2 e3
    refine ⟨fun _ => ?_, fun q => absurd rfl q⟩
    obtain ⟨f1, f2, f3, f4, f5⟩ := sht_fact s hs
    have hsz := tsz_ok hO hs
    rw [r_lay, iff_t (by rw [ib_t hs (by omega), ib_t hf (by omega)]; rfl), Nn_nI (by omega), Nn_nI (by omega), Nn_nI (by omega), if_pos hl] at h
    rw [rt_sh s hs]
    refine ⟨vp_in_nI hs (by omega), f1, sX4_put hs (by omega) hf rfl (by rw [(hI.td.2.2.2.2.2.1 s hs).1, ho]) ?_⟩
    have hF : Fr B5 σ (wI σ (64 + 2 * s) i (cutI f v)) := Fr.wI (rg_t (by omega) (by omega))
    refine h _ (B5_cl hF) (hI.it hs hF (fun a ha => wI_ne ha) (fun j hj => ?_))
    rw [wI_at]
    by_cases e : j = i
    · rw [if_pos e, if_pos e]
    · rw [if_neg e, if_neg e]; exact (hI.td.2.2.2.2.2.1 s hs).2.2.2 j hj
  · have hb := h σ Cls.rf
    rw [r_lay, iff_f q] at hb
    exact ⟨fun q => absurd q (by decide), fun _ => hb hI⟩
  · subst e1 e2
    rw [r_lay, iff_t (by rw [ib_t hs (by omega), ib_t hf (by omega)]; rfl), Nn_nI (by omega), Nn_nI (by omega), if_neg hl] at h
    exact ⟨fun q => absurd q (fnd_ne (by have := lck_cs T s f r; omega)), fun _ => h σ2 hF2 hI2⟩
theorem sC_get (hI : CI σ T) (hO : Tok T) {p q r : Int32} (h : ∀ σ', Cls σ σ' → CI σ' (r_get T p q r).2 → post (r_get T p q r).1 σ') : vX8_get p q r σ post := by
  refine sX8_refuseItem hI hO (fun s f i hs hf hi e1 e2 e3 hl ho => ?_) (fun q => ?_) (fun s f hs hf e1 e2 hl σ2 hF2 hI2 => ?_)
  · subst e1 e2 e3
    refine ⟨fun _ => ?_, fun q => absurd rfl q⟩
    obtain ⟨f1, f2, f3, f4, f5⟩ := sht_fact s hs
    have hsz := tsz_ok hO hs
    rw [r_get, iff_t (by rw [ib_t hs (by omega), ib_t hf (by omega)]; rfl), Nn_nI (by omega), Nn_nI (by omega), Nn_nI (by omega), if_pos hl] at h
    rw [rt_sh s hs, f2, f5, nI_c (by omega), (hI.td.2.2.2.2.2.1 s hs).2.2.2 i hi]
    exact ⟨vp_in_nI hs (by omega), f1, vp_in_nI (by omega) (by omega), h σ Cls.rf hI⟩
  · have hb := h σ Cls.rf
    rw [r_get, iff_f q] at hb
    exact ⟨fun q => absurd q (by decide), fun _ => hb hI⟩
  · subst e1 e2
    rw [r_get, iff_t (by rw [ib_t hs (by omega), ib_t hf (by omega)]; rfl), Nn_nI (by omega), Nn_nI (by omega), if_neg hl] at h
    exact ⟨fun q => absurd q (fnd_ne (by have := lck_cs T s f r; omega)), fun _ => h σ2 hF2 hI2⟩
theorem sC_sheet (hI : CI σ T) (hO : Tok T) {p q r : Int32} (h : ∀ σ', Cls σ σ' → CI σ' (r_sheet T p q r).2 → post (r_sheet T p q r).1 σ') : vX8_sheet p q r σ post := by
  have hb := h σ Cls.rf
  refine gW (n := 4) (by omega) rfl (fun q => ?_) (fun s hs e => gW (n := 3) (by omega) rfl (fun q => ?_) (fun f hf e2 => ?_))
  · rw [r_sheet, iff_f (by rw [q]; rfl)] at hb; exact hb hI
  · rw [r_sheet, iff_f (by rw [q]; simp)] at hb; exact hb hI
  · subst e e2
    unfold r_sheet at h hb
    rw [fa_le, fa_le]
    rw [show (60 : Int32).toInt = 60 by decide, show (0 : Int32).toInt = 0 by decide]
    refine ⟨fun q => ?_, fun q => ?_⟩
    · rw [iff_t (by rw [ib_t hs (by omega), ib_t hf (by omega), decide_eq_true q]; rfl)] at h
      refine ⟨fun q0 => ?_, fun q0 => ?_⟩
      · rw [if_pos q0] at h
        obtain ⟨n, hn, rfl⟩ := inb_of (x := r) (n := 61) ⟨q0, by omega⟩ (by omega)
        rw [Nn_nI (by omega), Nn_nI (by omega), Nn_nI (by omega)] at h
        obtain ⟨f1, f2, f3, f4, f5⟩ := sht_fact s hs
        rw [rt_sh s hs]
        refine ⟨vp_in_nI hs (by omega), f1, f1, ?_⟩
        rintro _ rfl _ rfl σ2 hS2
        rw [f2]
        refine sJ7_fill f3 (by rw [f4]; omega) (fun σ3 hF3 hz => ?_)
        have hF2 : Fr B5 σ σ2 := by
          rw [hS2]
          exact ((Fr.wI (rg_t (by omega) (by omega))).tr' (Fr.wI (rg_t (by omega) (by omega)))).tr' (Fr.wI (rg_t (by omega) (by omega)))
        have hF3' : Fr B5 σ2 σ3 := hF3.up (fun a b hab => beq_f (fun e => by rw [e] at hab; unfold B5 at hab; rw [rg_t (by omega) (by omega)] at hab; cases hab))
        have hF := hF2.tr' hF3'
        have r3 : ∀ a, a ≠ 64 + 2 * s → σ3.1 a = σ2.1 a := fun a ha => hF3.r (fun b => beq_f ha)
        refine h σ3 (B5_cl hF) (hI.keep hF (fun a b hk => B5_f (by unfold KW at hk; omega)) rfl rfl (fun _ => rfl) (hI.td.m5 hF (fun s' hs' => ?_)))
        obtain ⟨b1, b2, b3, b4⟩ := hI.td.2.2.2.2.2.1 s' hs'
        have hsz := tsz_ok hO hs'
        show _ = nI (if s' = s then f else tfo T s') ∧ _ = nI (if s' = s then n else tsz T s') ∧ _ = (if (if s' = s then false else tls T s') = true then 1 else 0) ∧ ∀ i, i < (if s' = s then n else tsz T s') → _ = (if s' = s then (fun _ => (0 : Int32)) else tit T s') i
        rw [r3 (63 + 2 * s') (by omega), hS2]
        by_cases es : s' = s
        · subst es
          simp only [if_pos]
          refine ⟨by rw [wI_nf (by decide), wI_nf (by decide), wI_at, if_pos rfl], by rw [wI_nf (by decide), wI_at, if_pos rfl], by rw [wI_at, if_pos rfl]; rfl, fun i hi => hz i (by rw [f4]; omega)⟩
        · simp only [if_neg es]
          rw [wI_ne (by omega), wI_ne (by omega), wI_ne (by omega)]
          refine ⟨b1, b2, b3, fun i hi => ?_⟩
          rw [r3 (64 + 2 * s') (by omega), hS2, wI_ne (by omega), wI_ne (by omega), wI_ne (by omega)]
          exact b4 i hi
      · rw [if_neg q0] at h
        exact sX8_finding hI rfl h
    · rw [iff_f (by rw [decide_eq_false q, Bool.and_false])] at hb
      exact hb hI
end CY
