/-! ===== the class: events, what was seen, sheets ===== -/
section CX
variable {σ σ' : Hp} {T : Td} {post : Int32 → Hp → Prop} {postv : Hp → Prop}
theorem nI_z {n : Nat} (h : n < 2147483648) : (nI n = 0) = (n = 0) := by rw [k0, nI_eq2 h (by omega)]
theorem nI_p {n : Nat} (h : 1 ≤ n) : nI n - 1 = nI (n - 1) := pk_sub h
theorem sX8_isEvent {p q r : Int32} (h1 : ∀ k t v, k < 3 → t < 24 → v < 12 → p = nI k → q = nI t → r = nI v → post 1 σ) (h0 : (ib p 3 && ib q 24 && ib r 12) = false → post 0 σ) : vX8_isEvent p q r σ post := by
  refine gW (n := 3) (by omega) rfl (fun q => h0 (by rw [q]; rfl)) (fun k hk e => gW (n := 24) (by omega) rfl (fun q => h0 (by rw [q]; simp)) (fun t ht e2 => gW (n := 12) (by omega) rfl (fun q => h0 (by rw [q]; simp)) (fun v hv e3 => h1 k t v hk ht hv e e2 e3)))
theorem sC_event (hI : CI σ T) (hO : Tok T) {p q r : Int32} (h : ∀ σ', Cls σ σ' → CI σ' (r_event T p q r).2 → post (r_event T p q r).1 σ') : vX8_event p q r σ post := by
  refine sX8_isEvent (fun k t v hk ht hv e1 e2 e3 => ?_) (fun q => ?_)
  · subst e1 e2 e3
    refine ⟨fun q => absurd q (by decide), fun _ => ?_⟩
    rw [r_event, iff_t (by rw [ib_t hk (by omega), ib_t ht (by omega), ib_t hv (by omega)]; rfl), Nn_nI (by omega), Nn_nI (by omega), Nn_nI (by omega)] at h
    obtain ⟨b1, b2, b3, b4⟩ := hI.td.2.2.2.1
    unfold vX1_isFull
    rw [b1, k8, nI_lt2 (by omega) (by omega)]
    refine ⟨fun q => ?_, fun q => ?_⟩
    · rw [if_neg (by omega)] at h
      refine ⟨fun _ => ?_, fun q => absurd rfl q⟩
      unfold vX1_append
      rw [b1, nI_c (show tne T < 2147483648 by omega), nI_c (show t < 2147483648 by omega)]
      refine ⟨vp_in_nI (by omega) (by omega), ?_⟩
      rintro _ rfl
      rw [wI_ne (by decide), b1, nI_c (show tne T < 2147483648 by omega)]
      refine ⟨vp_in_nI (by omega) (by omega), ?_⟩
      rintro _ rfl
      rw [wI_ne (by decide), wI_ne (by decide), b1, nI_c (show tne T < 2147483648 by omega)]
      refine ⟨vp_in_nI (by omega) (by omega), ?_⟩
      rintro _ rfl
      refine ⟨vp_in_nI ht (by omega), vp_in_nI ht (by omega), ?_⟩
      rintro _ rfl _ rfl σ2 hS2
      simp (disch := decide) only [wI_ne] at hS2
      rw [b1, nI_1] at hS2
      have hF : Fr B3 σ σ2 := by
        rw [hS2]
        exact (((((Fr.wI rfl).tr' (Fr.wI rfl)).tr' (Fr.wI rfl)).tr' (Fr.wI rfl)).tr' (Fr.wI rfl)).tr' (Fr.wI rfl)
      have e4 : σ2.1 10 4 = nI (tne T + 1) := by rw [hS2, wI_ne (by decide), wI_at, if_pos rfl]
      have e9 : σ2.1 0 9 = 0 := by rw [hS2, wI_at, if_pos rfl]
      rw [e4]
      refine h σ2 (B3_cl hF) (Or.inl ⟨hI.td.m3 hF ⟨e4, by show tne T + 1 ≤ 8; omega, fun e he => ?_, fun t' ht' e he => ?_⟩, e9⟩)
      · have he : e < tne T + 1 := he
        show _ = nI (if e = tne T then k else tE T e 0) ∧ _ = nI (if e = tne T then t else tE T e 1) ∧ _ = nI (if e = tne T then v else tE T e 2) ∧ (if e = tne T then k else tE T e 0) < 3 ∧ (if e = tne T then t else tE T e 1) < 24 ∧ (if e = tne T then v else tE T e 2) < 12
        have x11 : σ2.1 11 e = if e = tne T then nI k else σ.1 11 e := by rw [hS2]; simp (disch := decide) only [wI_ne]; rw [wI_at]
        have x12 : σ2.1 12 e = if e = tne T then nI t else σ.1 12 e := by rw [hS2]; simp (disch := decide) only [wI_ne]; rw [wI_at]; simp (disch := decide) only [wI_ne]
        have x13 : σ2.1 13 e = if e = tne T then nI v else σ.1 13 e := by rw [hS2]; simp (disch := decide) only [wI_ne]; rw [wI_at]; simp (disch := decide) only [wI_ne]
        rw [x11, x12, x13]
        by_cases ee : e = tne T
        · simp only [if_pos ee, true_and]; exact ⟨hk, ht, hv⟩
        · simp only [if_neg ee]; exact b3 e (by omega)
      · show _ = (decide (e < tne T + 1) && (if e = tne T then t else tE T e 1) == t')
        have x14 : σ2.1 14 t' = if t' = t then (σ.1 14 t ||| ((1 : Int32) <<< (nI (tne T) &&& 31))) else σ.1 14 t' := by
          rw [hS2]; simp (disch := decide) only [wI_ne]; rw [wI_at]; simp (disch := decide) only [wI_ne]
        rw [x14]
        have hb := b4 t' ht' e he
        by_cases et : t' = t
        · subst et
          rw [if_pos rfl, b_or, hb, bt_one (by omega) he]
          by_cases ee : e = tne T
          · subst ee; simp
          · rw [if_neg ee, decide_eq_false ee, Bool.or_false]
            congr 1
            exact decide_eq_decide.mpr (by omega)
        · rw [if_neg et, hb]
          by_cases ee : e = tne T
          · subst ee
            rw [if_pos rfl, decide_eq_false (Nat.lt_irrefl _), Bool.false_and, show (t == t') = false from beq_eq_false_iff_ne.mpr (fun h => et h.symm), Bool.and_false]
          · rw [if_neg ee]
            congr 1
            exact decide_eq_decide.mpr (by omega)
    · rw [if_pos (by omega)] at h
      exact ⟨fun q => absurd q (by decide), fun _ => h σ Cls.rf hI⟩
  · have hb := h σ Cls.rf
    rw [r_event, iff_f q] at hb
    exact ⟨fun _ => hb hI, fun q => absurd rfl q⟩
theorem sC_back (hI : CI σ T) (hO : Tok T) (h : ∀ σ', Cls σ σ' → CI σ' (r_back T).2 → post (r_back T).1 σ') : vX8_back σ post := by
  obtain ⟨b1, b2, b3, b4⟩ := hI.td.2.2.2.1
  unfold r_back at h
  unfold vX8_back
  rw [b1, nI_z (by omega)]
  refine ⟨fun q => ?_, fun q => ?_⟩
  · rw [if_pos q] at h; exact h σ Cls.rf hI
  · rw [if_neg q] at h
    obtain ⟨r0, r1, r2, l0, l1, l2⟩ := b3 (tne T - 1) (by omega)
    unfold vX1_dropLast
    rw [b1, nI_p (by omega)]
    rintro _ rfl
    rw [wI_at, if_pos rfl, nI_c (show tne T - 1 < 2147483648 by omega), wI_ne (by decide), wI_ne (by decide), r1, nI_c (show tE T (tne T - 1) 1 < 2147483648 by omega)]
    refine ⟨vp_in_nI (by omega) (by omega), vp_in_nI l1 (by omega), vp_in_nI l1 (by omega), ?_⟩
    rintro _ rfl σ2 hS2
    have hF : Fr B3 σ σ2 := by
      rw [hS2]
      exact ((Fr.wI rfl).tr' (Fr.wI rfl)).tr' (Fr.wI rfl)
    have e4 : σ2.1 10 4 = nI (tne T - 1) := by rw [hS2, wI_ne (by decide), wI_ne (by decide), wI_at, if_pos rfl]
    have e9 : σ2.1 0 9 = 0 := by rw [hS2, wI_at, if_pos rfl]
    rw [e4]
    refine h σ2 (B3_cl hF) (Or.inl ⟨hI.td.m3 hF ⟨e4, by show tne T - 1 ≤ 8; omega, fun e he => ?_, fun t' ht' e he => ?_⟩, e9⟩)
    · have he : e < tne T - 1 := he
      have x : ∀ a, a = 11 ∨ a = 12 ∨ a = 13 → σ2.1 a = σ.1 a := fun a ha => by rw [hS2, wI_ne (by omega), wI_ne (by omega), wI_ne (by omega)]
      rw [x 11 (by omega), x 12 (by omega), x 13 (by omega)]
      exact b3 e (by omega)
    · show _ = (decide (e < tne T - 1) && tE T e 1 == t')
      have hb := b4 t' ht' e he
      have hb1 := b4 (tE T (tne T - 1) 1) l1 e he
      rw [hS2, wI_ne (by decide), wI_at]
      by_cases et : t' = tE T (tne T - 1) 1
      · rw [if_pos et, b_and, hb1, b_xor, b_m1 e he, bt_one (by omega) he, et]
        by_cases ee : e = tne T - 1
        · rw [decide_eq_true ee, decide_eq_false (by omega : ¬ e < tne T - 1)]; simp
        · rw [decide_eq_false ee, show (decide (e < tne T)) = decide (e < tne T - 1) from decide_eq_decide.mpr (by omega)]; simp
      · rw [if_neg et, wI_ne (by decide), hb]
        by_cases ee : e = tne T - 1
        · subst ee
          rw [show (tE T (tne T - 1) 1 == t') = false from beq_eq_false_iff_ne.mpr (fun h => et h.symm), Bool.and_false, Bool.and_false]
        · congr 1
          exact decide_eq_decide.mpr (by omega)
theorem sC_seen (hI : CI σ T) (hO : Tok T) {p q r : Int32} (h : ∀ σ', Cls σ σ' → CI σ' (r_seen T p q r).2 → post (r_seen T p q r).1 σ') : vX8_seen p q r σ post := by
  have hb := h σ Cls.rf
  refine gW (n := 24) (by omega) rfl (fun q => ?_) (fun k hk e => gW (n := 12) (by omega) rfl (fun q => ?_) (fun t ht e2 => gW (n := 2) (by omega) rfl (fun q => ?_) (fun v hv e3 => ?_)))
  · rw [r_seen, iff_f (by rw [q]; rfl)] at hb; exact hb hI
  · rw [r_seen, iff_f (by rw [q]; simp)] at hb; exact hb hI
  · rw [r_seen, iff_f (by rw [q]; simp)] at hb; exact hb hI
  · subst e e2 e3
    rw [r_seen, iff_t (by rw [ib_t hk (by omega), ib_t ht (by omega), ib_t hv (by omega)]; rfl), Nn_nI (by omega), Nn_nI (by omega), Nn_nI (by omega)] at h
    obtain ⟨b1, b2, b3⟩ := hI.td.2.2.2.2.1
    unfold vX3_isFull
    rw [b1, k8, nI_lt2 (by omega) (by omega)]
    refine ⟨fun q => ?_, fun q => ?_⟩
    · rw [if_neg (by omega)] at h
      refine ⟨fun _ => ?_, fun q => absurd rfl q⟩
      unfold vX3_append
      rw [b1, nI_c (show tnq T < 2147483648 by omega)]
      refine ⟨vp_in_nI (by omega) (by omega), ?_⟩
      rintro _ rfl
      rw [wI_ne (by decide), b1, nI_c (show tnq T < 2147483648 by omega)]
      refine ⟨vp_in_nI (by omega) (by omega), ?_⟩
      rintro _ rfl
      rw [wI_ne (by decide), wI_ne (by decide), b1, nI_c (show tnq T < 2147483648 by omega)]
      refine ⟨vp_in_nI (by omega) (by omega), ?_⟩
      rintro _ rfl σ2 hS2
      simp (disch := decide) only [wI_ne] at hS2
      rw [b1, nI_1] at hS2
      have hF : Fr B4 σ σ2 := by
        rw [hS2]
        exact (((Fr.wI rfl).tr' (Fr.wI rfl)).tr' (Fr.wI rfl)).tr' (Fr.wI rfl)
      have e4 : σ2.1 47 3 = nI (tnq T + 1) := by rw [hS2, wI_at, if_pos rfl]
      rw [e4]
      refine h σ2 (B4_cl hF) (hI.keep hF (fun a b hk => B4_f (by unfold KW at hk; omega)) rfl rfl (fun _ => rfl) (hI.td.m4 hF ⟨e4, by show tnq T + 1 ≤ 8; omega, fun e he => ?_⟩))
      have he : e < tnq T + 1 := he
      show _ = nI (if e = tnq T then k else tQ T e 0) ∧ _ = nI (if e = tnq T then t else tQ T e 1) ∧ _ = nI (if e = tnq T then v else tQ T e 2) ∧ (if e = tnq T then k else tQ T e 0) < 24 ∧ (if e = tnq T then t else tQ T e 1) < 12 ∧ (if e = tnq T then v else tQ T e 2) < 2
      have x11 : σ2.1 48 e = if e = tnq T then nI k else σ.1 48 e := by rw [hS2]; simp (disch := decide) only [wI_ne]; rw [wI_at]
      have x12 : σ2.1 49 e = if e = tnq T then nI t else σ.1 49 e := by rw [hS2]; simp (disch := decide) only [wI_ne]; rw [wI_at]; simp (disch := decide) only [wI_ne]
      have x13 : σ2.1 50 e = if e = tnq T then nI v else σ.1 50 e := by rw [hS2]; simp (disch := decide) only [wI_ne]; rw [wI_at]; simp (disch := decide) only [wI_ne]
      rw [x11, x12, x13]
      by_cases ee : e = tnq T
      · simp only [if_pos ee, true_and]; exact ⟨hk, ht, hv⟩
      · simp only [if_neg ee]; exact b3 e (by omega)
    · rw [if_pos (by omega)] at h
      exact ⟨fun q => absurd q (by decide), fun _ => h σ Cls.rf hI⟩
theorem sC_forget (hI : CI σ T) (hO : Tok T) (h : ∀ σ', Cls σ σ' → CI σ' (r_forget T).2 → post (r_forget T).1 σ') : vX8_forget σ post := by
  obtain ⟨b1, b2, b3⟩ := hI.td.2.2.2.2.1
  rintro _ rfl σ2 hS2
  have hF : Fr B4 σ σ2 := by rw [hS2]; exact Fr.wI rfl
  rw [b1]
  exact h σ2 (B4_cl hF) (hI.keep hF (fun a b hk => B4_f (by unfold KW at hk; omega)) rfl rfl (fun _ => rfl) (hI.td.m4 hF ⟨by rw [hS2, wI_at, if_pos rfl]; rfl, Nat.zero_le 8, fun j hj => absurd hj (Nat.not_lt_zero j)⟩))
theorem sX8_finding (hI : CI σ T) {k : Nat} {a : Int32} (ha : a = nI k) (h : ∀ σ', Cls σ σ' → CI σ' (fnd T k).2 → post (fnd T k).1 σ') : vX8_finding a σ post := by
  subst ha
  rintro σ2 hS2
  have hF : Fr B6 σ σ2 := by rw [hS2]; exact Fr.wI rfl
  exact h σ2 (B6_cl hF) (hI.keep hF (fun a b hk => B6_f (Or.inl (by unfold KW at hk; omega))) rfl rfl (fun _ => rfl) (hI.td.m6 hF (by rw [hS2, wI_at, if_pos rfl])))
theorem rt_sh : ∀ s, s < 4 → rt 51 (nI s).toNatClampNeg = 63 + 2 * s := by decide
theorem sht_fact : ∀ s, s < 4 → kd (63 + 2 * s) = 4 ∧ rt (63 + 2 * s) 0 = 64 + 2 * s ∧ kd (64 + 2 * s) = 10 ∧ ln (64 + 2 * s) = 60 ∧ iln (64 + 2 * s) = 60 := by decide +kernel
/-- a sheet that there is -/
theorem sX8_refuseSheet (hI : CI σ T) {p : Int32} (h1 : ∀ s, s < 4 → p = nI s → tls T s = false → post 0 σ) (h2 : ib p 4 = false → post (-2) σ) (h3 : ∀ s, s < 4 → p = nI s → tls T s = true → ∀ σ', Cls σ σ' → CI σ' (fnd T 1).2 → post (fnd T 1).1 σ') : vX8_refuseSheet p σ post := by
  refine gW (n := 4) (by omega) rfl h2 (fun s hs e => ?_)
  subst e
  obtain ⟨f1, f2, f3, f4, f5⟩ := sht_fact s hs
  obtain ⟨b1, b2, b3, b4⟩ := hI.td.2.2.2.2.2.1 s hs
  rw [rt_sh s hs, b3]
  refine ⟨vp_in_nI hs (by omega), f1, ?_⟩
  cases e : tls T s
  · exact ⟨fun _ => h1 s hs rfl e, fun q => absurd rfl q⟩
  · exact ⟨fun q => absurd q (by decide), fun _ => sX8_finding hI rfl (h3 s hs rfl e)⟩
theorem sC_lose (hI : CI σ T) (hO : Tok T) {p : Int32} (h : ∀ σ', Cls σ σ' → CI σ' (r_lose T p).2 → post (r_lose T p).1 σ') : vX8_lose p σ post := by
  refine sX8_refuseSheet hI (fun s hs e el => ?_) (fun q => ?_) (fun s hs e el σ2 hF2 hI2 => ?_)
  · subst e
    rw [r_lose, iff_t (ib_t hs (by omega)), Nn_nI (by omega), el] at h
    obtain ⟨f1, f2, f3, f4, f5⟩ := sht_fact s hs
    refine ⟨fun _ => ?_, fun q => absurd rfl q⟩
    rw [rt_sh s hs]
    refine ⟨vp_in_nI hs (by omega), f1, ?_⟩
    rintro σ2 hS2
    refine ⟨vp_in_nI hs (by omega), ?_⟩
    have hF : Fr B5 σ σ2 := by rw [hS2]; exact Fr.wI (rg_t (by omega) (by omega))
    have e2 : σ2.1 (63 + 2 * s) 2 = nI (tsz T s) := by rw [hS2, wI_nf (by decide)]; exact (hI.td.2.2.2.2.2.1 s hs).2.1
    rw [e2]
    refine h σ2 (B5_cl hF) (hI.keep hF (fun a b hk => B5_f (by unfold KW at hk; omega)) rfl rfl (fun _ => rfl) (hI.td.m5 hF (fun s' hs' => ?_)))
    obtain ⟨b1, b2, b3, b4⟩ := hI.td.2.2.2.2.2.1 s' hs'
    show _ = nI (tfo T s') ∧ _ = nI (tsz T s') ∧ _ = (if upb (tls T) s true s' then 1 else 0) ∧ ∀ i, i < tsz T s' → _ = tit T s' i
    unfold upb
    by_cases es : s' = s
    · subst es
      rw [if_pos rfl]
      exact ⟨by rw [hS2, wI_nf (by decide)]; exact b1, e2, by rw [hS2, wI_at, if_pos rfl]; rfl, fun i hi => by rw [hS2, wI_ne (by omega)]; exact b4 i hi⟩
    · rw [if_neg es]
      exact ⟨by rw [hS2, wI_ne (by omega)]; exact b1, by rw [hS2, wI_ne (by omega)]; exact b2, by rw [hS2, wI_ne (by omega)]; exact b3, fun i hi => by rw [hS2, wI_ne (by omega)]; exact b4 i hi⟩
  · have hb := h σ Cls.rf
    rw [r_lose, iff_f q] at hb
    exact ⟨fun q => absurd q (by decide), fun _ => hb hI⟩
  · subst e
    rw [r_lose, iff_t (ib_t hs (by omega)), Nn_nI (by omega), el] at h
    exact ⟨fun q => absurd q (by show ¬ (-10 : Int32) - nI 1 = 0; decide), fun _ => h σ2 hF2 hI2⟩
end CX
