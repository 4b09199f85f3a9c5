section MV
variable {σ σ' : Hp} {T : Td} {post : Int32 → Hp → Prop}
theorem form_neg (hT : MTd σ T) (hO : Tok T) {s : Nat} (hs : s < 4) : (0 ≤ σ.1 72 s) = (tls T s = false) ∧ (σ.1 72 s < 0) = (tls T s = true) := by
  have h3 := tfo_ok hO hs
  obtain ⟨a1, -⟩ := hT.2.2.2.2.2.2.1 s hs
  rw [a1]
  cases h : tls T s
  · rw [if_neg (by decide)]
    exact ⟨propext ⟨fun _ => rfl, fun _ => nI_pos' (by omega)⟩, propext ⟨fun q => absurd q (nI_pos (by omega)), fun q => by cases q⟩⟩
  · rw [if_pos rfl]
    exact ⟨propext ⟨fun q => absurd q (by decide), fun q => by cases q⟩, propext ⟨fun _ => rfl, fun _ => by decide⟩⟩
theorem sM_lose (hT : MTd σ T) (hO : Tok T) {p : Int32} (h : ∀ σ', Fr FM σ σ' → MTd σ' (r_lose T p).2 → post (r_lose T p).1 σ') : vX9_lose p σ post := by
  refine gSheet (fun e => ?_) (fun s hs e1 => ⟨?_, ?_⟩)
  · have hb := h σ Fr.rf; rw [r_lose, iff_f e] at hb; exact hb hT
  · subst e1; exact vp_in_nI hs (by omega)
  · subst e1
    rw [r_lose, iff_t (ib_t hs (by omega)), Nn_nI (by omega)] at h
    rw [nI_c (by omega), (form_neg hT hO hs).1]
    refine ⟨fun q => ⟨vp_in_nI hs (by omega), ?_⟩, fun q => ?_⟩
    · rw [iff_f q] at h
      rintro _ rfl
      refine ⟨vp_in_nI hs (by omega), ?_⟩
      rw [wI_ne (by decide), (hT.2.2.2.2.2.2.1 s hs).2.1]
      have hF : Fr A5 σ (wI σ 72 s (-1)) := Fr.wI rfl
      refine h _ (A5_FM hF) (hT.m5 hF (fun a ha => ?_))
      obtain ⟨b1, b2, b3⟩ := hT.2.2.2.2.2.2.1 a ha
      rw [wI_at, wI_ne (by decide), wI_ne (by decide)]
      refine ⟨?_, b2, b3⟩
      show _ = if (if a = s then true else tls T a) = true then -1 else nI (tfo T a)
      by_cases e : a = s
      · rw [if_pos e, if_pos e, if_pos rfl]
      · rw [if_neg e, if_neg e]; exact b1
    · have q : tls T s = true := by cases hl : tls T s
                                    · exact absurd hl q
                                    · rfl
      rw [iff_t q] at h
      exact sX9_finds hT rfl h
theorem sM_sheet (hT : MTd σ T) (hO : Tok T) {p q r : Int32} (h : ∀ σ', Fr FM σ σ' → MTd σ' (r_sheet T p q r).2 → post (r_sheet T p q r).1 σ') : vX9_sheet p q r σ post := by
  refine gSheet (fun e => ?_) (fun s hs e1 => gIn (n := 3) (by omega) (by decide) (fun e => ?_) (fun f hf e2 => ?_))
  · have hb := h σ Fr.rf; rw [r_sheet, iff_f (by rw [e]; rfl)] at hb; exact hb hT
  · have hb := h σ Fr.rf; rw [r_sheet, iff_f (by rw [e]; simp)] at hb; exact hb hT
  · subst e1 e2
    unfold r_sheet at h
    rw [fa_le, fa_le]
    rw [show (60 : Int32).toInt = 60 by decide, show (0 : Int32).toInt = 0 by decide]
    refine ⟨fun q => ?_, fun q => ?_⟩
    · rw [iff_t (by rw [ib_t hs (by omega), ib_t hf (by omega), decide_eq_true q]; rfl)] at h
      refine ⟨fun q0 => ⟨vp_in_nI hs (by omega), ?_⟩, fun q0 => ?_⟩
      · rw [if_pos q0] at h
        obtain ⟨n, hn, rfl⟩ := inb_of (x := r) (n := 61) ⟨q0, by omega⟩ (by omega)
        rw [Nn_nI (by omega), Nn_nI (by omega), Nn_nI (by omega)] at h
        rw [nI_c (by omega)]
        rintro _ rfl
        refine ⟨vp_in_nI hs (by omega), ?_⟩
        rintro _ rfl
        have hF0 : Fr A5 σ (wI (wI σ 72 s (nI f)) 73 s (nI n)) := (Fr.wI rfl).tr' (Fr.wI rfl)
        suffices L : ∀ (d i : Nat) (σ1 : Hp), i + d = n → Fr A5 σ σ1 → σ1.1 72 = (wI (wI σ 72 s (nI f)) 73 s (nI n)).1 72 → σ1.1 73 = (wI (wI σ 72 s (nI f)) 73 s (nI n)).1 73 → (∀ j, σ1.1 74 j = if 60 * s ≤ j ∧ j < 60 * s + i then 0 else σ.1 74 j) → vX9_sheet_55 post (fun σ_13 => post (nI n) σ_13) (nI s) (nI n) (d + 1) (nI i) σ1 from ⟨n + 1, L n 0 _ (by omega) hF0 rfl rfl (fun j => by rw [if_neg (by omega), wI_ne (by decide), wI_ne (by decide)])⟩
        intro d
        induction d with
        | zero =>
          intro i σ1 hd hF h72 h73 h74
          rw [vX9_sheet_55]; dsimp only
          refine ⟨fun _ => ?_, fun c => absurd (nI_le (by omega) (by omega)) c⟩
          refine h σ1 (A5_FM hF) (hT.m5 hF (fun a ha => ?_))
          obtain ⟨b1, b2, b3⟩ := hT.2.2.2.2.2.2.1 a ha
          have hsz := tsz_ok hO ha
          rw [h72, h73, wI_ne (by decide), wI_at, wI_at, wI_ne (by decide)]
          show _ = (if (if a = s then false else tls T a) = true then -1 else nI (if a = s then f else tfo T a)) ∧ _ = nI (if a = s then n else tsz T a) ∧ ∀ j, j < (if a = s then n else tsz T a) → _ = (if a = s then (fun _ => 0) else tit T a) j
          by_cases e : a = s
          · subst e
            simp only [if_true, if_pos rfl, Bool.false_eq_true, if_false, true_and]
            intro j hj
            rw [h74, if_pos (by omega)]
          · simp only [if_neg e]
            refine ⟨b1, b2, fun j hj => ?_⟩
            rw [h74, if_neg (by omega)]; exact b3 j hj
        | succ d ih =>
          intro i σ1 hd hF h72 h73 h74
          rw [vX9_sheet_55]; dsimp only
          refine ⟨fun c => absurd c (nI_ge (by omega) (by omega)), fun _ => ?_⟩
          rw [k60, nI_mul, nI_add, nI_c (by omega)]
          refine ⟨vp_in_nI (by omega) (by omega), ?_⟩
          rintro _ rfl _ rfl
          rw [nI_1]
          refine ih (i + 1) _ (by omega) (hF.tr' (Fr.wI rfl)) (by rw [wI_ne (by decide)]; exact h72) (by rw [wI_ne (by decide)]; exact h73) (fun j => ?_)
          rw [wI_at]
          by_cases e : j = 60 * s + i
          · rw [if_pos e, if_pos (by omega)]
          · rw [if_neg e, h74]
            by_cases e2 : 60 * s ≤ j ∧ j < 60 * s + i
            · rw [if_pos e2, if_pos (by omega)]
            · rw [if_neg e2, if_neg (by omega)]
      · rw [if_neg q0] at h
        exact sX9_finds hT rfl h
    · rw [iff_f (by rw [decide_eq_false q]; simp)] at h
      exact h σ Fr.rf hT
theorem lck_le {T : Td} (s f : Nat) (i : Int32) : lck T s f i ≤ 3 := by
  unfold lck; repeat' split
  all_goals omega
theorem fnd_ne0 : ∀ k, k < 6 → ¬ (-10 : Int32) - nI k = 0 := by decide +kernel
theorem sX9_lacks (hT : MTd σ T) (hO : Tok T) {s f : Nat} {p q r : Int32} (hs : s < 4) (hf : f < 3) (hp : p = nI s) (hq : q = nI f) (h0 : lck T s f r = 0 → (∃ i, i < tsz T s ∧ r = nI i) → tfo T s = f → post 0 σ) (h1 : ∀ σ' k, 0 < k → k < 6 → lck T s f r = k → Fr FM σ σ' → MTd σ' (fdT T k) → post ((-10 : Int32) - nI k) σ') : vX9_lacks p q r σ post := by
  subst hp hq
  have hfo := tfo_ok hO hs
  have hsz := tsz_ok hO hs
  obtain ⟨b1, b2, b3⟩ := hT.2.2.2.2.2.2.1 s hs
  unfold vX9_lacks
  rw [nI_c (by omega), (form_neg hT hO hs).1, b2]
  refine ⟨vp_in_nI hs (by omega), fun q => ⟨vp_in_nI hs (by omega), ?_⟩, fun q => ?_⟩
  · rw [b1, iff_f q, nI_eq2 (by omega) (by omega)]
    refine ⟨fun q2 => ⟨vp_in_nI hs (by omega), ?_⟩, fun q2 => ?_⟩
    · refine sX9_in0 (n := tsz T s) (by omega) rfl (sub1_toInt (by omega)) (fun i hi e => ⟨fun q => absurd q (by decide), fun _ => ?_⟩) (fun e => ⟨fun _ => ?_, fun q => absurd rfl q⟩)
      · refine h0 ?_ ⟨i, hi, e⟩ q2
        unfold lck
        rw [iff_f q, if_pos q2, e, iff_t (ib_t hi (by omega))]
      · have hk : lck T s f r = 2 := by unfold lck; rw [iff_f q, if_pos q2, iff_f (ib_f e)]
        exact sX9_finds hT (k := 2) rfl (fun σ' hF hT' => h1 σ' 2 (by omega) (by omega) hk hF hT')
    · have hk : lck T s f r = 3 := by unfold lck; rw [iff_f q, if_neg q2]
      exact sX9_finds hT (k := 3) rfl (fun σ' hF hT' => h1 σ' 3 (by omega) (by omega) hk hF hT')
  · have q : tls T s = true := by cases hl : tls T s
                                  · exact absurd hl q
                                  · rfl
    have hk : lck T s f r = 1 := by unfold lck; rw [iff_t q]
    exact sX9_finds hT (k := 1) rfl (fun σ' hF hT' => h1 σ' 1 (by omega) (by omega) hk hF hT')
theorem sX9_cut {f : Nat} {a v : Int32} (hf : f < 3) (ha : a = nI f) (h : post (cutI f v) σ) : vX9_cut a v σ post := by
  subst ha
  unfold vX9_cut
  unfold cutI at h
  rw [k0, nI_eq2 (by omega) (by omega), k1, nI_eq2 (by omega) (by omega)]
  refine ⟨fun q => ?_, fun q => ⟨fun q2 => ?_, fun q2 => ?_⟩⟩
  · rw [if_pos q] at h; exact h
  · rw [if_neg q, if_pos q2] at h; exact h
  · rw [if_neg q, if_neg q2] at h; exact h
theorem MTd.it (hT : MTd σ T) (hO : Tok T) {s : Nat} {F : Nat → Int32} (hF : Fr A5 σ σ') (h72 : σ'.1 72 = σ.1 72) (h73 : σ'.1 73 = σ.1 73) (hs : ∀ i, i < tsz T s → σ'.1 74 (60 * s + i) = F i) (ho : ∀ a, a < 4 → a ≠ s → ∀ i, i < 60 → σ'.1 74 (60 * a + i) = σ.1 74 (60 * a + i)) : MTd σ' (shT T (tls T, tfo T, tsz T, upI (tit T) s F)) := by
  refine hT.m5 hF (fun a ha => ?_)
  obtain ⟨b1, b2, b3⟩ := hT.2.2.2.2.2.2.1 a ha
  have hsz := tsz_ok hO ha
  rw [h72, h73]
  refine ⟨b1, b2, fun i hi => ?_⟩
  have hi : i < tsz T a := hi
  show _ = (if a = s then F else tit T a) i
  by_cases e : a = s
  · subst e; rw [if_pos rfl]; exact hs i hi
  · rw [if_neg e, ho a ha e i (by omega)]; exact b3 i hi
theorem sM_lay (hT : MTd σ T) (hO : Tok T) {p q r v : Int32} (h : ∀ σ', Fr FM σ σ' → MTd σ' (r_lay T p q r v).2 → post (r_lay T p q r v).1 σ') : vX9_lay p q r v σ post := by
  refine gSheet (fun e => ?_) (fun s hs e1 => gIn (n := 3) (by omega) (by decide) (fun e => ?_) (fun f hf e2 => ?_))
  · have hb := h σ Fr.rf; rw [r_lay, iff_f (by rw [e]; rfl)] at hb; exact hb hT
  · have hb := h σ Fr.rf; rw [r_lay, iff_f (by rw [e]; simp)] at hb; exact hb hT
  · subst e1 e2
    have hsz := tsz_ok hO hs
    rw [r_lay, iff_t (by rw [ib_t hs (by omega), ib_t hf (by omega)]; rfl), Nn_nI (by omega), Nn_nI (by omega)] at h
    refine sX9_lacks hT hO hs hf rfl rfl (fun hk hi hfo => ⟨fun _ => ?_, fun q => absurd rfl q⟩) (fun σ' k k0 k6 hk hF hT' => ⟨fun q => absurd q (fnd_ne0 k k6), fun _ => ?_⟩)
    · rw [if_pos hk] at h
      obtain ⟨i, hi, rfl⟩ := hi
      rw [Nn_nI (by omega)] at h
      refine sX9_cut hf rfl ?_
      rw [k60, nI_mul, nI_add, nI_c (by omega)]
      refine ⟨vp_in_nI (by omega) (by omega), ?_⟩
      rintro _ rfl
      have hF : Fr A5 σ (wI σ 74 (60 * s + i) (cutI f v)) := Fr.wI rfl
      refine h _ (A5_FM hF) (hT.it hO hF (wI_ne (by decide)) (wI_ne (by decide)) (fun j hj => ?_) (fun a ha e j hj => ?_))
      · rw [wI_at]
        by_cases e : j = i
        · subst e; rw [if_pos rfl, if_pos rfl]
        · rw [if_neg (by omega), if_neg e]; exact (hT.2.2.2.2.2.2.1 s hs).2.2 j hj
      · rw [wI_at, if_neg (by omega)]
    · rw [hk, if_neg (by omega)] at h
      exact h σ' hF hT'
theorem sM_get (hT : MTd σ T) (hO : Tok T) {p q r : Int32} (h : ∀ σ', Fr FM σ σ' → MTd σ' (r_get T p q r).2 → post (r_get T p q r).1 σ') : vX9_get p q r σ post := by
  refine gSheet (fun e => ?_) (fun s hs e1 => gIn (n := 3) (by omega) (by decide) (fun e => ?_) (fun f hf e2 => ?_))
  · have hb := h σ Fr.rf; rw [r_get, iff_f (by rw [e]; rfl)] at hb; exact hb hT
  · have hb := h σ Fr.rf; rw [r_get, iff_f (by rw [e]; simp)] at hb; exact hb hT
  · subst e1 e2
    have hsz := tsz_ok hO hs
    rw [r_get, iff_t (by rw [ib_t hs (by omega), ib_t hf (by omega)]; rfl), Nn_nI (by omega), Nn_nI (by omega)] at h
    refine sX9_lacks hT hO hs hf rfl rfl (fun hk hi hfo => ⟨fun _ => ?_, fun q => absurd rfl q⟩) (fun σ' k k0 k6 hk hF hT' => ⟨fun q => absurd q (fnd_ne0 k k6), fun _ => ?_⟩)
    · rw [if_pos hk] at h
      obtain ⟨i, hi, rfl⟩ := hi
      rw [Nn_nI (by omega)] at h
      rw [k60, nI_mul, nI_add, nI_c (by omega), (hT.2.2.2.2.2.2.1 s hs).2.2 i hi]
      exact ⟨vp_in_nI (by omega) (by omega), h σ Fr.rf hT⟩
    · rw [hk, if_neg (by omega)] at h
      exact h σ' hF hT'
theorem cut_small : ∀ f, f < 3 → ∀ v, v < 3 → cutI f (nI v) = nI v := by decide +kernel
theorem sX9_lesser {a b : Nat} {x y : Int32} (hx : x = nI a) (hy : y = nI b) (ha : a < 2147483648) (hb : b < 2147483648) (h : post (nI (mn a b)) σ) : vX9_lesser x y σ post := by
  subst hx hy
  unfold vX9_lesser
  unfold mn at h
  rw [nI_le2 hb ha]
  refine ⟨fun q => ?_, fun q => ?_⟩
  · rw [if_pos q] at h; exact h
  · rw [if_neg q] at h; exact h
theorem sM_write (hT : MTd σ T) (hO : Tok T) {p q : Int32} (h : ∀ σ', Fr FM σ σ' → MTd σ' (r_write T p q).2 → post (r_write T p q).1 σ') : vX9_write p q σ post := by
  have hG := gmT_ok hO
  have g1 := hG.1
  refine sX9_find hT hO (fun σ1 hF1 hP hM => ?_)
  have hT1 := hP.1
  refine gDuck hP.min.1 g1 (fun e => ?_) (fun k hk e1 => gSheet (fun e => ?_) (fun s hs e2 => ⟨?_, ?_⟩))
  · have hb := h σ1 hF1; rw [r_write, iff_f (by rw [e]; rfl)] at hb; exact hb hT1
  · have hb := h σ1 hF1; rw [r_write, iff_f (by rw [e]; simp)] at hb; exact hb hT1
  · subst e2; exact vp_in_nI hs (by omega)
  · subst e1 e2
    have hsz := tsz_ok hO hs
    have hfo := tfo_ok hO hs
    obtain ⟨b1, b2, b3⟩ := hT1.2.2.2.2.2.2.1 s hs
    rw [r_write, iff_t (by rw [ib_t hk (by omega), ib_t hs (by omega)]; rfl), Nn_nI (by omega), Nn_nI (by omega)] at h
    rw [nI_c (by omega), (form_neg hT1 hO hs).1, b2]
    refine ⟨fun q => ⟨vp_in_nI hs (by omega), ?_⟩, fun q => ?_⟩
    · rw [iff_f q] at h b1
      refine sX9_lesser rfl k24 (by omega) (by omega) ?_
      have hn : mn (tsz T s) 24 ≤ 24 ∧ mn (tsz T s) 24 ≤ tsz T s := by unfold mn; split <;> omega
      generalize mn (tsz T s) 24 = n at h hn ⊢
      suffices L : ∀ (d t : Nat) (σ2 : Hp), t + d = n → Fr A5 σ1 σ2 → σ2.1 72 = σ1.1 72 → σ2.1 73 = σ1.1 73 → (∀ j, σ2.1 74 j = if 60 * s ≤ j ∧ j < 60 * s + t then nI (gst (gmT T) (j - 60 * s + 1) k) else σ1.1 74 j) → vX9_write_52 post (fun σ_14 => post (nI n) σ_14) (nI k) (nI s) (nI n) (d + 1) (nI t) σ2 from ⟨n + 1, L n 0 σ1 (by omega) Fr.rf rfl rfl (fun j => by rw [if_neg (by omega)])⟩
      intro d
      induction d with
      | zero =>
        intro t σ2 hd hF h72 h73 h74
        rw [vX9_write_52]; dsimp only
        refine ⟨fun _ => ?_, fun c => absurd (nI_le (by omega) (by omega)) c⟩
        refine h σ2 (hF1.tr' (A5_FM hF)) (hT1.it hO hF h72 h73 (fun j hj => ?_) (fun a ha e j hj => ?_))
        · rw [h74]
          by_cases e : j < n
          · rw [if_pos (by omega), if_pos e, show 60 * s + j - 60 * s + 1 = j + 1 by omega]
          · rw [if_neg (by omega), if_neg e]; exact b3 j hj
        · rw [h74, if_neg (by omega)]
      | succ d ih =>
        intro t σ2 hd hF h72 h73 h74
        rw [vX9_write_52]; dsimp only
        refine ⟨fun c => absurd c (nI_ge (by omega) (by omega)), fun _ => ⟨vp_in_nI hs (by omega), ?_⟩⟩
        have s1 : σ2.1 89 (12 * t + k) = nI (gst (gmT T) (t + 1) k) := by rw [hF.i rfl]; exact (hM.2 t (by omega) k hk).2.1
        have hg2 := gst_le (gmT T) (t + 1) k
        rw [k12, nI_mul, nI_add, nI_c (by omega), nI_c (by omega), s1, h72, b1]
        refine ⟨vp_in_nI (by omega) (by omega), ?_⟩
        refine sX9_cut hfo rfl ?_
        rw [cut_small _ hfo _ (by omega), k60, nI_mul, nI_add, nI_c (by omega)]
        refine ⟨vp_in_nI (by omega) (by omega), ?_⟩
        rintro _ rfl _ rfl
        rw [nI_1]
        refine ih (t + 1) _ (by omega) (hF.tr' (Fr.wI rfl)) (by rw [wI_ne (by decide)]; exact h72) (by rw [wI_ne (by decide)]; exact h73) (fun j => ?_)
        rw [wI_at]
        by_cases e : j = 60 * s + t
        · rw [if_pos e, if_pos (by omega), e, show 60 * s + t - 60 * s + 1 = t + 1 by omega]
        · rw [if_neg e, h74]
          by_cases e2 : 60 * s ≤ j ∧ j < 60 * s + t
          · rw [if_pos e2, if_pos (by omega)]
          · rw [if_neg e2, if_neg (by omega)]
    · have q : tls T s = true := by cases hl : tls T s
                                    · exact absurd hl q
                                    · rfl
      rw [iff_t q] at h
      exact sX9_finds hT1 rfl (fun σ2 hF2 => h σ2 (hF1.tr' hF2))
end MV
