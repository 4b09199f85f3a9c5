/-! ===== the class: copy, write, read ===== -/
section CZ
variable {σ σ' : Hp} {T : Td} {post : Int32 → Hp → Prop} {postv : Hp → Prop}
theorem sX4_has {s z : Nat} {i n : Int32} (hs : s < 4) (hz : z ≤ 60) (h2 : σ.1 (63 + 2 * s) 2 = nI z) (h1 : 0 ≤ i.toInt ∧ 0 ≤ n.toInt ∧ i.toInt + n.toInt ≤ z → post 1 σ) (h0 : ¬ (0 ≤ i.toInt ∧ 0 ≤ n.toInt ∧ i.toInt + n.toInt ≤ z) → post 0 σ) : vX4_has (63 + 2 * s) i n σ post := by
  obtain ⟨f1, f2, f3, f4, f5⟩ := sht_fact s hs
  unfold vX4_has
  rw [fa_lt i 0, fa_lt n 0, show (0 : Int32).toInt = 0 by decide, h2, fa_lt (nI z) i, nI_toInt (by omega)]
  refine ⟨fun c => h0 (by omega), fun c => ⟨fun c2 => h0 (by omega), fun c2 => ⟨f1, fun c3 => h0 (by omega), fun c3 => ?_⟩⟩⟩
  obtain ⟨k, hk, rfl⟩ := inb_of (x := i) (n := 61) ⟨by omega, by omega⟩ (by omega)
  rw [nI_toInt (by omega)] at c3 h1 h0
  rw [pk_sub (by omega), fa_lt, nI_toInt (by omega)]
  exact ⟨fun c4 => h0 (by omega), fun c4 => h1 (by omega)⟩
theorem sC_copy (hI : CI σ T) (hO : Tok T) {p i q j n : Int32} (h : ∀ σ', Cls σ σ' → CI σ' (r_copy T p i q j n).2 → post (r_copy T p i q j n).1 σ') : vX8_copy p i q j n σ post := by
  have hb := h σ Cls.rf
  refine gW (n := 4) (by omega) rfl (fun q => ?_) (fun s hs e => gW (n := 4) (by omega) rfl (fun q => ?_) (fun t ht e2 => ?_))
  · rw [r_copy, iff_f (by rw [q]; rfl)] at hb; exact hb hI
  · rw [r_copy, iff_f (by rw [q]; simp)] at hb; exact hb hI
  · subst e e2
    obtain ⟨f1, f2, f3, f4, f5⟩ := sht_fact s hs
    obtain ⟨g1, g2, g3, g4, g5⟩ := sht_fact t ht
    obtain ⟨b1, b2, b3, b4⟩ := hI.td.2.2.2.2.2.1 s hs
    obtain ⟨c1, c2, c3, c4⟩ := hI.td.2.2.2.2.2.1 t ht
    have hss := tsz_ok hO hs
    have hst := tsz_ok hO ht
    have hfs := tfo_ok hO hs
    have hft := tfo_ok hO ht
    rw [r_copy, iff_t (by rw [ib_t hs (by omega), ib_t ht (by omega)]; rfl), Nn_nI (by omega), Nn_nI (by omega)] at h
    rw [rt_sh s hs, rt_sh t ht, f2, g2, f5, g5, b3, c3, b1, c1, nI_eq2 (by omega) (by omega)]
    refine ⟨vp_in_nI hs (by omega), vp_in_nI ht (by omega), f1, fun q => ⟨g1, fun q2 => ?_, fun q2 => ?_⟩, fun q => ?_⟩
    · have ls : tls T s = false := by cases hl : tls T s
                                      · rfl
                                      · rw [hl] at q; exact absurd q (by decide)
      have lt : tls T t = false := by cases hl : tls T t
                                      · rfl
                                      · rw [hl] at q2; exact absurd q2 (by decide)
      rw [iff_f (by rw [ls, lt]; rfl)] at h
      refine ⟨fun q3 => ?_, fun q3 => ?_⟩
      · rw [if_pos q3] at h
        have bad : ¬ (0 ≤ i.toInt ∧ 0 ≤ j.toInt ∧ 0 ≤ n.toInt ∧ i.toInt + n.toInt ≤ tsz T s ∧ j.toInt + n.toInt ≤ tsz T t) → vX8_finding (2 : Int32) σ (fun r σ => post r σ) := fun hno => by
          rw [if_neg hno] at h; exact sX8_finding hI rfl h
        refine sX4_has hs hss b2 (fun d1 => ⟨fun q => absurd q (by decide), fun _ => ?_⟩) (fun d1 => ⟨fun _ => bad (by omega), fun q => absurd rfl q⟩)
        refine sX4_has ht hst c2 (fun d2 => ⟨fun q => absurd q (by decide), fun _ => ?_⟩) (fun d2 => ⟨fun _ => bad (by omega), fun q => absurd rfl q⟩)
        rw [if_pos (by omega)] at h
        obtain ⟨i, hi, rfl⟩ := inb_of (x := i) (n := 61) ⟨by omega, by omega⟩ (by omega)
        obtain ⟨j, hj, rfl⟩ := inb_of (x := j) (n := 61) ⟨by omega, by omega⟩ (by omega)
        obtain ⟨n, hn, rfl⟩ := inb_of (x := n) (n := 61) ⟨by omega, by omega⟩ (by omega)
        rw [nI_toInt (by omega), nI_toInt (by omega)] at d1 d2
        rw [Nn_nI (by omega), Nn_nI (by omega), Nn_nI (by omega)] at h
        rw [nI_c (by omega), nI_c (by omega), nI_c (by omega)]
        refine ⟨f3, g3, nI_pos (by omega), nI_pos (by omega), nI_pos (by omega), by omega, by omega, ?_⟩
        rintro σ2 hS2
        have hF : Fr B5 σ σ2 := by
          rw [hS2]
          exact Fr.wR (fun b hb => by unfold B5 at hb; rw [rg_t (by omega) (by omega)] at hb; cases hb)
        refine h σ2 (B5_cl hF) (hI.it ht hF (fun a ha => by rw [hS2, wR_ne ha]) (fun k hk => ?_))
        rw [hS2, wR_eq]
        show va_cpy _ _ _ _ _ _ = cpF _ _ _ _ _ _
        unfold va_cpy cpF
        by_cases e : j ≤ k ∧ k < j + n
        · rw [if_pos e, if_pos e, b4 _ (by omega)]
        · rw [if_neg e, if_neg e]; exact c4 k hk
      · rw [if_neg q3] at h
        exact sX8_finding hI rfl h
    · have lt : tls T t = true := by cases hl : tls T t
                                     · rw [hl] at q2; exact absurd rfl q2
                                     · rfl
      rw [iff_t (by rw [lt, Bool.or_true])] at h
      exact sX8_finding hI rfl h
    · have ls : tls T s = true := by cases hl : tls T s
                                     · rw [hl] at q; exact absurd rfl q
                                     · rfl
      rw [iff_t (by rw [ls]; rfl)] at h
      exact sX8_finding hI rfl h
theorem cut_3 : ∀ f, f < 3 → ∀ v, v < 3 → cutI f (nI v) = nI v := by decide
theorem sC_write (hI : CI σ T) (hO : Tok T) {p q : Int32} (h : ∀ σ', Cls σ σ' → CI σ' (r_write T p q).2 → post (r_write T p q).1 σ') : vX8_write p q σ post := by
  have hG := gmT_ok hO
  have g1 := hG.1
  refine sC_settle hI hO (fun σ1 hF hS => ?_)
  have hI1 := hS.ci
  refine gWD g1 hS.dk (fun q => ?_) (fun k hk e => ?_)
  · have hb := h σ1 hF
    rw [r_write, iff_f (by rw [q]; rfl)] at hb; exact hb hI1
  · subst e
    refine sX8_refuseSheet hI1 (fun s hs e el => ?_) (fun q => ?_) (fun s hs e el σ2 hF2 hI2 => ?_)
    · subst e
      refine ⟨fun _ => ?_, fun q => absurd rfl q⟩
      obtain ⟨f1, f2, f3, f4, f5⟩ := sht_fact s hs
      obtain ⟨b1, b2, b3, b4⟩ := hI1.td.2.2.2.2.2.1 s hs
      have hsz := tsz_ok hO hs
      have hfo := tfo_ok hO hs
      rw [r_write, iff_t (by rw [ib_t hk (by omega), ib_t hs (by omega)]; rfl), Nn_nI (by omega), Nn_nI (by omega), iff_f el] at h
      rw [rt_sh s hs, b2]
      refine ⟨vp_in_nI hs (by omega), f1, ?_⟩
      have hm : mn (tsz T s) 24 ≤ 24 ∧ mn (tsz T s) 24 ≤ tsz T s := by unfold mn; split <;> omega
      have core : vX8_write_46 post (fun σ_13 => post (nI (mn (tsz T s) 24)) σ_13) (nI k) (nI s) (nI (mn (tsz T s) 24)) (mn (tsz T s) 24 + 1) 0 σ1 := by
        suffices L : ∀ (d t : Nat) (σ2 : Hp), t + d = mn (tsz T s) 24 → Fr (fun a _ => Nat.beq a (64 + 2 * s)) σ1 σ2 → (∀ b, σ2.1 (64 + 2 * s) b = if b < t then nI (gst (gmT T) (b + 1) k) else σ1.1 (64 + 2 * s) b) → vX8_write_46 post (fun σ_13 => post (nI (mn (tsz T s) 24)) σ_13) (nI k) (nI s) (nI (mn (tsz T s) 24)) (d + 1) (nI t) σ2 from L _ 0 σ1 (by omega) Fr.rf (fun b => by rw [if_neg (Nat.not_lt_zero b)])
        intro d
        induction d with
        | zero =>
          intro t σ2 hd hF2 hv
          rw [vX8_write_46]; dsimp only
          refine ⟨fun _ => ?_, fun c => absurd (nI_le (by omega) (by omega)) c⟩
          have hF3 : Fr B5 σ1 σ2 := hF2.up (fun a b hab => beq_f (fun e => by rw [e] at hab; unfold B5 at hab; rw [rg_t (by omega) (by omega)] at hab; cases hab))
          refine h σ2 (hF.tr (B5_cl hF3)) (hI1.it hs hF3 (fun a ha => hF2.r (fun b => beq_f ha)) (fun i hi => ?_))
          rw [hv i, show t = mn (tsz T s) 24 by omega]
          by_cases e : i < mn (tsz T s) 24
          · rw [if_pos e, if_pos e]
          · rw [if_neg e, if_neg e]; exact b4 i hi
        | succ d ih =>
          intro t σ2 hd hF2 hv
          have hgs := gst_le (gmT T) (t + 1) k
          have hB2 : CRb σ2 23 (gmT T) 24 := by
            have := hS.rb
            unfold CRb at this ⊢
            rw [hF2.r (a := 23 + 6) (fun b => beq_f (by omega)), hF2.r (a := 23 + 7) (fun b => beq_f (by omega)), hF2.rl (a := 23 + 8) (fun b => beq_f (by omega))]; exact this
          rw [vX8_write_46]; dsimp only
          refine ⟨fun c => absurd c (nI_ge (by omega) (by omega)), fun _ => ⟨vp_in_nI hs (by omega), ?_⟩⟩
          rw [rt_sh s hs]
          refine sX2_conditionBehind (Or.inl rfl) hG hB2 (t := t) (k := k) (by omega) hk rfl rfl ⟨f1, ?_⟩
          refine sX4_put hs (by omega) hfo rfl (by rw [hF2.i (beq_f (by omega))]; exact b1) ?_
          rintro _ rfl
          rw [nI_1 t, cut_3 _ hfo _ (by omega)]
          refine ih (t + 1) _ (by omega) (hF2.tr' (Fr.wI (beq_s _))) (fun b => ?_)
          rw [wI_at]
          by_cases e : b = t
          · rw [if_pos e, if_pos (by omega), e]
          · rw [if_neg e, hv b]
            by_cases e2 : b < t
            · rw [if_pos e2, if_pos (by omega)]
            · rw [if_neg e2, if_neg (by omega)]
      unfold vJ9_min_7cf53
      rw [k24, nI_lt2 (by omega) (by omega)]
      have hmn : mn (tsz T s) 24 = if 24 ≤ tsz T s then 24 else tsz T s := rfl
      refine ⟨fun c => ?_, fun c => ?_⟩
      · rw [hmn, if_neg (by omega)] at core; exact ⟨_, core⟩
      · rw [hmn, if_pos (by omega)] at core; exact ⟨_, core⟩
    · have hb := h σ1 hF
      rw [r_write, iff_f (by rw [q, Bool.and_false])] at hb
      exact ⟨fun q => absurd q (by decide), fun _ => hb hI1⟩
    · subst e
      rw [r_write, iff_t (by rw [ib_t hk (by omega), ib_t hs (by omega)]; rfl), Nn_nI (by omega), Nn_nI (by omega), iff_t el] at h
      exact ⟨fun q => absurd q (fnd_ne (by omega)), fun _ => h σ2 (hF.tr hF2) hI2⟩
theorem tit_ev (T : Td) (p q r : Int32) : tit (r_event T p q r).2 = tit T ∧ tsz (r_event T p q r).2 = tsz T := by
  unfold r_event
  repeat' split
  all_goals exact ⟨rfl, rfl⟩
theorem sC_read (hI : CI σ T) (hO : Tok T) {p : Int32} (h : ∀ σ', Cls σ σ' → CI σ' (r_read T p).2 → post (r_read T p).1 σ') : vX8_read p σ post := by
  refine sX8_refuseSheet hI (fun s hs e el => ?_) (fun q => ?_) (fun s hs e el σ2 hF2 hI2 => ?_)
  · subst e
    rw [r_read, iff_t (ib_t hs (by omega)), Nn_nI (by omega), iff_f el] at h
    refine ⟨fun _ => ⟨vp_in_nI hs (by omega), ?_⟩, fun q => absurd rfl q⟩
    obtain ⟨f1, f2, f3, f4, f5⟩ := sht_fact s hs
    rw [rt_sh s hs]
    suffices L : ∀ (f n : Nat) (σ1 : Hp) (T1 : Td), n + f = 21 → Cls σ σ1 → CI σ1 T1 → Tok T1 → rdl s f n T1 = rdl s 21 0 T → vX8_read_25 post (fun z4_5 σ_6 => post z4_5 σ_6) (63 + 2 * s) (f + 1) (nI n) (nI (3 * n)) σ1 from ⟨22, L 21 0 σ T (by omega) Cls.rf hI hO rfl⟩
    intro f
    induction f with
    | zero =>
      intro n σ1 T1 hn hF hI1 hO1 he
      have hsz := tsz_ok hO1 hs
      obtain ⟨b1, b2, b3, b4⟩ := hI1.td.2.2.2.2.2.1 s hs
      rw [vX8_read_25]; dsimp only
      rw [b2, k2, nI_add, nI_le2 (by omega) (by omega)]
      refine ⟨f1, fun _ => ?_, fun c => absurd (by omega) c⟩
      rw [rdl] at he
      rw [← he] at h
      exact h σ1 hF hI1
    | succ f ih =>
      intro n σ1 T1 hn hF hI1 hO1 he
      have hsz := tsz_ok hO1 hs
      obtain ⟨b1, b2, b3, b4⟩ := hI1.td.2.2.2.2.2.1 s hs
      rw [vX8_read_25]; dsimp only
      rw [b2, f2, f5, k2, k1, nI_add, nI_add, nI_le2 (by omega) (by omega)]
      rw [rdl] at he
      refine ⟨f1, fun c => ?_, fun c => ?_⟩
      · rw [if_pos (by omega)] at he
        rw [← he] at h
        exact h σ1 hF hI1
      · rw [if_neg (by omega)] at he
        rw [nI_c (by omega), nI_c (by omega), nI_c (by omega), b4 (3 * n) (by omega), b4 (3 * n + 1) (by omega), b4 (3 * n + 2) (by omega)]
        refine ⟨vp_in_nI (by omega) (by omega), vp_in_nI (by omega) (by omega), vp_in_nI (by omega) (by omega), ?_⟩
        refine sC_event hI1 hO1 (fun σ2 hF2 hI2 => ?_)
        rw [fa_le, show (0 : Int32).toInt = 0 by decide]
        refine ⟨fun c2 => ?_, fun c2 => ?_⟩
        · rw [if_neg (by omega)] at he
          rintro _ rfl _ rfl
          rw [nI_add, k3, nI_add]
          exact ih (n + 1) σ2 _ (by omega) (hF.tr hF2) hI2 (hO1.ev _ _ _) he
        · rw [if_pos (by omega)] at he
          rw [ev_stop T1 hO1 _ _ _ (by omega)] at hI2
          rw [← he] at h
          exact h σ2 (hF.tr hF2) hI2
  · have hb := h σ Cls.rf
    rw [r_read, iff_f q] at hb
    exact ⟨fun q => absurd q (by decide), fun _ => hb hI⟩
  · subst e
    rw [r_read, iff_t (ib_t hs (by omega)), Nn_nI (by omega), iff_t el] at h
    exact ⟨fun q => absurd q (fnd_ne (by omega)), fun _ => h σ2 hF2 hI2⟩
end CZ
