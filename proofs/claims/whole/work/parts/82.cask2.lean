/-! ===== the class: which tick to look at ===== -/
theorem mxk_cong {f g : Nat → Nat} : ∀ {n : Nat}, (∀ k, k < n → f k = g k) → mxk f n = mxk g n
  | 0, _ => rfl
  | n + 1, h => by rw [mxk, mxk, mxk_cong (fun k hk => h k (by omega)), h n (by omega)]
/-- those with P, one behind the other -/
theorem cmp_ct {P R : Nat → Bool} : ∀ n, fb_ct (fun v => P v && R (fb_ct P v)) n = fb_ct R (fb_ct P n)
  | 0 => rfl
  | n + 1 => by
    rw [fb_ct_succ, cmp_ct n, fb_ct_succ P n]
    cases P n
    · rfl
    · rw [Bool.true_and]; rfl
theorem cmp_mx {P : Nat → Bool} {F : Nat → Nat} : ∀ n, mxk (fun a => if P a = true then F (fb_ct P a) else 0) n = mxk F (fb_ct P n)
  | 0 => rfl
  | n + 1 => by
    rw [mxk, cmp_mx n, fb_ct_succ P n]
    cases h : P n
    · show (if 0 ≤ mxk F (fb_ct P n) then _ else _) = _
      rw [if_pos (Nat.zero_le _)]; rfl
    · rfl
theorem gal_cmp {P : Nat → Bool} {D E : Nat → Int32} (h : ∀ v, v < 5 → P v = true → E (fb_ct P v) = D v) : gal P D = mxk (fun p => fb_ct (fun q => E p == E q) (fb_ct P 5)) (fb_ct P 5) := by
  rw [← cmp_mx 5]
  unfold gal
  refine mxk_cong (fun a ha => ?_)
  cases pa : P a
  · rw [show fb_ct (lik P D a) 5 = 0 from fb_ct_zero.mpr (fun k _ => by unfold lik; rw [pa]; rfl)]; rfl
  · rw [if_pos rfl, ← cmp_ct 5]
    refine fb_ct_cong (fun b hb => ?_)
    unfold lik
    rw [pa, Bool.true_and]
    cases pb : P b
    · rfl
    · rw [h a ha pa, h b hb pb]
section CQ
variable {σ : Hp} {T : Td} {post : Int32 → Hp → Prop} {postv : Hp → Prop}
theorem sX8_greatestLikeGroup {c t : Nat} {a b : Int32} {E : Nat → Int32} (hc : c ≤ 5) (ht : t < 24) (ha : a = nI t) (hb : b = nI c) (hE : ∀ p, p < c → σ.1 53 (p * 24 + t) = E p) (h : post (nI (mxk (fun p => fb_ct (fun q => E p == E q) c) c)) σ) : vX8_greatestLikeGroup a b σ post := by
  subst ha hb
  have hm := fun n => mxk_le (f := fun p => fb_ct (fun q => E p == E q) c) (M := 5) (fun k => Nat.le_trans (fb_ct_le _ c) hc) n
  suffices L : ∀ (d p : Nat), p + d = c → vX8_greatestLikeGroup_5 post (fun z3_1 σ_2 => post z3_1 σ_2) (nI t) (nI c) (d + 1) (nI (mxk (fun p => fb_ct (fun q => E p == E q) c) p)) (nI p) σ from ⟨c + 1, L c 0 (by omega)⟩
  intro d
  induction d with
  | zero =>
    intro p hd
    rw [vX8_greatestLikeGroup_5]; dsimp only
    refine ⟨fun _ => ?_, fun q => absurd (nI_le (by omega) (by omega)) q⟩
    rw [show p = c by omega]; exact h
  | succ d ih =>
    intro p hd
    have ih := ih (p + 1) (by omega)
    rw [mxk] at ih
    have hmp := hm p
    rw [vX8_greatestLikeGroup_5]; dsimp only
    refine ⟨fun q => absurd q (nI_ge (by omega) (by omega)), fun _ => ?_⟩
    generalize hx : mxk (fun p => fb_ct (fun q => E p == E q) c) p = x at *
    suffices L2 : ∀ (d' q : Nat), q + d' = c → vX8_greatestLikeGroup_17 post (fun z5_2 σ_3 => (vJ9_max_7cf53 (nI x) z5_2 σ_3 (fun r_5 σ_4 => (∀ x4_6 : Int32, x4_6 = nI p + (1 : Int32) → vX8_greatestLikeGroup_5 post (fun z3_1 σ_2 => post z3_1 σ_2) (nI t) (nI c) (d + 1) r_5 x4_6 σ_4)))) (nI t) (nI c) (nI x) (nI p) (d' + 1) (nI (fb_ct (fun q => E p == E q) q)) (nI q) σ from ⟨c + 1, L2 c 0 (by omega)⟩
    intro d'
    induction d' with
    | zero =>
      intro q hq
      rw [vX8_greatestLikeGroup_17]; dsimp only
      refine ⟨fun _ => ?_, fun q => absurd (nI_le (by omega) (by omega)) q⟩
      have : q = c := by omega
      subst this
      have hl := fb_ct_le (fun r => E p == E r) q
      unfold vJ9_max_7cf53
      rw [nI_lt2 (by omega) (by omega)]
      refine ⟨fun c1 => ?_, fun c1 => ?_⟩
      · rintro _ rfl
        rw [if_neg (by omega)] at ih
        rw [nI_1 p]; exact ih
      · rintro _ rfl
        rw [if_pos (by omega)] at ih
        rw [nI_1 p]; exact ih
    | succ d' ih' =>
      intro q hq
      have ih' := ih' (q + 1) (by omega)
      rw [fb_ct_succ] at ih'
      rw [vX8_greatestLikeGroup_17]; dsimp only
      refine ⟨fun q => absurd q (nI_ge (by omega) (by omega)), fun _ => ?_⟩
      rw [k24, nI_mul, nI_mul, nI_add, nI_add, nI_c (by omega), nI_c (by omega), hE p (by omega), hE q (by omega)]
      refine ⟨vp_in_nI (by omega) (by omega), vp_in_nI (by omega) (by omega), fun c1 => ?_, fun c1 => ?_⟩
      · rintro _ rfl _ rfl
        rw [show (E p == E q) = true by rw [c1]; exact beq_self_eq_true _] at ih'
        rw [nI_1 q, nI_1 (fb_ct (fun q => E p == E q) q)]; exact ih'
      · rintro _ rfl
        rw [show (E p == E q) = false from beq_eq_false_iff_ne.mpr c1] at ih'
        rw [nI_1 q]; exact ih'
theorem sX8_tickToAsk (hS : Cst σ T) (hO : Tok T) (h : ∀ σ', Fr CFx σ σ' → post (nI (gask (gmT T) (tQ T) (tnq T))) σ') : vX8_tickToAsk σ post := by
  unfold vX8_tickToAsk
  refine sX8_pullsThatMightBe hS hO (fun σ1 hF hD => ?_)
  have hend := h σ1 hF
  generalize gmT T = g at *
  unfold gask at hend
  unfold gpb
  generalize hP : (fun v => gsn (gPu g v) (tQ T) (tnq T)) = P at *
  generalize hFt : (fun t => gal P (fun v => gdb (gPu g v) (t + 1))) = F at hend
  have hF5 : ∀ t, F t ≤ 5 := fun t => by rw [← hFt]; exact mxk_le (fun k => fb_ct_le _ 5) 5
  have hc5 := fb_ct_le P 5
  refine sJ6_bitCount (p := P) (n := 5) (fun k hk => bm_bt P (by omega) hk) (by omega) ?_
  have step : ∀ (t : Nat) (a : Int32) (post : Int32 → Hp → Prop), t < 24 → a = nI t → post (nI (F t)) σ1 → vX8_greatestLikeGroup a (nI (fb_ct P 5)) σ1 post := by
    intro t a post ht ha hp
    refine sX8_greatestLikeGroup (E := fun p => σ1.1 53 (p * 24 + t)) hc5 ht ha rfl (fun p hp => rfl) ?_
    rw [← gal_cmp (P := P) (D := fun v => gdb (gPu g v) (t + 1)) (E := fun p => σ1.1 53 (p * 24 + t)) (fun v hv pv => hD v hv pv t ht), show gal P (fun v => gdb (gPu g v) (t + 1)) = F t by rw [← hFt]]
    exact hp
  suffices L : ∀ (d t : Nat), t + d = 23 → vX8_tickToAsk_16 post (fun z2_5 σ_6 => post z2_5 σ_6) (nI (fb_ct P 5)) (d + 1) (nI (amin F t)) (nI (F (amin F t))) (nI (t + 1)) σ1 by
    refine ⟨23 + 1 + 1, ?_⟩
    rw [vX8_tickToAsk_16]; dsimp only
    refine ⟨fun q => absurd q (by decide), fun _ => step 0 _ _ (by omega) rfl ?_⟩
    have h0 := hF5 0
    refine ⟨fun q => absurd q (nI_ge (b := 6) (by omega) (by omega)), fun _ => ?_⟩
    rintro _ rfl
    exact L 23 0 (by omega)
  intro d
  induction d with
  | zero =>
    intro t hd
    rw [vX8_tickToAsk_16]; dsimp only
    have : t = 23 := by omega
    subst this
    exact ⟨fun _ => hend, fun q => absurd (by decide) q⟩
  | succ d ih =>
    intro t hd
    have ih := ih (t + 1) (by omega)
    rw [amin] at ih
    rw [vX8_tickToAsk_16]; dsimp only
    refine ⟨fun q => absurd q (nI_ge (b := 24) (by omega) (by omega)), fun _ => step (t + 1) _ _ (by omega) rfl ?_⟩
    have h1 := hF5 (t + 1)
    have h2 := hF5 (amin F t)
    rw [nI_le2 (by omega) (by omega)]
    refine ⟨fun q => ?_, fun q => ?_⟩
    · rintro _ rfl
      rw [if_neg (by omega)] at ih
      rw [nI_1 (t + 1)]; exact ih
    · rintro _ rfl
      rw [if_pos (by omega)] at ih
      rw [nI_1 (t + 1)]; exact ih
theorem sC_ask (hI : CI σ T) (hO : Tok T) (h : ∀ σ', Cls σ σ' → CI σ' T → post (a_ask T) σ') : vX8_ask σ post := by
  refine sC_settle hI hO (fun σ1 hF hS => ?_)
  exact sX8_tickToAsk hS hO (fun σ2 hF2 => h σ2 (hF.tr (Cls.fx hF2)) (hS.fx hF2).ci)
end CQ
