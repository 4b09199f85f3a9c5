theorem sX8_within {x y : Int32} {n : Nat} {σ : Hp} {post : Int32 → Hp → Prop} (hn : n < 2147483648) (hy : y = nI n) (h1 : ∀ k, k < n → x = nI k → post 1 σ) (h0 : ib x n = false → post 0 σ) : vX8_within x y σ post := by
  subst hy
  unfold vX8_within
  rw [fa_lt, fa_le, nI_toInt hn, show (0 : Int32).toInt = 0 by decide]
  refine ⟨fun q => h0 (ib_f (fun h => by have := h.1; omega)), fun q => ⟨fun q2 => h0 (ib_f (fun h => by have := h.2; omega)), fun q2 => ?_⟩⟩
  obtain ⟨k, hk, e⟩ := inb_of (x := x) (n := n) ⟨by omega, by omega⟩ hn
  exact h1 k hk e
section CP
variable {σ : Hp} {g : Gm} {post : Hp → Prop} {o co : Nat}
theorem strk_fi {g : Gm} {i k : Nat} {x : Sx} (hG : Gok g) (hk : k < nd g) (h : ∀ i, x.2.2.1 i ≤ 12) : ∀ j, (strk g i k x).2.2.1 j ≤ 12 := fun j => by
  have g1 := hG.1
  simp only [strk, up]
  split
  · split
    · omega
    · exact h _
  · exact h j
theorem sX2_shoot_48 (ho : isRd o) (hc : isCo co) (hG : Gok g) {t i col : Nat} (ht : t < 24) (hi : i < ns g) (hcol : col < 6) : ∀ (f c : Nat) (x : Sx) (σ : Hp), c + f = 3 → CRi σ o co g → CRs σ o g x → (∀ k, x.1 k ≤ 2) → (∀ j, x.2.2.1 j ≤ 12) → (∀ σ', Fr (CFq o) σ σ' → CRs σ' o g (gos g (t + 1) i col f c x) → post σ') → vX2_shoot_48 post (fun σ_12 => post σ_12) o (nI t) (nI i) (nI col) (f + 1) (nI c) σ := by
  obtain ⟨f1, f2, f3, f4, f5, f6, f7, f8, f9, f10, f11, f12, f13, l2, l3, l4, l5, l6, l7, l8, l9, l10, l11, -⟩ := rd_fact ho
  have g1 := hG.1
  intro f
  induction f with
  | zero =>
    intro c x σ hcf hI hS hx hfi h
    rw [vX2_shoot_48]; dsimp only; rw [k3]
    refine ⟨fun _ => h σ Fr.rf ?_, fun q => absurd (nI_le (by omega) (by omega)) q⟩
    rw [gos]; exact hS
  | succ f ih =>
    intro c x σ hcf hI hS hx hfi h
    rw [vX2_shoot_48]; dsimp only; rw [k3]
    refine ⟨fun c => absurd c (nI_ge (by omega) (by omega)), fun _ => ⟨f1, ?_⟩⟩
    have e6 := hI.2.2.2.2.2.1
    rw [e6]
    refine ⟨(co_fact hc).1, ?_⟩
    refine sX0_duckAt hc hI.2.2.2.2.2.2.2.1 hG hI.2.2.2.2.2.2.1 ht (by omega : c < 3) (by omega : col < 12) rfl rfl rfl ?_
    have hwl : who g (t + 1) c col ≤ nd g := lastk_le _ _
    rw [fI_m1 (by omega)]
    rw [gos] at h
    refine ⟨fun q => ?_, fun q => ?_⟩
    · rw [if_pos q] at h; exact h σ Fr.rf hS
    · rw [if_neg q] at h
      obtain ⟨k, hk⟩ : ∃ k, who g (t + 1) c col = k + 1 := ⟨who g (t + 1) c col - 1, by omega⟩
      rw [hk] at h ⊢
      rw [fI_s]
      simp only [Nat.add_sub_cancel] at h
      have hkn : k < nd g := by omega
      have e14 := hS.1 k (by omega)
      rw [decide_eq_true hkn, Bool.true_and] at e14
      refine sX8_isSet rfl (by omega) (fun q1 => ⟨fun q => absurd q (by decide), fun _ => ?_⟩) (fun q1 => ⟨fun _ => ?_, fun q => absurd rfl q⟩)
      · rw [e14] at q1
        rw [if_pos (by simpa using q1)] at h; exact h σ Fr.rf hS
      · rw [e14] at q1
        have hnd : ¬ x.1 k = 2 := by simpa using q1
        rw [if_neg hnd] at h
        refine sX2_strike ho hI hc hG hi hkn rfl rfl hS (hx k) hnd (hfi i) (fun σ1 hF1 hS1 => ?_)
        have hI1 := hI.frq ho hc hF1
        have d2 := (hG.2.1 k hkn).2.2.1
        rw [f7, l5, nI_c (by omega), hI1.2.2.1 k hkn, k2, nI_eq2 (by omega) (by omega)]
        refine ⟨vp_in_nI (by omega) (by omega), fun q2 => ?_, fun q2 => ?_⟩
        · rw [if_pos q2] at h
          rintro _ rfl
          rw [nI_1]
          exact ih (c + 1) _ σ1 (by omega) hI1 hS1 (strk_le hx) (strk_fi hG hkn hfi) (fun σ2 hF2 hS2 => h σ2 (hF1.tr' hF2) hS2)
        · rw [if_neg q2] at h
          exact h σ1 hF1 hS1
theorem sX2_shoot (ho : isRd o) (hc : isCo co) (hG : Gok g) {t i : Nat} {a b : Int32} {x : Sx} (ht : t < 24) (hi : i < ns g) (ha : a = nI t) (hb : b = nI i) (hI : CRi σ o co g) (hS : CRs σ o g x) (hx : ∀ k, x.1 k ≤ 2) (hfi : ∀ j, x.2.2.1 j ≤ 12) (h : ∀ σ', Fr (CFq o) σ σ' → CRs σ' o g (shoot g t i x) → post σ') : vX2_shoot o a b σ post := by
  subst ha hb
  obtain ⟨f1, f2, f3, f4, f5, f6, f7, f8, f9, f10, f11, f12, f13, l2, l3, l4, l5, l6, l7, l8, l9, l10, l11, -⟩ := rd_fact ho
  obtain ⟨c1, c2, c3, c4, c5, c6, c7⟩ := co_fact hc
  obtain ⟨g1, -, -, -, g5, g6, g7, g8, -⟩ := id hG
  obtain ⟨r0, r1, r2⟩ := g6 i hi
  obtain ⟨i1, i2, i3, i4, i5, i6, i7, i8, i9⟩ := id hI
  obtain ⟨y0, y1, y2⟩ := i2 i hi
  have hdr : drg g t ≤ 1 := by unfold drg; split <;> omega
  unfold vX2_shoot
  rw [f3, f5, f6, l3, l4, i6, c4, c7, nI_c (by omega), nI_c (by omega), y2, i4, (i7 t ht).2.2, nI_add]
  refine ⟨f1, f2, vp_in_nI (by omega) (by omega), c1, vp_in_nI (by omega) (by omega), ?_⟩
  rintro _ rfl
  have ecol : nI (gS g i 2 + gpu g) - 2 + nI (drg g t) = nI (colq g t i) - 2 := by
    unfold colq
    rw [← nI_add (gS g i 2 + gpu g) (drg g t)]
    simp only [Int32.sub_eq_add_neg]
    ac_rfl
  have hq : colq g t i < 20 := by unfold colq; omega
  have hci : (nI (colq g t i) - 2).toInt = (colq g t i : Int) - 2 := by rw [k2, pk_sub_toInt (by omega) (by omega)]; rfl
  rw [ecol]
  refine sX8_within (n := 6) (by omega) rfl (fun col hcol e => ⟨fun q => absurd q (by decide), fun _ => ⟨vp_in_nI (by omega) (by omega), ?_⟩⟩) (fun e => ⟨fun _ => ?_, fun q => absurd rfl q⟩)
  · rintro _ rfl
    rw [e] at hci ⊢
    rw [nI_toInt (by omega)] at hci
    rw [y1]
    have hsh : shoot g t i x = gos g (t + 1) i col (3 - gS g i 1) (gS g i 1) x := by
      unfold shoot
      rw [if_pos (by omega), show colq g t i - 2 = col by omega]
    rw [hsh] at h
    exact ⟨_, sX2_shoot_48 ho hc hG ht hi hcol (3 - gS g i 1) (gS g i 1) x σ (by omega) hI hS hx hfi h⟩
  · have hsh : shoot g t i x = x := by
      unfold shoot
      rw [if_neg]
      intro hh
      have : ib (nI (colq g t i) - 2) 6 = true := by unfold ib; rw [decide_eq_true (by omega), decide_eq_true (by omega)]; rfl
      rw [this] at e; cases e
    rw [hsh] at h
    exact h σ Fr.rf hS
/-- by tick, the bits of the shots that come -/
def CCm (σ : Hp) (o : Nat) (g : Gm) (n : Nat) : Prop := ∀ t, t < 24 → ∀ i, i < 32 → bt (σ.1 (o + 11) t) i = (decide (i < n) && gS g i 0 + gfl g == t)
theorem sX2_begin (ho : isRd o) (hc : isCo co) (hG : Gok g) (hI : CRi σ o co g) (h : ∀ σ', Fr (CFr o) σ σ' → CRs σ' o g (sim g 0) → CCm σ' o g (ns g) → post σ') : vX2_begin o σ post := by
  obtain ⟨f1, f2, f3, f4, f5, f6, f7, f8, f9, f10, f11, f12, f13, l2, l3, l4, l5, l6, l7, l8, l9, l10, l11, kx, lx⟩ := rd_fact ho
  have hoo : o = 23 ∨ o = 35 := ho
  obtain ⟨g1, -, -, -, g5, g6, g7, g8, -⟩ := id hG
  unfold vX2_begin
  refine ⟨f1, ?_⟩
  rintro _ rfl _ rfl _ rfl _ rfl _ rfl
  generalize hS0 : wI (wI (wL (wI (wI σ o 14 0) o 15 0) o 16 0) o 11 0) o 12 0 = σ0
  have hF0 : Fr (CFr o) σ σ0 := by
    rw [← hS0]
    exact ((((Fr.wI (CFr_t (by omega))).tr' (Fr.wI (CFr_t (by omega)))).tr' (Fr.wL (CFr_t (by omega)))).tr' (Fr.wI (CFr_t (by omega)))).tr' (Fr.wI (CFr_t (by omega)))
  have x12 : σ0.1 o 12 = 0 := by rw [← hS0, wI_at, if_pos rfl]
  have x11 : σ0.1 o 11 = 0 := by rw [← hS0, wI_nf (by omega), wI_at, if_pos rfl]
  have x15 : σ0.1 o 15 = 0 := by rw [← hS0, wI_nf (by omega), wI_nf (by omega), wL_1, wI_at, if_pos rfl]
  have x14 : σ0.1 o 14 = 0 := by rw [← hS0, wI_nf (by omega), wI_nf (by omega), wL_1, wI_nf (by omega), wI_at, if_pos rfl]
  have x16 : σ0.2.1 o 16 = 0 := by rw [← hS0, wI_2, wI_2, wL_at, if_pos rfl]
  rw [f13]
  refine sJ7_fill kx (by omega) (fun σ1 hF1 h11 => ?_)
  rw [lx] at h11
  have hF01 : Fr (CFr o) σ0 σ1 := hF1.up (fun a b hab => beq_f (by rintro rfl; rw [CFr_t (by omega)] at hab; cases hab))
  have ko : ∀ a b, a ≠ o + 11 → σ1.1 a b = σ0.1 a b := fun a b hne => hF1.i (beq_f hne)
  suffices L : ∀ (d i : Nat) (σ2 : Hp), i + d = ns g → Fr (CFr o) σ σ2 → σ2.1 o = σ1.1 o → σ2.2.1 o 16 = 0 → (∀ j, j < i → σ2.1 (o + 9) j = -1 ∧ σ2.1 (o + 10) j = 0) → CCm σ2 o g i → vX2_begin_35 post (fun σ_9 => post σ_9) o (d + 1) (nI i) σ2 by
    refine ⟨ns g + 1, L (ns g) 0 σ1 (by omega) (hF0.tr' hF01) rfl ?_ (fun j hj => absurd hj (Nat.not_lt_zero j)) (fun t ht i hi => ?_)⟩
    · rw [hF1.l (beq_f (by omega)) (by rcases hoo with rfl | rfl <;> rfl)]; exact x16
    · rw [h11 t ht, bt_zero, decide_eq_false (Nat.not_lt_zero i)]; rfl
  intro d
  induction d with
  | zero =>
    intro i σ2 hd hF q1 q2 q3 q4
    have hI2 := hI.fr ho hc hF
    rw [vX2_begin_35]; dsimp only; rw [f3, hI2.1]
    have : i = ns g := by omega
    subst this
    refine ⟨f1, f2, fun _ => h σ2 hF ⟨fun k hk => ?_, fun k hk => ?_, ?_, fun j hj => q3 j hj, ?_, fun j hj => ?_⟩ q4, fun c => absurd (nI_le (by omega) (by omega)) c⟩
    · rw [q1, ko o _ (by omega), x14, bt_zero]; simp [sim]
    · rw [q1, ko o _ (by omega), x15, bt_zero]; simp [sim]
    · rw [q2]
      have : nib (sim g 0).2.1 (nd g) = 0 := by
        unfold nib
        have : ∀ n, fb_sm (fun k => (sim g 0).2.1 k * 16 ^ k) n = 0 := by
          intro n
          induction n with
          | zero => rfl
          | succ n ih => rw [fb_sm_succ, ih]; show 0 + 0 * 16 ^ n = 0; rw [Nat.zero_mul]
        exact this _
      rw [this]; rfl
    · rw [q1, ko o _ (by omega), x11]
      have : ∀ n, fb_sm (sim g 0).2.2.2 n = 0 := by
        intro n
        induction n with
        | zero => rfl
        | succ n ih => rw [fb_sm_succ, ih]; rfl
      rw [this]; rfl
    · rw [q1, ko o _ (by omega), x12, bt_zero]; simp [sim]
  | succ d ih =>
    intro i σ2 hd hF q1 q2 q3 q4
    have hI2 := hI.fr ho hc hF
    have hi : i < ns g := by omega
    obtain ⟨r0, r1, r2⟩ := g6 i hi
    rw [vX2_begin_35]; dsimp only; rw [f3, hI2.1]
    refine ⟨f1, f2, fun c => absurd c (nI_ge (by omega) (by omega)), fun _ => ?_⟩
    rw [f11, f12, f13, l9, l10, l11, nI_c (by omega)]
    refine ⟨vp_in_nI (by omega) (by omega), ?_⟩
    rintro _ rfl
    refine ⟨vp_in_nI (by omega) (by omega), ?_⟩
    rintro σ3 hS3
    have hF3 : Fr (CFr o) σ σ3 := by
      rw [hS3]
      exact (hF.tr' (Fr.wI (CFr_t (by omega)))).tr' (Fr.wI (CFr_t (by omega)))
    have hI3 := hI.fr ho hc hF3
    have z1 : σ3.1 o = σ1.1 o := by rw [hS3, wI_ne (by omega), wI_ne (by omega)]; exact q1
    have z2 : σ3.2.1 o 16 = 0 := by rw [hS3]; exact q2
    have z3 : ∀ j, j < i + 1 → σ3.1 (o + 9) j = -1 ∧ σ3.1 (o + 10) j = 0 := fun j hj => by
      rw [hS3, wI_ne (by omega), wI_at, wI_at, wI_ne (by omega)]
      by_cases e : j = i
      · rw [if_pos e, if_pos e]; exact ⟨rfl, rfl⟩
      · rw [if_neg e, if_neg e]; exact q3 j (by omega)
    have z4 : σ3.1 (o + 11) = σ2.1 (o + 11) := by rw [hS3, wI_ne (by omega), wI_ne (by omega)]
    unfold vX2_comingTick
    rw [f3, f4, l2, nI_c (by omega), (hI3.2.1 i hi).1, hI3.2.2.2.2.1, nI_add]
    refine ⟨f1, f2, vp_in_nI (by omega) (by omega), ?_⟩
    rintro _ rfl
    rw [k24, nI_le2 (by omega) (by omega)]
    refine ⟨fun c => ⟨fun _ => ?_, fun q => absurd rfl q⟩, fun c => ⟨fun q => absurd q (by rw [nI_m1 (by omega)]; exact id), fun _ => ⟨vp_in_nI (by omega) (by omega), vp_in_nI (by omega) (by omega), ?_⟩⟩⟩
    · rintro _ rfl
      rw [nI_1]
      refine ih (i + 1) σ3 (by omega) hF3 z1 z2 z3 (fun t ht j hj => ?_)
      rw [z4, q4 t ht j hj]
      by_cases e : j = i
      · subst e
        have : ¬ gS g j 0 + gfl g = t := by omega
        simp [this]
      · rw [decide_eq_decide.mpr (show j < i ↔ j < i + 1 by omega)]
    · rintro _ rfl _ rfl
      rw [nI_1, nI_c (by omega)]
      refine ih (i + 1) _ (by omega) (hF3.tr' (Fr.wI (CFr_t (by omega)))) (by rw [wI_ne (by omega)]; exact z1) (by rw [wI_2]; exact z2) (fun j hj => by rw [wI_ne (by omega), wI_ne (by omega)]; exact z3 j hj) (fun t ht j hj => ?_)
      rw [wI_at]
      by_cases et : t = gS g i 0 + gfl g
      · rw [if_pos et, b_or, z4, ← et, q4 t ht j hj, bt_one (by omega) hj]
        by_cases e : j = i
        · subst e
          simp [et]
        · rw [decide_eq_false e, Bool.or_false, decide_eq_decide.mpr (show j < i ↔ j < i + 1 by omega)]
      · rw [if_neg et, z4, q4 t ht j hj]
        by_cases e : j = i
        · subst e
          have : ¬ gS g j 0 + gfl g = t := fun h => et h.symm
          simp [this]
        · rw [decide_eq_decide.mpr (show j < i ↔ j < i + 1 by omega)]
end CP
