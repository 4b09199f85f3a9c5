section CQ
variable {σ : Hp} {g : Gm} {post : Hp → Prop} {o co : Nat}
theorem shots_fi {g : Gm} {t : Nat} (hG : Gok g) : ∀ (n : Nat) {x : Sx}, (∀ j, x.2.2.1 j ≤ 12) → ∀ j, (shots g t n x).2.2.1 j ≤ 12 := by
  have g1 := hG.1
  have hgos : ∀ (T i col f c : Nat) (x : Sx), (∀ j, x.2.2.1 j ≤ 12) → ∀ j, (gos g T i col f c x).2.2.1 j ≤ 12 := by
    intro T i col f
    induction f with
    | zero => intro c x h j; exact h j
    | succ f ih =>
      intro c x h j
      rw [gos]
      split
      · exact h j
      · rename_i hw
        split
        · exact h j
        · have hl : who g T c col ≤ nd g := lastk_le _ _
          have hs := strk_fi (i := i) hG (show who g T c col - 1 < nd g by omega) h
          split
          · exact ih _ _ hs j
          · exact hs j
  intro n
  induction n with
  | zero => intro x h j; exact h j
  | succ n ih =>
    intro x h j
    rw [shots]
    split
    · unfold shoot
      split
      · exact hgos _ _ _ _ _ _ (ih h) j
      · exact ih h j
    · exact ih h j
theorem sim_fi {g : Gm} (hG : Gok g) (T : Nat) : ∀ j, (sim g T).2.2.1 j ≤ 12 := fun j => by
  have := gfi_le g T j
  have := hG.1
  omega
theorem shots_none {g : Gm} {t : Nat} {x : Sx} : ∀ n, (∀ i, i < n → ¬ gS g i 0 + gfl g = t) → shots g t n x = x
  | 0, _ => rfl
  | n + 1, h => by rw [shots, if_neg (h n (by omega)), shots_none n (fun i hi => h i (by omega))]
theorem CCm.eq {σ' : Hp} {n : Nat} (h : CCm σ o g n) (e : σ'.1 (o + 11) = σ.1 (o + 11)) : CCm σ' o g n := by
  unfold CCm at h ⊢
  rw [e]; exact h
theorem sX2_play_54 {ex : Hp → Prop} (ho : isRd o) (hc : isCo co) (hG : Gok g) {t : Nat} {x : Sx} (ht : t < 24) (hx : ∀ k, x.1 k ≤ 2) (hfi : ∀ j, x.2.2.1 j ≤ 12) : ∀ (d i : Nat) (σ : Hp), i + d = ns g → CRi σ o co g → CCm σ o g (ns g) → CRs σ o g (shots g t i x) → (∀ σ', Fr (CFq o) σ σ' → CRs σ' o g (shots g t (ns g) x) → ex σ') → vX2_play_54 post ex o (nI t) (d + 1) (nI i) σ := by
  obtain ⟨f1, f2, f3, f4, f5, f6, f7, f8, f9, f10, f11, f12, f13, l2, l3, l4, l5, l6, l7, l8, l9, l10, l11, -⟩ := rd_fact ho
  have hoo : o = 23 ∨ o = 35 := ho
  have g5 := hG.2.2.2.2.1
  have zero : ∀ (σ : Hp) (i : Nat), i ≤ ns g → CCm σ o g (ns g) → σ.1 (o + 11) t = 0 → shots g t i x = shots g t (ns g) x := by
    intro σ i hi hm h0
    have hn : ∀ j, j < ns g → ¬ gS g j 0 + gfl g = t := fun j hj e => by
      have := hm t ht j (by omega)
      rw [h0, bt_zero, decide_eq_true hj] at this
      simp [e] at this
    rw [shots_none i (fun j hj => hn j (by omega)), shots_none (ns g) hn]
  intro d
  induction d with
  | zero =>
    intro i σ hd hI hm hS hex
    have : i = ns g := by omega
    subst this
    rw [vX2_play_54]; dsimp only
    rw [f13, l11, f3, hI.1]
    exact ⟨f1, vp_in_nI ht (by omega), fun _ => hex σ Fr.rf hS, fun _ => ⟨f2, fun _ => hex σ Fr.rf hS, fun c => absurd (nI_le (by omega) (by omega)) c⟩⟩
  | succ d ih =>
    intro i σ hd hI hm hS hex
    have hi : i < ns g := by omega
    rw [vX2_play_54]; dsimp only
    rw [f13, l11, f3, hI.1, nI_c (by omega)]
    refine ⟨f1, vp_in_nI ht (by omega), fun q => hex σ Fr.rf (by rw [← zero σ i (by omega) hm q]; exact hS), fun _ => ⟨f2, fun c => absurd c (nI_ge (by omega) (by omega)), fun _ => ⟨vp_in_nI ht (by omega), ?_⟩⟩⟩
    show ((σ.1 (o + 11) t &&& on i) = 0 → _) ∧ (¬ (σ.1 (o + 11) t &&& on i) = 0 → _)
    rw [and_on _ (by omega : i < 32), hm t ht i (by omega), decide_eq_true hi, Bool.true_and]
    refine ⟨fun q => ?_, fun q => ?_⟩
    · have q : ¬ gS g i 0 + gfl g = t := by simpa using q
      rintro _ rfl
      rw [nI_1]
      exact ih (i + 1) σ (by omega) hI hm (by rw [shots, if_neg q]; exact hS) hex
    · have q : gS g i 0 + gfl g = t := by simpa using q
      refine sX2_shoot ho hc hG ht hi rfl rfl hI hS (shots_le i hx) (shots_fi hG i hfi) (fun σ1 hF1 hS1 => ?_)
      rintro _ rfl
      rw [nI_1]
      exact ih (i + 1) σ1 (by omega) (hI.frq ho hc hF1) (hm.eq (hF1.r (fun b => CFq_f (by omega) (by omega) (by omega)))) (by rw [shots, if_pos q]; exact hS1) (fun σ2 hF2 hS2 => hex σ2 (hF1.tr' hF2) hS2)
/-- by tick: who is down, who is dented, how often each was hit -/
def CRb (σ : Hp) (o : Nat) (g : Gm) (T : Nat) : Prop := ∀ t, t < T → (∀ k, k < 32 → bt (σ.1 (o + 6) t) k = (decide (k < nd g) && gst g (t + 1) k == 2)) ∧ (∀ k, k < 32 → bt (σ.1 (o + 7) t) k = (decide (k < nd g) && gst g (t + 1) k == 1)) ∧ σ.2.1 (o + 8) t = lN (nib (ghi g (t + 1)) (nd g))
theorem sX2_play (ho : isRd o) (hc : isCo co) (hG : Gok g) (hI : CRi σ o co g) (h : ∀ σ', Fr (CFr o) σ σ' → CRs σ' o g (sim g 24) → CRb σ' o g 24 → post σ') : vX2_play o σ post := by
  obtain ⟨f1, f2, f3, f4, f5, f6, f7, f8, f9, f10, f11, f12, f13, l2, l3, l4, l5, l6, l7, l8, l9, l10, l11, -⟩ := rd_fact ho
  obtain ⟨c1, c2, c3, c4, c5, c6, c7⟩ := co_fact hc
  have hoo : o = 23 ∨ o = 35 := ho
  have g5 := hG.2.2.2.2.1
  refine ⟨f1, sX2_begin ho hc hG hI (fun σ0 hF0 hS0 hm0 => ?_)⟩
  suffices L : ∀ (d t : Nat) (σ1 : Hp), t + d = 24 → Fr (CFr o) σ σ1 → CCm σ1 o g (ns g) → CRs σ1 o g (sim g t) → CRb σ1 o g t → vX2_play_6 post (fun σ_4 => post σ_4) o (d + 1) (nI t) σ1 from ⟨24 + 1, L 24 0 σ0 (by omega) hF0 hm0 hS0 (fun t ht => absurd ht (Nat.not_lt_zero t))⟩
  intro d
  induction d with
  | zero =>
    intro t σ1 hd hF hm hS hB
    have : t = 24 := by omega
    subst this
    rw [vX2_play_6]; dsimp only; rw [k24]
    exact ⟨fun _ => h σ1 hF hS hB, fun c => absurd (nI_le (by omega) (by omega)) c⟩
  | succ d ih =>
    intro t σ1 hd hF hm hS hB
    have hI1 := hI.fr ho hc hF
    have ht : t < 24 := by omega
    have i6 := hI1.2.2.2.2.2.1
    have i7 := hI1.2.2.2.2.2.2.1
    rw [vX2_play_6]; dsimp only; rw [k24, i6]
    refine ⟨fun c => absurd c (nI_ge (by omega) (by omega)), fun _ => ⟨f1, c1, ?_⟩⟩
    rw [c3, c6, nI_c (by omega)]
    refine ⟨vp_in_nI ht (by omega), ?_⟩
    rintro _ rfl
    rw [wI_2, i6, c3, c6]
    refine ⟨c1, vp_in_nI ht (by omega), ?_⟩
    rintro σ2 hS2
    have hco : co = 15 ∨ co = 19 := hc
    rw [wI_nf (by omega), wI_ne (by omega)] at hS2
    have hF2 : Fr (CFq o) σ1 σ2 := by
      rw [hS2]
      exact (Fr.wI (CFq_t (by omega))).tr' (Fr.wI (CFq_t (by omega)))
    have hI2 := hI1.frq ho hc hF2
    obtain ⟨e14, e15, e16, e9, e11, e12⟩ := hS
    have hst := (i7 t ht).2.1
    have hS3 : CRs σ2 o g (shots g t 0 (turn g t (sim g t))) := by
      refine ⟨fun k hk => ?_, fun k hk => ?_, ?_, fun j hj => ?_, ?_, fun j hj => ?_⟩
      · rw [hS2, wI_nf (by omega), wI_at, if_pos rfl, b_and, b_not _ hk, e14 k hk, hst k hk]
        show _ = (decide (k < nd g) && (turn g t (sim g t)).1 k == 2)
        by_cases e : k < nd g
        · rw [decide_eq_true e]
          simp only [turn]
          by_cases e1 : 5 < pl g (t + 1) k
          · simp [e1]
          · cases e2 : hasE g 2 t k <;> simp [e1]
        · rw [decide_eq_false e]; simp
      · rw [hS2, wI_at, if_pos rfl, b_and, b_not _ hk, e15 k hk, hst k hk]
        show _ = (decide (k < nd g) && (turn g t (sim g t)).1 k == 1)
        by_cases e : k < nd g
        · rw [decide_eq_true e]
          simp only [turn]
          by_cases e1 : 5 < pl g (t + 1) k
          · simp [e1]
          · cases e2 : hasE g 2 t k <;> simp [e1]
        · rw [decide_eq_false e]; simp
      · rw [hS2]; exact e16
      · rw [hS2, wI_ne (by omega), wI_ne (by omega), wI_ne (by omega), wI_ne (by omega)]; exact e9 j hj
      · rw [hS2, wI_nf (by omega), wI_nf (by omega)]; exact e11
      · rw [hS2, wI_nf (by omega), wI_nf (by omega)]; exact e12 j hj
    refine ⟨ns g + 1, sX2_play_54 ho hc hG ht (turn_le (sim_le g t)) (sim_fi hG t) (ns g) 0 σ2 (by omega) hI2 (hm.eq (hF2.r (fun b => CFq_f (by omega) (by omega) (by omega)))) hS3 (fun σ3 hF3 hS4 => ?_)⟩
    have hS4 : CRs σ3 o g (sim g (t + 1)) := hS4
    have hF13 : Fr (CFq o) σ1 σ3 := hF2.tr' hF3
    unfold vX2_play_99
    rw [f8, f9, f10, l6, l7, l8, nI_c (by omega)]
    refine ⟨f1, vp_in_nI ht (by omega), ?_⟩
    rintro _ rfl
    refine ⟨vp_in_nI ht (by omega), ?_⟩
    rintro _ rfl
    refine ⟨vp_in_nI ht (by omega), ?_⟩
    rintro σ5 hS5 _ rfl
    rw [nI_1]
    rw [wI_ne (by omega : o ≠ o + 6), wI_2, wI_2] at hS5
    have hF5 : Fr (CFr o) σ3 σ5 := by
      rw [hS5]
      exact ((Fr.wI (CFr_t (by omega))).tr' (Fr.wI (CFr_t (by omega)))).tr' (Fr.wL (CFr_t (by omega)))
    have w1 : σ5.1 = (wI (wI σ3 (o + 6) t (σ3.1 o 14)) (o + 7) t (σ3.1 o 15)).1 := by rw [hS5]; rfl
    have w2 : ∀ a b, σ5.2.1 a b = (wL σ3 (o + 8) t (σ3.2.1 o 16)).2.1 a b := fun a b => by rw [hS5]; rfl
    obtain ⟨y14, y15, y16, y9, y11, y12⟩ := id hS4
    refine ih (t + 1) σ5 (by omega) ((hF.tr' (hF13.up CFq_CFr)).tr' hF5) ?_ ⟨fun k hk => ?_, fun k hk => ?_, ?_, fun j hj => ?_, ?_, fun j hj => ?_⟩ (fun t' ht' => ?_)
    · refine hm.eq ?_
      rw [w1, wI_ne (by omega), wI_ne (by omega), hF13.r (fun b => CFq_f (by omega) (by omega) (by omega))]
    · rw [w1, wI_ne (by omega), wI_ne (by omega)]; exact y14 k hk
    · rw [w1, wI_ne (by omega), wI_ne (by omega)]; exact y15 k hk
    · rw [w2, wL_ne (by omega)]; exact y16
    · rw [w1, wI_ne (by omega), wI_ne (by omega), wI_ne (by omega), wI_ne (by omega)]; exact y9 j hj
    · rw [w1, wI_ne (by omega), wI_ne (by omega)]; exact y11
    · rw [w1, wI_ne (by omega), wI_ne (by omega)]; exact y12 j hj
    · rw [w1, w2, wI_ne (by omega : o + 6 ≠ o + 7), wI_at, wI_at, wI_ne (by omega), wL_at]
      by_cases e : t' = t
      · subst e
        rw [if_pos rfl, if_pos rfl, if_pos rfl]
        exact ⟨y14, y15, y16⟩
      · rw [if_neg e, if_neg e, if_neg e]
        obtain ⟨b1, b2, b3⟩ := hB t' (by omega)
        have hlL : isL (o + 8) t' = true := by rcases hoo with rfl | rfl <;> rfl
        rw [hF13.i (CFq_f (by omega) (by omega) (by omega)), hF13.i (CFq_f (by omega) (by omega) (by omega)), hF13.l (CFq_f (by omega) (by omega) (by omega)) hlL]
        exact ⟨b1, b2, b3⟩
end CQ
