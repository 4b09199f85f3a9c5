theorem fI_0 : fI 0 = -1 := rfl
theorem fI_s (n : Nat) : fI (n + 1) = nI n := rfl
/-- whom a shot finds: not down, on its chain, in its column -/
def tg (g : Gm) (T c col : Nat) (x : Sx) : Nat := lastk (fun k => gD g k 0 == c && pl g T k == col && x.1 k != 2) (nd g)
theorem who_one {g : Gm} (hG : Gok g) {T c col j k : Nat} (hj : j < nd g) (hk : k < nd g) (h1 : gD g j 0 = c) (h2 : pl g T j = col) (h3 : gD g k 0 = c) (h4 : pl g T k = col) : j = k := by
  obtain ⟨g1, g2, g3, -⟩ := hG
  refine g3 j k hj hk (by rw [h1, h3]) ?_
  have a1 := (g2 j hj).2.1
  have a2 := (g2 k hk).2.1
  unfold pl at h2 h4
  rw [h1] at h2
  rw [h3] at h4
  omega
theorem tg_who {g : Gm} (hG : Gok g) (T c col : Nat) (x : Sx) : tg g T c col x = if who g T c col = 0 then 0 else if x.1 (who g T c col - 1) = 2 then 0 else who g T c col := by
  rcases hw : who g T c col with _ | k
  · rw [if_pos rfl]
    have h0 := lastk_no hw
    rcases ht : tg g T c col x with _ | j
    · rfl
    · have := lastk_yes ht
      have h1 := h0 j this.1
      have h2 := this.2
      simp only [Bool.and_eq_true, beq_iff_eq, bne_iff_ne] at h2
      simp [h2.1.1, h2.1.2] at h1
  · have hy := lastk_yes hw
    simp only [Bool.and_eq_true, beq_iff_eq] at hy
    rw [if_neg (by omega)]
    simp only [Nat.add_sub_cancel]
    by_cases hd : x.1 k = 2
    · rw [if_pos hd]
      rcases ht : tg g T c col x with _ | j
      · rfl
      · have := lastk_yes ht
        have h2 := this.2
        simp only [Bool.and_eq_true, beq_iff_eq, bne_iff_ne] at h2
        have := who_one hG this.1 hy.1 h2.1.1 h2.1.2 hy.2.1 hy.2.2
        subst this
        exact absurd hd h2.2
    · rw [if_neg hd]
      refine lastk_one hy.1 ?_ (fun j hj hp => ?_)
      · simp [hy.2.1, hy.2.2, hd]
      · simp only [Bool.and_eq_true, beq_iff_eq, bne_iff_ne] at hp
        exact who_one hG hj hy.1 hp.1.1 hp.1.2 hy.2.1 hy.2.2
theorem tg_big {g : Gm} (hG : Gok g) {T c col : Nat} {x : Sx} (hc : 3 ≤ c) : tg g T c col x = 0 := by
  rcases ht : tg g T c col x with _ | j
  · rfl
  · have := lastk_yes ht
    have h2 := this.2
    simp only [Bool.and_eq_true, beq_iff_eq, bne_iff_ne] at h2
    have := (hG.2.1 j this.1).1
    omega
theorem sX9_target_5 {post ex : Int32 → Hp → Prop} {σ : Hp} {g : Gm} {T c col : Nat} {x : Sx} (hM : MIn σ g) (hG : Gok g) (hS : ∀ k, k < nd g → σ.1 83 k = nI (pl g T k) ∧ σ.1 84 k = nI (x.1 k)) (hx : ∀ k, x.1 k ≤ 2) (hc : c < 4) (hcol : col < 12) (hex : ex (fI (tg g T c col x)) σ) : ∀ (d k : Nat), k + d = nd g → vX9_target_5 post ex (nI c) (nI col) (d + 1) (fI (lastk (fun k => gD g k 0 == c && pl g T k == col && x.1 k != 2) k)) (nI k) σ := by
  obtain ⟨m1, m2, m3, m4, -⟩ := id hM
  obtain ⟨g1, g2, -⟩ := id hG
  intro d
  induction d with
  | zero =>
    intro k hd
    rw [vX9_target_5]; dsimp only; rw [m1]
    refine ⟨fun _ => ?_, fun c => absurd (nI_le (by omega) (by omega)) c⟩
    rw [show k = nd g by omega]; exact hex
  | succ d ih =>
    intro k hd
    have hk : k < nd g := by omega
    obtain ⟨d0, d1, -⟩ := g2 k hk
    have e0 := m4 k hk 0 (by omega)
    simp only [Nat.add_zero] at e0
    obtain ⟨s1, s2⟩ := hS k hk
    have hp := pl_lt g T k
    have hx2 := hx k
    have ih := ih (k + 1) (by omega)
    rw [lastk] at ih
    rw [vX9_target_5]; dsimp only; rw [m1]
    refine ⟨fun c => absurd c (nI_ge (by omega) (by omega)), fun _ => ?_⟩
    simp (disch := omega) only [ks, nI_mul, nI_add, nI_in2, nI_c, e0, s1, s2, nI_eq2]
    refine ⟨by omega, fun c0 => ⟨by omega, fun c1 => ⟨by omega, fun c2 => ?_, fun c2 => ?_⟩, fun c1 => ?_⟩, fun c0 => ?_⟩
    · rintro _ rfl
      rw [if_neg (by simp [c2])] at ih; exact ih
    · rintro _ rfl
      rw [if_pos (by simp [c0, c1, c2])] at ih; exact ih
    · rintro _ rfl
      rw [if_neg (by simp [c1])] at ih; exact ih
    · rintro _ rfl
      rw [if_neg (by simp [c0])] at ih; exact ih
theorem sX9_target {post : Int32 → Hp → Prop} {σ : Hp} {g : Gm} {T c col : Nat} {x : Sx} {a b : Int32} (hM : MIn σ g) (hG : Gok g) (hS : ∀ k, k < nd g → σ.1 83 k = nI (pl g T k) ∧ σ.1 84 k = nI (x.1 k)) (hx : ∀ k, x.1 k ≤ 2) (hc : c < 4) (hcol : col < 12) (ha : a = nI c) (hb : b = nI col) (h : post (fI (tg g T c col x)) σ) : vX9_target a b σ post := by
  subst ha hb
  exact ⟨nd g + 1, sX9_target_5 hM hG hS hx hc hcol h (nd g) 0 (by omega)⟩
theorem sX9_in {a b c : Int64} {σ : Hp} {post : Int32 → Hp → Prop} (h1 : b ≤ a → a ≤ c → post 1 σ) (h0 : ¬ (b ≤ a ∧ a ≤ c) → post 0 σ) : vX9_in a b c σ post := by
  unfold vX9_in
  rw [lg_cmp_lt, lg_cmp_gt]
  refine ⟨fun c1 => h0 (fun h => ?_), fun c1 => ⟨fun c2 => h0 (fun h => ?_), fun c2 => h1 ?_ ?_⟩⟩
  · rw [fa_lt64] at c1; rw [fa_le64] at h; omega
  · rw [fa_lt64] at c2; rw [fa_le64, fa_le64] at h; omega
  · rw [fa_lt64] at c1; rw [fa_le64]; omega
  · rw [fa_lt64] at c2; rw [fa_le64]; omega
theorem sX9_inB {x : Int32} {b c : Int64} {lo hi : Int} {σ : Hp} {post : Int32 → Hp → Prop} (hb : b.toInt = lo) (hc : c.toInt = hi) (h1 : lo ≤ x.toInt → x.toInt ≤ hi → post 1 σ) (h0 : x.toInt < lo ∨ hi < x.toInt → post 0 σ) : vX9_in x.toInt64 b c σ post := by
  refine sX9_in (fun q1 q2 => h1 ?_ ?_) (fun q => h0 ?_)
  · rw [fa_le64, Int32.toInt_toInt64] at q1; omega
  · rw [fa_le64, Int32.toInt_toInt64] at q2; omega
  · rw [fa_le64, fa_le64, Int32.toInt_toInt64] at q; omega
theorem strk_le {g : Gm} {i k : Nat} {x : Sx} (h : ∀ k, x.1 k ≤ 2) : ∀ k', (strk g i k x).1 k' ≤ 2 := fun k' => by
  simp only [strk, up]
  split
  · unfold nst; split <;> omega
  · exact h k'
/-- all but whom shot i hit first -/
def MStE (σ : Hp) (g : Gm) (T i : Nat) (x : Sx) : Prop :=
  (∀ k, k < nd g → σ.1 83 k = nI (pl g T k) ∧ σ.1 84 k = nI (x.1 k) ∧ σ.1 85 k = nI (x.2.1 k)) ∧ (∀ j, j < 12 → (j ≠ i → σ.1 86 j = fI (x.2.2.1 j)) ∧ σ.1 87 j = nI (x.2.2.2 j))
def MFc : Nat → Nat → Bool := fun a _ => Nat.ble 84 a && Nat.ble a 87
theorem sX9_comes_134 {post ex : Hp → Prop} {rc : Int32 → Int32 → Hp → Prop} {σ : Hp} {g : Gm} {T c col i k : Nat} {x : Sx} {y0 : Int32} (hM : MIn σ g) (hG : Gok g) (hx : ∀ k, x.1 k ≤ 2) (hi : i < 12) (hc : c < 3) (hcol : col < 12) (hk : k < nd g) (hS : ∀ k', k' < nd g → σ.1 83 k' = nI (pl g T k') ∧ σ.1 84 k' = nI ((strk g i k x).1 k')) (hy : y0 = nI (if nst g k x = 2 then gD g k 3 else 0))
    (h : ∀ σ', σ' = wI σ 87 i (σ.1 87 i + y0) → rc (nI (c + 1)) (fI (if gD g k 2 = 2 then tg g T (c + 1) col (strk g i k x) else 0)) σ') : vX9_comes_134 post ex rc (nI i) (nI col) (nI c) (nI (gD g k 2)) y0 (σ.1 87 i) (nI i) σ := by
  obtain ⟨-, -, d2, -⟩ := hG.2.1 k hk
  unfold vX9_comes_134
  refine ⟨vp_in_nI hi (by omega), ?_⟩
  rintro _ rfl _ rfl
  rw [nI_c (by omega), nI_1]
  refine ⟨fun q => ?_, fun q => ?_⟩
  · rw [k2, nI_eq2 (by omega) (by omega)] at q
    rw [if_pos q] at h
    refine sX9_target (hM.fr (A := MFc) (Fr.wI rfl)) hG (fun k' hk' => ?_) (strk_le hx) (by omega) hcol rfl rfl (h _ rfl)
    rw [wI_ne (by decide), wI_ne (by decide)]; exact hS k' hk'
  · rw [k2, nI_eq2 (by omega) (by omega)] at q
    rw [if_neg q] at h
    exact h _ rfl
theorem sX9_comes_100 {post ex : Hp → Prop} {rc : Int32 → Int32 → Hp → Prop} {σ : Hp} {g : Gm} {T c col i k : Nat} {x : Sx} {y0 : Int32} (hM : MIn σ g) (hG : Gok g) (hx : ∀ k, x.1 k ≤ 2) (hi : i < 12) (hc : c < 3) (hcol : col < 12) (hk : k < nd g)
    (hS : ∀ k', k' < nd g → σ.1 83 k' = nI (pl g T k') ∧ σ.1 84 k' = nI (x.1 k') ∧ σ.1 85 k' = nI ((strk g i k x).2.1 k')) (hS2 : ∀ j, j < 12 → (j ≠ i → σ.1 86 j = fI (x.2.2.1 j)) ∧ σ.1 87 j = nI (x.2.2.2 j)) (hy : y0 = nI (nst g k x))
    (h : ∀ σ', Fr MFc σ σ' → σ'.1 86 = σ.1 86 → MStE σ' g T i (strk g i k x) → rc (nI (c + 1)) (fI (if gD g k 2 = 2 then tg g T (c + 1) col (strk g i k x) else 0)) σ') : vX9_comes_100 post ex rc (nI i) (nI col) (nI c) (nI k) (nI (gD g k 2)) y0 (nI k) σ := by
  have hk12 : k < 12 := by have := hG.1; omega
  have hn2 : nst g k x ≤ 2 := by unfold nst; split <;> omega
  obtain ⟨m1, m2, m3, m4, -⟩ := id hM
  have e3 := m4 k hk 3 (by omega)
  have d3 := (hG.2.1 k hk).2.2.2
  subst hy
  have hM2 : MIn (wI σ 84 k (nI (nst g k x))) g := hM.fr (A := MFc) (Fr.wI rfl)
  have hst : ∀ k', k' < nd g → (wI σ 84 k (nI (nst g k x))).1 83 k' = nI (pl g T k') ∧ (wI σ 84 k (nI (nst g k x))).1 84 k' = nI ((strk g i k x).1 k') := fun k' hk' => by
    obtain ⟨s1, s2, s3⟩ := hS k' hk'
    rw [wI_ne (by decide), wI_at]
    refine ⟨s1, ?_⟩
    by_cases e : k' = k
    · subst e; rw [if_pos rfl]; simp only [strk, up_s]
    · rw [if_neg e, s2]; simp only [strk, up_n e]
  have fin : ∀ σ', σ' = wI (wI σ 84 k (nI (nst g k x))) 87 i ((wI σ 84 k (nI (nst g k x))).1 87 i + nI (if nst g k x = 2 then gD g k 3 else 0)) → rc (nI (c + 1)) (fI (if gD g k 2 = 2 then tg g T (c + 1) col (strk g i k x) else 0)) σ' := by
    rintro _ rfl
    refine h _ ((Fr.wI rfl).tr' (Fr.wI rfl)) (by rw [wI_ne (by decide), wI_ne (by decide)]) ⟨fun k' hk' => ?_, fun j hj => ?_⟩
    · obtain ⟨s1, s2⟩ := hst k' hk'
      refine ⟨by rw [wI_ne (by decide)]; exact s1, by rw [wI_ne (by decide)]; exact s2, by rw [wI_ne (by decide), wI_ne (by decide)]; exact (hS k' hk').2.2⟩
    · obtain ⟨s1, s2⟩ := hS2 j hj
      rw [wI_ne (by decide), wI_ne (by decide), wI_at, wI_ne (by decide)]
      refine ⟨fun e => by rw [s1 e]; simp only [strk, up_n e], ?_⟩
      by_cases e : j = i
      · subst e; rw [if_pos rfl, s2, nI_add]; simp only [strk, up_s]
      · rw [if_neg e, s2]; simp only [strk, up_n e]
  have h84 := (hst k hk).2
  have e84 : (strk g i k x).1 k = nst g k x := by simp only [strk, up_s]
  rw [e84] at h84
  unfold vX9_comes_100
  refine ⟨vp_in_nI hk12 (by omega), ?_⟩
  rintro _ rfl
  rw [nI_c (by omega), nI_c (by omega)]
  refine ⟨vp_in_nI hi (by omega), vp_in_nI hk12 (by omega), ?_⟩
  rw [h84, k2, nI_eq2 (by omega) (by omega)]
  refine ⟨fun q => ⟨?_, ?_⟩, fun q => ?_⟩
  · rw [k4, k3, nI_mul, nI_add]; exact vp_in_nI (by omega) (by omega)
  · rw [k4, k3, nI_mul, nI_add, nI_c (by omega), wI_ne (by decide : (79 : Nat) ≠ 84), e3]
    rw [if_pos q] at fin
    exact sX9_comes_134 hM2 hG hx hi hc hcol hk hst (by rw [if_pos q]) fin
  · rw [if_neg q] at fin
    exact sX9_comes_134 hM2 hG hx hi hc hcol hk hst (by rw [if_neg q]; rfl) fin
theorem sX9_comes_43 {post ex : Hp → Prop} {g : Gm} {T col i : Nat} (hG : Gok g) (hi : i < 12) (hcol : col < 12) : ∀ (f c : Nat) (x : Sx) (σ : Hp), c + f = 3 → (∀ k, x.1 k ≤ 2) → MIn σ g → MStE σ g T i x → σ.1 86 i = fI (if x.2.2.1 i = 0 then tg g T c col x else x.2.2.1 i) → (∀ σ', Fr MFc σ σ' → MSt σ' g T (gos g T i col f c x) → (∀ k, (gos g T i col f c x).1 k ≤ 2) → ex σ') → vX9_comes_43 post ex (nI i) (nI col) (f + 1) (nI c) (fI (tg g T c col x)) σ := by
  intro f
  induction f with
  | zero =>
    intro c x σ hc hx hM hS h86 hex
    rw [tg_big hG (by omega)] at h86 ⊢
    rw [vX9_comes_43]; dsimp only
    refine ⟨fun _ => hex σ Fr.rf ⟨hS.1, fun j hj => ⟨?_, (hS.2 j hj).2⟩⟩ hx, fun q => absurd rfl q⟩
    by_cases e : j = i
    · subst e
      rw [h86, gos]
      by_cases h0 : x.2.2.1 j = 0
      · rw [if_pos h0, h0]
      · rw [if_neg h0]
    · exact (hS.2 j hj).1 e
  | succ f ih =>
    intro c x σ hc hx hM hS h86 hex
    rcases ht : tg g T c col x with _ | k
    · rw [ht] at h86
      have hg : gos g T i col (f + 1) c x = x := by
        rw [gos]
        rw [tg_who hG] at ht
        by_cases w0 : who g T c col = 0
        · rw [if_pos w0]
        · rw [if_neg w0] at ht ⊢
          by_cases w1 : x.1 (who g T c col - 1) = 2
          · rw [if_pos w1]
          · rw [if_neg w1] at ht; exact absurd ht w0
      rw [hg] at hex
      rw [vX9_comes_43]; dsimp only
      refine ⟨fun _ => hex σ Fr.rf ⟨hS.1, fun j hj => ⟨?_, (hS.2 j hj).2⟩⟩ hx, fun q => absurd rfl q⟩
      by_cases e : j = i
      · subst e
        rw [h86]
        by_cases h0 : x.2.2.1 j = 0
        · rw [if_pos h0, h0]
        · rw [if_neg h0]
      · exact (hS.2 j hj).1 e
    · have hk := (lastk_yes ht).1
      have hk12 : k < 12 := by have := hG.1; omega
      obtain ⟨d0, d1, d2, d3⟩ := hG.2.1 k hk
      have hw : who g T c col = k + 1 ∧ ¬ x.1 k = 2 := by
        have h1 := tg_who hG T c col x
        rw [ht] at h1
        by_cases w0 : who g T c col = 0
        · rw [if_pos w0] at h1; omega
        · rw [if_neg w0] at h1
          by_cases w1 : x.1 (who g T c col - 1) = 2
          · rw [if_pos w1] at h1; omega
          · rw [if_neg w1] at h1
            rw [← h1] at w1
            exact ⟨h1.symm, w1⟩
      have hg : gos g T i col (f + 1) c x = if gD g k 2 = 2 then gos g T i col f (c + 1) (strk g i k x) else strk g i k x := by
        rw [gos, hw.1, if_neg (by omega), if_neg (by simp only [Nat.add_sub_cancel]; exact hw.2)]
        rfl
      obtain ⟨m1, m2, m3, m4, -⟩ := id hM
      have e2 := m4 k hk 2 (by omega)
      have hx2 := hx k
      obtain ⟨s1, s2, s3⟩ := hS.1 k hk
      rw [vX9_comes_43]; dsimp only
      rw [fI_s]
      refine ⟨fun q => absurd q (by rw [nI_m1 (by omega)]; exact id), fun _ => ?_⟩
      rw [k4, k2, nI_mul, nI_add, nI_c (by omega), e2]
      refine ⟨vp_in_nI (by omega) (by omega), ?_⟩
      rintro _ rfl
      rw [nI_c (by omega)]
      refine ⟨vp_in_nI hk12 (by omega), vp_in_nI hk12 (by omega), ?_⟩
      rintro _ rfl
      have hM2 : MIn (wI σ 85 k (σ.1 85 k + 1)) g := hM.fr (A := MFc) (Fr.wI rfl)
      have go : ∀ y0 : Int32, y0 = nI (nst g k x) → vX9_comes_100 post ex (vX9_comes_43 post ex (nI i) (nI col) (f + 1)) (nI i) (nI col) (nI c) (nI k) (nI (gD g k 2)) y0 (nI k) (wI σ 85 k (σ.1 85 k + 1)) := fun y0 hy => by
        refine sX9_comes_100 (T := T) (x := x) hM2 hG hx hi (by omega) hcol hk (fun k' hk' => ?_) (fun j hj => ?_) hy (fun σ' hF h86' hS' => ?_)
        · obtain ⟨t1, t2, t3⟩ := hS.1 k' hk'
          rw [wI_ne (by decide), wI_ne (by decide), wI_at]
          refine ⟨t1, t2, ?_⟩
          by_cases e : k' = k
          · subst e; rw [if_pos rfl, t3, nI_1]; simp only [strk, up_s]
          · rw [if_neg e, t3]; simp only [strk, up_n e]
        · rw [wI_ne (by decide), wI_ne (by decide)]; exact hS.2 j hj
        · have hn0 : ¬ (strk g i k x).2.2.1 i = 0 := by
            simp only [strk, up_s]
            split <;> omega
          have hv : σ'.1 86 i = fI ((strk g i k x).2.2.1 i) := by
            rw [h86', wI_ne (by decide), h86, ht]
            simp only [strk, up_s]
          have hFr : Fr MFc σ σ' := (Fr.wI rfl).tr' hF
          by_cases hgum : gD g k 2 = 2
          · rw [if_pos hgum]
            refine ih (c + 1) (strk g i k x) σ' (by omega) (strk_le hx) (hM2.fr hF) hS' (by rw [hv, if_neg hn0]) (fun σ2 hF2 hS2 hx2 => hex σ2 (hFr.tr' hF2) (by rw [hg, if_pos hgum]; exact hS2) (by rw [hg, if_pos hgum]; exact hx2))
          · rw [if_neg hgum, fI_0, vX9_comes_43]; dsimp only
            have hend : MSt σ' g T (strk g i k x) := by
              refine ⟨hS'.1, fun j hj => ⟨?_, (hS'.2 j hj).2⟩⟩
              by_cases e : j = i
              · subst e; exact hv
              · exact (hS'.2 j hj).1 e
            exact ⟨fun _ => hex σ' hFr (by rw [hg, if_neg hgum]; exact hend) (by rw [hg, if_neg hgum]; exact strk_le hx), fun q => absurd rfl q⟩
      rw [k1, nI_eq2 (by omega) (by omega)]
      refine ⟨fun q => ⟨vp_in_nI hk12 (by omega), ?_⟩, fun q => go _ ?_⟩
      · rw [wI_ne (by decide), s2, k0, nI_eq2 (by omega) (by omega)]
        refine ⟨fun q2 => go _ ?_, fun q2 => go _ ?_⟩
        · unfold nst; rw [if_pos ⟨q, q2⟩]
        · unfold nst; rw [if_neg (fun h => q2 h.2)]
      · unfold nst; rw [if_neg (fun h => q h.1)]
