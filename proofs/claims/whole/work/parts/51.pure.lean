/-! ===== bounds of the picture ===== -/
theorem gos_hit {g : Gm} {T i col k : Nat} : ∀ (f c : Nat) (x : Sx), (gos g T i col f c x).2.1 k ≤ x.2.1 k + if c ≤ gD g k 0 then 1 else 0
  | 0, c, x => by rw [gos]; omega
  | f + 1, c, x => by
    rw [gos]
    split
    · omega
    · rename_i hw
      split
      · omega
      · have hy := lastk_yes (p := fun k => gD g k 0 == c && pl g T k == col) (n := nd g) (k := who g T c col - 1) (show who g T c col = who g T c col - 1 + 1 by omega)
        have hc : gD g (who g T c col - 1) 0 = c := by
          have := hy.2
          simp only [Bool.and_eq_true, beq_iff_eq] at this
          exact this.1
        generalize who g T c col - 1 = k' at hc ⊢
        have h1 : (strk g i k' x).2.1 k = if k = k' then x.2.1 k' + 1 else x.2.1 k := rfl
        split
        · have ih := gos_hit (g := g) (T := T) (i := i) (col := col) (k := k) f (c + 1) (strk g i k' x)
          rw [h1] at ih
          by_cases e : k = k'
          · subst e
            rw [if_pos rfl, if_neg (by omega)] at ih
            rw [if_pos (by omega)]; omega
          · rw [if_neg e] at ih
            by_cases h2 : c + 1 ≤ gD g k 0
            · rw [if_pos h2] at ih; rw [if_pos (by omega)]; omega
            · rw [if_neg h2] at ih; omega
        · rw [h1]
          by_cases e : k = k'
          · subst e; rw [if_pos rfl, if_pos (by omega)]; omega
          · rw [if_neg e]; omega
theorem shoot_hit {g : Gm} {t i k : Nat} (x : Sx) : (shoot g t i x).2.1 k ≤ x.2.1 k + 1 := by
  unfold shoot
  split
  · have := gos_hit (g := g) (T := t + 1) (i := i) (col := colq g t i - 2) (k := k) (3 - gS g i 1) (gS g i 1) x
    split at this <;> omega
  · omega
theorem shots_hit {g : Gm} {t k : Nat} (x : Sx) : ∀ n, (shots g t n x).2.1 k ≤ x.2.1 k + fb_ct (fun i => gS g i 0 + gfl g == t) n
  | 0 => by rw [shots]; omega
  | n + 1 => by
    have ih := shots_hit (g := g) (t := t) (k := k) x n
    rw [shots, fb_ct_succ]
    split
    · rename_i h
      have := shoot_hit (g := g) (t := t) (i := n) (k := k) (shots g t n x)
      rw [if_pos (by simp [h])]; omega
    · rename_i h
      rw [if_neg (by simp [h])]; omega
theorem ct_lt {f : Nat → Nat} (T : Nat) : ∀ n, fb_ct (fun i => decide (f i < T)) n + fb_ct (fun i => f i == T) n = fb_ct (fun i => decide (f i < T + 1)) n
  | 0 => rfl
  | n + 1 => by
    have ih := ct_lt (f := f) T n
    rw [fb_ct_succ, fb_ct_succ, fb_ct_succ]
    by_cases h1 : f n < T
    · rw [if_pos (by simp [h1]), if_neg (by simp; omega), if_pos (by simp; omega)]; omega
    · by_cases h2 : f n = T
      · rw [if_neg (by simp; omega), if_pos (by simp [h2]), if_pos (by simp; omega)]; omega
      · rw [if_neg (by simp; omega), if_neg (by simp [h2]), if_neg (by simp; omega)]; omega
theorem sim_hit (g : Gm) (k : Nat) : ∀ T, ghi g T k ≤ fb_ct (fun i => decide (gS g i 0 + gfl g < T)) (ns g)
  | 0 => by
    show 0 ≤ _
    omega
  | T + 1 => by
    have ih := sim_hit g k T
    have h1 := shots_hit (g := g) (t := T) (k := k) (turn g T (sim g T)) (ns g)
    have h2 := ct_lt (f := fun i => gS g i 0 + gfl g) T (ns g)
    show (shots g T (ns g) (turn g T (sim g T))).2.1 k ≤ _
    have h3 : (turn g T (sim g T)).2.1 k = ghi g T k := rfl
    rw [h3] at h1
    omega
theorem ghi_le {g : Gm} (hG : Gok g) (T k : Nat) : ghi g T k ≤ 12 := by
  have h1 := sim_hit g k T
  have h2 := fb_ct_le (fun i => decide (gS g i 0 + gfl g < T)) (ns g)
  have := hG.2.2.2.2.1
  omega
theorem gos_br {g : Gm} (hG : Gok g) {T i col : Nat} : ∀ (f c : Nat) (x : Sx), (gos g T i col f c x).2.2.2 i ≤ x.2.2.2 i + 9 * f
  | 0, c, x => by rw [gos]; omega
  | f + 1, c, x => by
    rw [gos]
    split
    · omega
    · rename_i hw
      split
      · omega
      · have hy := lastk_yes (p := fun k => gD g k 0 == c && pl g T k == col) (n := nd g) (k := who g T c col - 1) (show who g T c col = who g T c col - 1 + 1 by omega)
        have h9 := (hG.2.1 _ hy.1).2.2.2
        generalize who g T c col - 1 = k' at h9 ⊢
        have h1 : (strk g i k' x).2.2.2 i = x.2.2.2 i + if nst g k' x = 2 then gD g k' 3 else 0 := by simp only [strk, up_s]
        have h2 : (if nst g k' x = 2 then gD g k' 3 else 0) ≤ 9 := by split <;> omega
        split
        · have ih := gos_br hG (T := T) (i := i) (col := col) f (c + 1) (strk g i k' x)
          rw [h1] at ih; omega
        · rw [h1]; omega
theorem shoot_br {g : Gm} (hG : Gok g) {t i : Nat} (x : Sx) : (shoot g t i x).2.2.2 i ≤ x.2.2.2 i + 27 := by
  unfold shoot
  split
  · have := gos_br hG (T := t + 1) (i := i) (col := colq g t i - 2) (3 - gS g i 1) (gS g i 1) x
    omega
  · omega
theorem shots_br {g : Gm} (hG : Gok g) {t i : Nat} (x : Sx) : ∀ n, (shots g t n x).2.2.2 i ≤ x.2.2.2 i + 27
  | 0 => by rw [shots]; omega
  | n + 1 => by
    have ih := shots_br hG (t := t) (i := i) x n
    rw [shots]
    split
    · by_cases e : i = n
      · subst e
        have h1 := shoot_br hG (t := t) (i := i) (shots g t i x)
        rw [(shots_other x i (Or.inl (Nat.le_refl i))).2] at h1
        exact h1
      · rw [(shoot_other e).2]; exact ih
    · exact ih
theorem sim_br {g : Gm} (hG : Gok g) (i : Nat) : ∀ T, (sim g T).2.2.2 i ≤ 27
  | 0 => by simp [sim]
  | T + 1 => by
    rw [sim]
    by_cases e : gS g i 0 + gfl g = T
    · have h1 := shots_br hG (t := T) (i := i) (turn g T (sim g T)) (ns g)
      have h2 : (turn g T (sim g T)).2.2.2 i = (sim g T).2.2.2 i := rfl
      rw [h2, (sim_yet T (by omega)).2] at h1
      omega
    · rw [(shots_other _ (ns g) (Or.inr e)).2]
      exact sim_br hG i T
theorem gbr_le {g : Gm} (hG : Gok g) (i : Nat) : gbr g i ≤ 27 := sim_br hG i 24
theorem gscore_le {g : Gm} (hG : Gok g) : gscore g ≤ 324 := by
  have h1 : gscore g ≤ ns g * 27 := fb_sm_bound (fun k _ => gbr_le hG k)
  have := hG.2.2.2.2.1
  omega
theorem gmany_le (g : Gm) : gmany g ≤ ns g := fb_ct_le _ _
theorem gfi_le (g : Gm) : ∀ (T i : Nat), (sim g T).2.2.1 i ≤ nd g
  | 0, i => by simp [sim]
  | T + 1, i => by
    rw [sim]
    have hgos : ∀ (T j col f c : Nat) (x : Sx), (∀ i, x.2.2.1 i ≤ nd g) → ∀ i, (gos g T j col f c x).2.2.1 i ≤ nd g := by
      intro T j col f
      induction f with
      | zero => intro c x h i; exact h i
      | succ f ih =>
        intro c x h i
        rw [gos]
        split
        · exact h i
        · rename_i hw
          split
          · exact h i
          · have hs : ∀ i, (strk g j (who g T c col - 1) x).2.2.1 i ≤ nd g := fun i => by
              have hl : who g T c col ≤ nd g := lastk_le _ _
              simp only [strk, up]
              split
              · split
                · omega
                · exact h _
              · exact h i
            split
            · exact ih _ _ hs i
            · exact hs i
    have hsh : ∀ n, ∀ i, (shots g T n (turn g T (sim g T))).2.2.1 i ≤ nd g := by
      intro n
      induction n with
      | zero => intro i; exact gfi_le g T i
      | succ n ih =>
        intro i
        rw [shots]
        split
        · unfold shoot
          split
          · exact hgos _ _ _ _ _ _ ih i
          · exact ih i
        · exact ih i
    exact hsh (ns g) i
