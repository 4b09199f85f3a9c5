theorem shots_le' {g : Gm} {T i col : Nat} : ∀ (f c : Nat) (x : Sx), (∀ k, x.1 k ≤ 2) → ∀ k, (gos g T i col f c x).1 k ≤ 2
  | 0, c, x, h => h
  | f + 1, c, x, h => by
    rw [gos]
    split
    · exact h
    · split
      · exact h
      · split
        · exact shots_le' f _ _ (strk_le h)
        · exact strk_le h
theorem shoot_le {g : Gm} {t i : Nat} {x : Sx} (h : ∀ k, x.1 k ≤ 2) : ∀ k, (shoot g t i x).1 k ≤ 2 := by
  unfold shoot
  split
  · exact shots_le' _ _ _ h
  · exact h
theorem shots_le {g : Gm} {t : Nat} : ∀ (n : Nat) {x : Sx}, (∀ k, x.1 k ≤ 2) → ∀ k, (shots g t n x).1 k ≤ 2
  | 0, x, h => h
  | n + 1, x, h => by
    rw [shots]
    split
    · exact shoot_le (shots_le n h)
    · exact shots_le n h
theorem turn_le {g : Gm} {t : Nat} {x : Sx} (h : ∀ k, x.1 k ≤ 2) : ∀ k, (turn g t x).1 k ≤ 2 := fun k => by
  simp only [turn]
  split
  · omega
  · exact h k
theorem sim_le (g : Gm) : ∀ (T k : Nat), (sim g T).1 k ≤ 2
  | 0, k => by simp [sim]
  | T + 1, k => by rw [sim]; exact shots_le _ (turn_le (sim_le g T)) k
/-- a shot touches no other shot -/
theorem gos_other {g : Gm} {T i col j : Nat} (hj : j ≠ i) : ∀ (f c : Nat) (x : Sx), (gos g T i col f c x).2.2.1 j = x.2.2.1 j ∧ (gos g T i col f c x).2.2.2 j = x.2.2.2 j
  | 0, c, x => ⟨rfl, rfl⟩
  | f + 1, c, x => by
    rw [gos]
    split
    · exact ⟨rfl, rfl⟩
    · split
      · exact ⟨rfl, rfl⟩
      · split
        · have := gos_other (g := g) (T := T) (col := col) hj f (c + 1) (strk g i (who g T c col - 1) x)
          rw [this.1, this.2]
          simp only [strk, up_n hj]; exact ⟨trivial, trivial⟩
        · simp only [strk, up_n hj]; exact ⟨trivial, trivial⟩
theorem shoot_other {g : Gm} {t i j : Nat} {x : Sx} (hj : j ≠ i) : (shoot g t i x).2.2.1 j = x.2.2.1 j ∧ (shoot g t i x).2.2.2 j = x.2.2.2 j := by
  unfold shoot
  split
  · exact gos_other hj _ _ _
  · exact ⟨rfl, rfl⟩
theorem shots_other {g : Gm} {t j : Nat} (x : Sx) : ∀ (n : Nat), (n ≤ j ∨ gS g j 0 + gfl g ≠ t) → (shots g t n x).2.2.1 j = x.2.2.1 j ∧ (shots g t n x).2.2.2 j = x.2.2.2 j
  | 0, _ => ⟨rfl, rfl⟩
  | n + 1, h => by
    have ih := shots_other (g := g) (t := t) (j := j) x n (h.imp (fun h => by omega) id)
    rw [shots]
    split
    · rename_i ht
      have hj : j ≠ n := by
        rintro rfl
        rcases h with h | h
        · omega
        · exact h ht
      rw [(shoot_other hj).1, (shoot_other hj).2]
      exact ih
    · exact ih
/-- a shot that hasn't come has hit nobody -/
theorem sim_yet {g : Gm} {j : Nat} : ∀ T, T ≤ gS g j 0 + gfl g → (sim g T).2.2.1 j = 0 ∧ (sim g T).2.2.2 j = 0
  | 0, _ => ⟨rfl, rfl⟩
  | T + 1, h => by
    rw [sim]
    have := shots_other (g := g) (t := T) (j := j) (turn g T (sim g T)) (ns g) (Or.inr (by omega))
    rw [this.1, this.2]
    exact sim_yet T (by omega)
theorem sX9_comes {post : Hp → Prop} {σ : Hp} {g : Gm} {t i : Nat} {x : Sx} {a b : Int32} (hM : MIn σ g) (hG : Gok g) (hi : i < ns g) (hx : ∀ k, x.1 k ≤ 2) (h0 : x.2.2.1 i = 0) (hS : MSt σ g (t + 1) x) (ha : a = nI i) (hb : b = nI (colq g t i) - 2) (hq : colq g t i < 20) (h : ∀ σ', Fr MFc σ σ' → MSt σ' g (t + 1) (shoot g t i x) → post σ') : vX9_comes a b σ post := by
  subst ha
  have hi12 : i < 12 := by have := hG.2.2.2.2.1; omega
  obtain ⟨r0, r1, r2⟩ := hG.2.2.2.2.2.1 i hi
  obtain ⟨m1, m2, m3, m4, m5, m6, -⟩ := id hM
  have e1 := m6 i hi 1 (by omega)
  have hbi : b.toInt = (colq g t i : Int) - 2 := by rw [hb, k2, pk_sub_toInt (by omega) (by omega)]; rfl
  unfold vX9_comes
  rw [k3, k1, nI_mul, nI_add, nI_c (by omega), e1]
  refine ⟨vp_in_nI (by omega) (by omega), ?_⟩
  rintro _ rfl
  refine sX9_inB (lo := 0) (hi := 5) rfl rfl (fun q1 q2 => ?_) (fun q => ?_)
  · refine ⟨fun q => absurd q (by decide), fun _ => ?_⟩
    have hb2 : b = nI (colq g t i - 2) := by rw [hb, k2, pk_sub (by omega)]
    refine sX9_target hM hG (T := t + 1) (x := x) (fun k hk => ⟨(hS.1 k hk).1, (hS.1 k hk).2.1⟩) hx (by omega) (by omega : colq g t i - 2 < 12) rfl hb2 ?_
    refine ⟨vp_in_nI hi12 (by omega), ?_⟩
    rintro _ rfl
    rw [nI_c (by omega), hb2]
    have hsh : shoot g t i x = gos g (t + 1) i (colq g t i - 2) (3 - gS g i 1) (gS g i 1) x := by unfold shoot; rw [if_pos (by omega)]
    refine ⟨_, sX9_comes_43 (T := t + 1) hG hi12 (by omega) (3 - gS g i 1) (gS g i 1) x _ (by omega) hx (hM.fr (A := MFc) (Fr.wI rfl)) ⟨fun k hk => ?_, fun j hj => ?_⟩ ?_ (fun σ' hF hS' _ => h σ' ((Fr.wI rfl).tr' hF) (by rw [hsh]; exact hS'))⟩
    · simp (disch := decide) only [wI_ne]; exact hS.1 k hk
    · rw [wI_ne (by decide : (87 : Nat) ≠ 86)]
      exact ⟨fun e => by rw [wI_at, if_neg e]; exact (hS.2 j hj).1, (hS.2 j hj).2⟩
    · rw [wI_at, if_pos rfl, h0, if_pos rfl]
  · refine ⟨fun _ => ⟨vp_in_nI hi12 (by omega), ?_⟩, fun q => absurd rfl q⟩
    rintro _ rfl
    rw [nI_c (by omega)]
    have hsh : shoot g t i x = x := by unfold shoot; rw [if_neg (by omega)]
    refine ⟨1, ?_⟩
    rw [vX9_comes_43]; dsimp only
    refine ⟨fun _ => h _ (Fr.wI rfl) ?_, fun q => absurd rfl q⟩
    rw [hsh]
    refine ⟨fun k hk => ?_, fun j hj => ?_⟩
    · simp (disch := decide) only [wI_ne]; exact hS.1 k hk
    · rw [wI_ne (by decide : (87 : Nat) ≠ 86), wI_at]
      by_cases e : j = i
      · subst e; rw [if_pos rfl, h0]; exact ⟨rfl, (hS.2 j hj).2⟩
      · rw [if_neg e]; exact hS.2 j hj
theorem sX9_passes_31 {post ex : Hp → Prop} {g : Gm} {t : Nat} {x : Sx} {asd : Int32} (hG : Gok g) (ht : t < 24) (hx : ∀ k, x.1 k ≤ 2) (h0 : ∀ i, t ≤ gS g i 0 + gfl g → x.2.2.1 i = 0) (ha : asd = nI (gpu g) - 2 + nI (drg g t)) : ∀ (d i : Nat) (σ : Hp), i + d = ns g → MIn σ g → MSt σ g (t + 1) (shots g t i x) → (∀ σ', Fr MFc σ σ' → MSt σ' g (t + 1) (shots g t (ns g) x) → ex σ') → vX9_passes_31 post ex (nI t) asd (d + 1) (nI i) σ := by
  obtain ⟨g1, g2, g3, g4, g5, g6, g7, g8, -⟩ := id hG
  intro d
  induction d with
  | zero =>
    intro i σ hd hM hS hex
    obtain ⟨m1, m2, -⟩ := id hM
    rw [vX9_passes_31]; dsimp only; rw [m2]
    refine ⟨fun _ => hex σ Fr.rf ?_, fun c => absurd (nI_le (by omega) (by omega)) c⟩
    rw [show ns g = i by omega]; exact hS
  | succ d ih =>
    intro i σ hd hM hS hex
    have hi : i < ns g := by omega
    obtain ⟨m1, m2, m3, m4, m5, m6, m7, m8, -⟩ := id hM
    obtain ⟨r0, r1, r2⟩ := g6 i hi
    have e0 := m6 i hi 0 (by omega)
    simp only [Nat.add_zero] at e0
    have e2 := m6 i hi 2 (by omega)
    have hdr : drg g t ≤ 1 := by unfold drg; split <;> omega
    rw [vX9_passes_31]; dsimp only; rw [m2]
    refine ⟨fun c => absurd c (nI_ge (by omega) (by omega)), fun _ => ?_⟩
    rw [k3, k2, k1, nI_mul, nI_add, nI_c (by omega), nI_c (by omega), nI_c (by omega), e0, e2, m8, nI_add, nI_eq2 (by omega) (by omega)]
    refine ⟨vp_in_nI (by omega) (by omega), vp_in_nI (by omega) (by omega), fun q => ⟨vp_in_nI (by omega) (by omega), ?_⟩, fun q => ?_⟩
    · refine sX9_comes (t := t) (x := shots g t i x) hM hG hi (shots_le _ hx) ?_ hS rfl ?_ (by unfold colq; omega) (fun σ' hF hS' => ?_)
      · rw [(shots_other x i (Or.inl (Nat.le_refl i))).1]
        exact h0 i (by omega)
      · rw [ha]
        unfold colq
        rw [← nI_add, ← nI_add]
        simp only [Int32.sub_eq_add_neg]
        ac_rfl
      · rintro _ rfl
        rw [nI_add]
        refine ih (i + 1) σ' (by omega) (hM.fr hF) ?_ (fun σ2 hF2 h2 => hex σ2 (hF.tr' hF2) h2)
        rw [shots, if_pos q]; exact hS'
    · rintro _ rfl
      rw [nI_add]
      refine ih (i + 1) σ (by omega) hM ?_ hex
      rw [shots, if_neg q]; exact hS
/-- the reference's rows by tick, for the first T ticks, and of tick T for the first n ducks -/
def MBy (σ : Hp) (g : Gm) (T : Nat) : Prop := ∀ t, t < T → ∀ k, k < nd g → σ.1 88 (12 * t + k) = nI (pl g (t + 1) k) ∧ σ.1 89 (12 * t + k) = nI (gst g (t + 1) k) ∧ σ.1 90 (12 * t + k) = nI (ghi g (t + 1) k)
def MFb : Nat → Nat → Bool := fun a _ => Nat.ble 88 a && Nat.ble a 90
theorem sX9_passes_83 {post ex : Hp → Prop} {g : Gm} {t : Nat} (hG : Gok g) (ht : t < 24) : ∀ (d n : Nat) (σ : Hp), n + d = nd g → MIn σ g → MSt σ g (t + 1) (sim g (t + 1)) → MBy σ g t → (∀ k, k < n → σ.1 88 (12 * t + k) = nI (pl g (t + 1) k) ∧ σ.1 89 (12 * t + k) = nI (gst g (t + 1) k) ∧ σ.1 90 (12 * t + k) = nI (ghi g (t + 1) k)) → (∀ σ', Fr MFb σ σ' → MBy σ' g (t + 1) → ex σ') → vX9_passes_83 post ex (nI t) (d + 1) (nI n) σ := by
  obtain ⟨g1, -⟩ := id hG
  intro d
  induction d with
  | zero =>
    intro n σ hd hM hS hB hN hex
    rw [vX9_passes_83]; dsimp only; rw [hM.1]
    refine ⟨fun _ => hex σ Fr.rf (fun t' ht' k hk => ?_), fun c => absurd (nI_le (by omega) (by omega)) c⟩
    by_cases e : t' = t
    · subst e; exact hN k (by omega)
    · exact hB t' (by omega) k hk
  | succ d ih =>
    intro n σ hd hM hS hB hN hex
    have hn : n < nd g := by omega
    obtain ⟨s1, s2, s3⟩ := hS.1 n hn
    rw [vX9_passes_83]; dsimp only; rw [hM.1]
    refine ⟨fun c => absurd c (nI_ge (by omega) (by omega)), fun _ => ?_⟩
    rw [k12, nI_mul, nI_add, nI_c (by omega), nI_c (by omega)]
    refine ⟨vp_in_nI (by omega) (by omega), vp_in_nI (by omega) (by omega), ?_⟩
    rintro _ rfl
    refine ⟨vp_in_nI (by omega) (by omega), vp_in_nI (by omega) (by omega), ?_⟩
    rintro _ rfl
    refine ⟨vp_in_nI (by omega) (by omega), vp_in_nI (by omega) (by omega), ?_⟩
    rintro _ rfl _ rfl
    simp (disch := decide) only [wI_ne]
    rw [s1, s2, s3, nI_1]
    have hF : Fr MFb σ (wI (wI (wI σ 88 (12 * t + n) (nI (pl g (t + 1) n))) 89 (12 * t + n) (nI ((sim g (t + 1)).fst n))) 90 (12 * t + n) (nI ((sim g (t + 1)).snd.fst n))) := ((Fr.wI rfl).tr' (Fr.wI rfl)).tr' (Fr.wI rfl)
    refine ih (n + 1) _ (by omega) (hM.fr hF) ⟨fun k hk => ?_, fun i hi => ?_⟩ (fun t' ht' k hk => ?_) (fun k hk => ?_) (fun σ2 hF2 h2 => hex σ2 (hF.tr' hF2) h2)
    · simp (disch := decide) only [wI_ne]; exact hS.1 k hk
    · simp (disch := decide) only [wI_ne]; exact hS.2 i hi
    · simp (disch := decide) only [wI_ne, wI_at]
      rw [if_neg (by omega), if_neg (by omega), if_neg (by omega)]
      exact hB t' ht' k hk
    · simp (disch := decide) only [wI_ne, wI_at]
      by_cases e : k = n
      · subst e; rw [if_pos rfl, if_pos rfl, if_pos rfl]; exact ⟨rfl, rfl, rfl⟩
      · rw [if_neg (by omega), if_neg (by omega), if_neg (by omega)]
        exact hN k (by omega)
