theorem MSt.fr {σ σ' : Hp} {g : Gm} {T : Nat} {x : Sx} {A : Nat → Nat → Bool} (h : MSt σ g T x) (hF : Fr A σ σ') (h3 : ∀ b, A 83 b = false := by exact fun _ => rfl) (h4 : ∀ b, A 84 b = false := by exact fun _ => rfl) (h5 : ∀ b, A 85 b = false := by exact fun _ => rfl) (h6 : ∀ b, A 86 b = false := by exact fun _ => rfl) (h7 : ∀ b, A 87 b = false := by exact fun _ => rfl) : MSt σ' g T x := by
  unfold MSt at h ⊢
  rw [hF.r h3, hF.r h4, hF.r h5, hF.r h6, hF.r h7]
  exact h
theorem MBy.fr {σ σ' : Hp} {g : Gm} {T : Nat} {A : Nat → Nat → Bool} (h : MBy σ g T) (hF : Fr A σ σ') (h3 : ∀ b, A 88 b = false := by exact fun _ => rfl) (h4 : ∀ b, A 89 b = false := by exact fun _ => rfl) (h5 : ∀ b, A 90 b = false := by exact fun _ => rfl) : MBy σ' g T := by
  unfold MBy at h ⊢
  rw [hF.r h3, hF.r h4, hF.r h5]
  exact h
theorem MF_of {A : Nat → Nat → Bool} {σ σ' : Hp} (h : Fr A σ σ') (hA : ∀ a b, MF a b = false → A a b = false) : Fr MF σ σ' := h.up hA
theorem MF34_MF : ∀ a b, MF a b = false → MF34 a b = false := fun a _ h => by
  unfold MF at h; unfold MF34
  cases h1 : Nat.ble 83 a
  · rfl
  · rw [h1] at h
    cases h2 : Nat.ble a 84
    · rfl
    · have := Nat.le_of_ble_eq_true h2
      have h3 : Nat.ble a 90 = true := Nat.ble_eq_true_of_le (by omega)
      rw [h3] at h; cases h
theorem MFc_MF : ∀ a b, MF a b = false → MFc a b = false := fun a _ h => by
  unfold MF at h; unfold MFc
  cases h1 : Nat.ble 84 a
  · rfl
  · have := Nat.le_of_ble_eq_true h1
    have h0 : Nat.ble 83 a = true := Nat.ble_eq_true_of_le (by omega)
    rw [h0] at h
    cases h2 : Nat.ble a 87
    · rfl
    · have := Nat.le_of_ble_eq_true h2
      have h3 : Nat.ble a 90 = true := Nat.ble_eq_true_of_le (by omega)
      rw [h3] at h; cases h
theorem MFb_MF : ∀ a b, MF a b = false → MFb a b = false := fun a _ h => by
  unfold MF at h; unfold MFb
  cases h1 : Nat.ble 88 a
  · rfl
  · have := Nat.le_of_ble_eq_true h1
    have h0 : Nat.ble 83 a = true := Nat.ble_eq_true_of_le (by omega)
    rw [h0] at h
    cases h2 : Nat.ble a 90
    · rfl
    · rw [h2] at h; cases h
theorem evb_dr {g : Gm} (hG : Gok g) (t : Nat) {x : Int32} (hx : ∀ c, c < 32 → bt x c = anyb (evb g 1 t c) (gne g)) : (x = 0 → drg g t = 0) ∧ (¬ x = 0 → drg g t = 1) := by
  obtain ⟨-, -, -, -, -, -, -, -, -, g10⟩ := id hG
  constructor
  · rintro rfl
    unfold drg
    rw [if_neg]
    intro h
    obtain ⟨e, he, hp⟩ := anyb_iff.mp h
    obtain ⟨r0, r1, r2⟩ := g10 e he
    have h1 := hx (gE g e 2) (by omega)
    rw [bt_zero] at h1
    have h2 : anyb (evb g 1 t (gE g e 2)) (gne g) = true := anyb_iff.mpr ⟨e, he, by simp only [Bool.and_eq_true, beq_iff_eq] at hp; simp [evb, hp]⟩
    rw [h2] at h1; cases h1
  · intro hne
    unfold drg
    rw [if_pos]
    refine Decidable.byContradiction fun hno => hne (b_ext fun c hc => ?_)
    rw [hx c hc, bt_zero]
    cases h : anyb (evb g 1 t c) (gne g)
    · rfl
    · obtain ⟨e, he, hp⟩ := anyb_iff.mp h
      refine absurd (anyb_iff.mpr ⟨e, he, ?_⟩) hno
      simp only [evb, Bool.and_eq_true, beq_iff_eq] at hp
      simp [hp]
theorem sX9_passes {post : Hp → Prop} {σ : Hp} {g : Gm} {t : Nat} {a : Int32} (hM : MIn σ g) (hG : Gok g) (ht : t < 24) (ha : a = nI t) (hS : MSt σ g t (sim g t)) (hB : MBy σ g t) (h : ∀ σ', Fr MF σ σ' → MSt σ' g (t + 1) (sim g (t + 1)) → MBy σ' g (t + 1) → post σ') : vX9_passes a σ post := by
  subst ha
  refine sX9_turns hM hG ht rfl hS (fun σ1 hF1 hS1 => ?_)
  have hM1 := hM.fr hF1
  obtain ⟨m1, m2, m3, m4, m5, m6, m7, m8, -⟩ := id hM1
  refine ⟨vp_in_nI (by omega : 0 < 2) (by omega), ?_⟩
  refine sX9_toldIn hM1 hG (by omega : 1 < 3) ht rfl rfl (fun x hx => ?_)
  obtain ⟨q0, q1⟩ := evb_dr hG t hx
  rw [k0, nI_c (by omega), m7]
  have go : ∀ asd : Int32, asd = nI (gpu g) - 2 + nI (drg g t) → ∃ fu : Nat, vX9_passes_31 post (fun σ_8 => (∃ fu : Nat, vX9_passes_83 post (fun σ_9 => post σ_9) (nI t) fu (nI 0) σ_8)) (nI t) asd fu (nI 0) σ1 := fun asd hasd => by
    refine ⟨ns g + 1, sX9_passes_31 hG ht (turn_le (sim_le g t)) (fun i hi => (sim_yet t hi).1) hasd (ns g) 0 σ1 (by omega) hM1 hS1 (fun σ2 hF2 hS2 => ?_)⟩
    refine ⟨nd g + 1, sX9_passes_83 hG ht (nd g) 0 σ2 (by omega) (hM1.fr hF2) hS2 ((hB.fr hF1).fr hF2) (fun k hk => absurd hk (Nat.not_lt_zero k)) (fun σ3 hF3 hB3 => ?_)⟩
    exact h σ3 (((hF1.up MF34_MF).tr' (hF2.up MFc_MF)).tr' (hF3.up MFb_MF)) (MSt.fr hS2 hF3) hB3
  refine ⟨fun c => ?_, fun c => ?_⟩
  · rintro _ rfl
    exact go _ (by rw [q0 c])
  · rintro _ rfl
    exact go _ (by rw [q1 c]; rfl)
theorem sX9_lives_76 {post ex : Hp → Prop} {g : Gm} (hG : Gok g) : ∀ (d t : Nat) (σ : Hp), t + d = 24 → MIn σ g → MSt σ g t (sim g t) → MBy σ g t → (∀ σ', Fr MF σ σ' → MSt σ' g 24 (sim g 24) → MBy σ' g 24 → ex σ') → vX9_lives_76 post ex (d + 1) (nI t) σ := by
  intro d
  induction d with
  | zero =>
    intro t σ hd hM hS hB hex
    rw [vX9_lives_76]; dsimp only; rw [k24]
    have : t = 24 := by omega
    subst this
    exact ⟨fun _ => hex σ Fr.rf hS hB, fun c => absurd (nI_le (by omega) (by omega)) c⟩
  | succ d ih =>
    intro t σ hd hM hS hB hex
    rw [vX9_lives_76]; dsimp only; rw [k24]
    refine ⟨fun c => absurd c (nI_ge (by omega) (by omega)), fun _ => ?_⟩
    refine sX9_passes hM hG (by omega) rfl hS hB (fun σ' hF hS' hB' => ?_)
    rintro _ rfl
    rw [nI_1]
    exact ih (t + 1) σ' (by omega) (hM.fr hF) hS' hB' (fun σ2 hF2 h2 h3 => hex σ2 (hF.tr' hF2) h2 h3)
theorem sX9_lives_48 {post ex : Hp → Prop} : ∀ (d n : Nat) (σ : Hp), n + d = 12 → (∀ i, i < n → σ.1 86 i = -1 ∧ σ.1 87 i = 0) → (∀ σ', Fr (fun a _ => Nat.ble 86 a && Nat.ble a 87) σ σ' → (∀ i, i < 12 → σ'.1 86 i = -1 ∧ σ'.1 87 i = 0) → ex σ') → vX9_lives_48 post ex (d + 1) (nI n) σ := by
  intro d
  induction d with
  | zero =>
    intro n σ hd hN hex
    rw [vX9_lives_48]; dsimp only; rw [k12]
    exact ⟨fun _ => hex σ Fr.rf (fun i hi => hN i (by omega)), fun c => absurd (nI_le (by omega) (by omega)) c⟩
  | succ d ih =>
    intro n σ hd hN hex
    rw [vX9_lives_48]; dsimp only; rw [k12]
    refine ⟨fun c => absurd c (nI_ge (by omega) (by omega)), fun _ => ?_⟩
    rw [nI_c (by omega)]
    refine ⟨vp_in_nI (by omega) (by omega), ?_⟩
    rintro _ rfl
    refine ⟨vp_in_nI (by omega) (by omega), ?_⟩
    rintro _ rfl _ rfl
    rw [nI_1]
    refine ih (n + 1) _ (by omega) (fun i hi => ?_) (fun σ2 hF2 h2 => hex σ2 (((Fr.wI rfl).tr' (Fr.wI rfl)).tr' hF2) h2)
    simp (disch := decide) only [wI_ne, wI_at]
    by_cases e : i = n
    · subst e; rw [if_pos rfl, if_pos rfl]; exact ⟨rfl, rfl⟩
    · rw [if_neg e, if_neg e]; exact hN i (by omega)
theorem sX9_lives_2 {post ex : Hp → Prop} {g : Gm} (hG : Gok g) : ∀ (d n : Nat) (σ : Hp), n + d = nd g → MIn σ g → (∀ k, k < n → σ.1 83 k = nI (gD g k 1) ∧ σ.1 84 k = 0 ∧ σ.1 85 k = 0) → (∀ σ', Fr (fun a _ => Nat.ble 83 a && Nat.ble a 85) σ σ' → (∀ k, k < nd g → σ'.1 83 k = nI (gD g k 1) ∧ σ'.1 84 k = 0 ∧ σ'.1 85 k = 0) → ex σ') → vX9_lives_2 post ex (d + 1) (nI n) σ := by
  obtain ⟨g1, -⟩ := id hG
  intro d
  induction d with
  | zero =>
    intro n σ hd hM hN hex
    rw [vX9_lives_2]; dsimp only; rw [hM.1]
    exact ⟨fun _ => hex σ Fr.rf (fun i hi => hN i (by omega)), fun c => absurd (nI_le (by omega) (by omega)) c⟩
  | succ d ih =>
    intro n σ hd hM hN hex
    have e1 := hM.2.2.2.1 n (by omega) 1 (by omega)
    rw [vX9_lives_2]; dsimp only; rw [hM.1]
    refine ⟨fun c => absurd c (nI_ge (by omega) (by omega)), fun _ => ?_⟩
    rw [k4, k1, nI_mul, nI_add, nI_c (by omega), nI_c (by omega), e1]
    refine ⟨vp_in_nI (by omega) (by omega), vp_in_nI (by omega) (by omega), ?_⟩
    rintro _ rfl
    refine ⟨vp_in_nI (by omega) (by omega), ?_⟩
    rintro _ rfl
    refine ⟨vp_in_nI (by omega) (by omega), ?_⟩
    rintro _ rfl _ rfl
    rw [nI_add]
    have hF : Fr (fun a _ => Nat.ble 83 a && Nat.ble a 85) σ (wI (wI (wI σ 83 n (nI (gD g n 1))) 84 n 0) 85 n 0) := ((Fr.wI rfl).tr' (Fr.wI rfl)).tr' (Fr.wI rfl)
    refine ih (n + 1) _ (by omega) (hM.fr hF) (fun i hi => ?_) (fun σ2 hF2 h2 => hex σ2 (hF.tr' hF2) h2)
    simp (disch := decide) only [wI_ne, wI_at]
    by_cases e : i = n
    · subst e; rw [if_pos rfl, if_pos rfl, if_pos rfl]; exact ⟨rfl, rfl, rfl⟩
    · rw [if_neg e, if_neg e, if_neg e]; exact hN i (by omega)
theorem MFd_MF : ∀ a b, MF a b = false → (fun a (_ : Nat) => Nat.ble 83 a && Nat.ble a 85) a b = false := fun a _ h => by
  unfold MF at h
  show (Nat.ble 83 a && Nat.ble a 85) = false
  cases h1 : Nat.ble 83 a
  · rfl
  · rw [h1] at h
    cases h2 : Nat.ble a 85
    · rfl
    · have := Nat.le_of_ble_eq_true h2
      have h3 : Nat.ble a 90 = true := Nat.ble_eq_true_of_le (by omega)
      rw [h3] at h; cases h
theorem MFe_MF : ∀ a b, MF a b = false → (fun a (_ : Nat) => Nat.ble 86 a && Nat.ble a 87) a b = false := fun a _ h => by
  unfold MF at h
  show (Nat.ble 86 a && Nat.ble a 87) = false
  cases h1 : Nat.ble 86 a
  · rfl
  · have := Nat.le_of_ble_eq_true h1
    have h0 : Nat.ble 83 a = true := Nat.ble_eq_true_of_le (by omega)
    rw [h0] at h
    cases h2 : Nat.ble a 87
    · rfl
    · have := Nat.le_of_ble_eq_true h2
      have h3 : Nat.ble a 90 = true := Nat.ble_eq_true_of_le (by omega)
      rw [h3] at h; cases h
/-- what the reference knows behind all ticks -/
def MOut (σ : Hp) (g : Gm) : Prop := MSt σ g 24 (sim g 24) ∧ MBy σ g 24
theorem sX9_lives {post : Hp → Prop} {σ : Hp} {g : Gm} (hM : MIn σ g) (hG : Gok g) (h : ∀ σ', Fr MF σ σ' → MOut σ' g → post σ') : vX9_lives σ post := by
  refine ⟨nd g + 1, sX9_lives_2 hG (nd g) 0 σ (by omega) hM (fun k hk => absurd hk (Nat.not_lt_zero k)) (fun σ1 hF1 h1 => ?_)⟩
  refine ⟨12 + 1, sX9_lives_48 12 0 σ1 (by omega) (fun k hk => absurd hk (Nat.not_lt_zero k)) (fun σ2 hF2 h2 => ?_)⟩
  refine ⟨24 + 1, sX9_lives_76 hG 24 0 σ2 (by omega) ((hM.fr hF1).fr hF2) ⟨fun k hk => ?_, fun i hi => ?_⟩ (fun t ht => absurd ht (Nat.not_lt_zero t)) (fun σ3 hF3 hS3 hB3 => h σ3 (((hF1.up MFd_MF).tr' (hF2.up MFe_MF)).tr' hF3) ⟨hS3, hB3⟩)⟩
  · obtain ⟨a1, a2, a3⟩ := h1 k hk
    have hd := (hG.2.1 k hk).2.1
    rw [hF2.i rfl, hF2.i rfl, hF2.i rfl, a1, a2, a3]
    refine ⟨?_, rfl, rfl⟩
    unfold pl
    rw [gnb, Nat.add_zero, Nat.mod_eq_of_lt hd]
  · obtain ⟨a1, a2⟩ := h2 i hi
    rw [a1, a2]
    exact ⟨rfl, rfl⟩
