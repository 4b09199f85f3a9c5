def MFh : Nat → Nat → Bool := fun a _ => Nat.beq a 78
theorem sX9_usual_2 {post ex : Hp → Prop} : ∀ (d n : Nat) (σ : Hp), n + d = 3 → (∀ c, c < n → σ.1 78 c = 1) → (∀ σ', Fr MFh σ σ' → (∀ c, c < 3 → σ'.1 78 c = 1) → ex σ') → vX9_usual_2 post ex (d + 1) (nI n) σ := by
  intro d
  induction d with
  | zero =>
    intro n σ hd hN hex
    rw [vX9_usual_2]; dsimp only; rw [k3]
    exact ⟨fun _ => hex σ Fr.rf (fun i hi => hN i (by omega)), fun c => absurd (nI_le (by omega) (by omega)) c⟩
  | succ d ih =>
    intro n σ hd hN hex
    rw [vX9_usual_2]; dsimp only; rw [k3]
    refine ⟨fun c => absurd c (nI_ge (by omega) (by omega)), fun _ => ?_⟩
    rw [nI_c (by omega)]
    refine ⟨vp_in_nI (by omega) (by omega), ?_⟩
    rintro _ rfl _ rfl
    rw [nI_1]
    refine ih (n + 1) _ (by omega) (fun i hi => ?_) (fun σ2 hF2 h2 => hex σ2 ((Fr.wI rfl).tr' hF2) h2)
    rw [wI_at]
    by_cases e : i = n
    · subst e; rw [if_pos rfl]
    · rw [if_neg e]; exact hN i (by omega)
theorem sX9_usual {post : Hp → Prop} {σ : Hp} (h : ∀ σ', Fr MFh σ σ' → (∀ c, c < 3 → σ'.1 78 c = 1) → post σ') : vX9_usual σ post := ⟨3 + 1, sX9_usual_2 3 0 σ (by omega) (fun c hc => absurd hc (Nat.not_lt_zero c)) h⟩
def spd (B : Nat → Nat) (c : Nat) : Int32 := if vl B 0 c 0 = 0 then nI (vl B 0 c 1) else -(nI (vl B 0 c 1))
def dirI (v : Nat) : Int32 := if v = 0 then 1 else -1
theorem dir_mul : ∀ v, v < 4 → (1 : Int32) * nI v = nI v ∧ (-1 : Int32) * nI v = -(nI v) := by decide +kernel
theorem sX9_readsChains_15 {post : Int32 → Hp → Prop} {ex : Hp → Prop} {n : Nat} {B : Nat → Nat} : ∀ (d i : Nat) (w : Int32) (σ : Hp), i + d = n → MTx σ 0 n B → (∀ p, p < i → bad B 0 p = false) → (i % 3 = 1 → w = dirI (vl B 0 (i / 3) 0)) → (∀ c, c < 3 → σ.1 78 c = if 3 * c + 1 < i then spd B c else 1) →
    (∀ σ', Fr MFh σ σ' → (∀ p, p < n → bad B 0 p = false) → (∀ c, c < 3 → σ'.1 78 c = if 3 * c + 1 < n then spd B c else 1) → ex σ') → (∀ σ' p, Fr MFh σ σ' → p < n → bad B 0 p = true → (∀ j, j < p → bad B 0 j = false) → (∀ c, c < 3 → σ'.1 78 c = 1) → post (nI p) σ') → vX9_readsChains_15 post ex (nI n) (d + 1) w (nI i) σ := by
  intro d
  induction d with
  | zero =>
    intro i w σ hd hT hb hw hc hex hpo
    have hn : n ≤ 8 := hT.2.1
    rw [vX9_readsChains_15]; dsimp only
    have : i = n := by omega
    subst this
    exact ⟨fun _ => hex σ Fr.rf hb hc, fun c => absurd (nI_le (by omega) (by omega)) c⟩
  | succ d ih =>
    intro i w σ hd hT hb hw hc hex hpo
    have hn : n ≤ 8 := hT.2.1
    obtain ⟨b1, b2⟩ := hT.2.2 i (by omega)
    rw [show 60 * 0 + i = i by omega] at b1
    rw [vX9_readsChains_15]; dsimp only
    refine ⟨fun c => absurd c (nI_ge (by omega) (by omega)), fun _ => ?_⟩
    rw [k3, nI_rem (by omega) (by omega) (by omega), nI_c (by omega), b1]
    refine ⟨vp_in_nI (by omega) (by omega), ?_⟩
    rintro _ rfl _ rfl
    have hbad : bad B 0 i = if i % 3 = 2 then B i != 59 else (sg 0 (i % 3) (B i) == 0) := by
      unfold bad
      simp only [wd]
      simp
    have wrong : ∀ x2 : Int32, bad B 0 i = true → vX9_readsChains_86 post ex (vX9_readsChains_15 post ex (nI n) (d + 1)) (nI n) x2 (nI i) (nI (i % 3)) (-9) σ := by
      intro x2 hbi
      unfold vX9_readsChains_86
      refine ⟨fun _ => ?_, fun q => absurd rfl q⟩
      exact sX9_usual (fun σ' hF h1 => hpo σ' i hF (by omega) hbi hb h1)
    have hb' : bad B 0 i = false → ∀ p, p < i + 1 → bad B 0 p = false := fun hbi p hp => by
      by_cases e : p = i
      · subst e; exact hbi
      · exact hb p (by omega)
    -- a sign of direction, a figure, a semicolon that goes on
    have s0 : ∀ v : Nat, i % 3 = 0 → bad B 0 i = false → sg 0 0 (B i) = v + 1 → vX9_readsChains_86 post ex (vX9_readsChains_15 post ex (nI n) (d + 1)) (nI n) w (nI i) (nI (i % 3)) (dirI v) σ := by
      intro v h3 hbi hs
      have hne : ¬ dirI v = -9 := by unfold dirI; split <;> decide
      unfold vX9_readsChains_86
      refine ⟨fun q => absurd q hne, fun _ => ⟨fun _ => ?_, fun q => absurd (by rw [h3]; rfl) q⟩⟩
      unfold vX9_readsChains_112
      rw [k1, nI_eq2 (by omega) (by omega)]
      refine ⟨fun q => absurd q (by omega), fun _ => ?_⟩
      rintro _ rfl
      rw [nI_add]
      refine ih (i + 1) _ σ (by omega) hT (hb' hbi) (fun _ => ?_) (fun c hc3 => ?_) hex hpo
      · show dirI v = dirI (sg 0 0 (B ((i + 1) / 3 * 3 + 0)) - 1)
        rw [show (i + 1) / 3 * 3 + 0 = i by omega, hs]; rfl
      · rw [hc c hc3]
        by_cases e : 3 * c + 1 < i
        · rw [if_pos e, if_pos (by omega)]
        · rw [if_neg e, if_neg (by omega)]
    refine ⟨fun q0 => ?_, fun q0 => ?_⟩
    · rw [k0, nI_eq2 (by omega) (by omega)] at q0
      rw [k114, k108, nI_eq2 (by omega) (by omega), nI_eq2 (by omega) (by omega)]
      refine ⟨fun q => ?_, fun q => ⟨fun q2 => ?_, fun q2 => ?_⟩⟩
      · have hs : sg 0 0 (B i) = 0 + 1 := by simp [sg, q]
        exact s0 0 q0 (by rw [hbad, if_neg (by omega), q0, hs]; rfl) hs
      · have hs : sg 0 0 (B i) = 1 + 1 := by simp [sg, q2]
        exact s0 1 q0 (by rw [hbad, if_neg (by omega), q0, hs]; rfl) hs
      · have hs : sg 0 0 (B i) = 0 := by simp [sg, q, q2]
        exact wrong w (by rw [hbad, if_neg (by omega), q0, hs]; rfl)
    · rw [k0, nI_eq2 (by omega) (by omega)] at q0
      rw [k1, nI_eq2 (by omega) (by omega)]
      refine ⟨fun q1 => ?_, fun q1 => ?_⟩
      · refine sX9_figureOf (b := B i) (lo := 0) (hi := 3) rfl b2 rfl rfl (by omega) (by omega) (fun v hs => ?_) (fun hs => ?_)
        · have hs1 : sg 0 1 (B i) = v + 1 := hs
          have hv4 : v < 4 := by unfold fig at hs; split at hs <;> omega
          have hvl : vl B 0 (i / 3) 1 = v := by
            show sg 0 1 (B (i / 3 * 3 + 1)) - 1 = v
            rw [show i / 3 * 3 + 1 = i by omega, hs1]; rfl
          have hbi : bad B 0 i = false := by rw [hbad, if_neg (by omega), q1, hs1]; rfl
          rw [Nat.add_zero]
          unfold vX9_readsChains_86
          rw [nI_m9 (by omega)]
          refine ⟨False.elim, fun _ => ⟨fun q => absurd q (by rw [k0, nI_eq2 (by omega) (by omega)]; omega), fun _ => ?_⟩⟩
          unfold vX9_readsChains_112
          rw [k1, nI_eq2 (by omega) (by omega), k3, nI_div (by omega) (by omega) (by omega), nI_c (by omega)]
          refine ⟨fun _ => ⟨vp_in_nI (by omega) (by omega), ?_⟩, fun q => absurd q1 q⟩
          rintro _ rfl _ rfl
          rw [nI_add]
          refine ih (i + 1) _ _ (by omega) (hT.fr (A := MFh) (Fr.wI rfl)) (hb' hbi) (fun q => absurd q (by omega)) (fun c hc3 => ?_) (fun σ2 hF2 => hex σ2 ((Fr.wI rfl).tr' hF2)) (fun σ2 p hF2 => hpo σ2 p ((Fr.wI rfl).tr' hF2))
          rw [wI_at, hw q1]
          by_cases e : c = i / 3
          · subst e
            rw [if_pos rfl, if_pos (by omega)]
            unfold spd dirI
            rw [hvl]
            split
            · exact (dir_mul v hv4).1
            · exact (dir_mul v hv4).2
          · rw [if_neg e, hc c hc3]
            by_cases e : 3 * c + 1 < i
            · rw [if_pos e, if_pos (by omega)]
            · rw [if_neg e, if_neg (by omega)]
        · exact wrong w (by rw [hbad, if_neg (by omega), q1, show sg 0 1 (B i) = 0 from hs]; rfl)
      · unfold vX9_between
        rw [k59, nI_eq2 (by omega) (by omega)]
        refine ⟨fun q => ?_, fun q => wrong w (by rw [hbad, if_pos (by omega)]; simp [q])⟩
        have hbi : bad B 0 i = false := by rw [hbad, if_pos (by omega), q]; rfl
        unfold vX9_readsChains_86
        refine ⟨fun q => absurd q (by decide), fun _ => ⟨fun q => absurd q (by rw [k0, nI_eq2 (by omega) (by omega)]; omega), fun _ => ?_⟩⟩
        unfold vX9_readsChains_112
        rw [k1, nI_eq2 (by omega) (by omega)]
        refine ⟨fun q => absurd q (by omega), fun _ => ?_⟩
        rintro _ rfl
        rw [nI_add]
        refine ih (i + 1) _ σ (by omega) hT (hb' hbi) (fun q => absurd q (by omega)) (fun c hc3 => ?_) hex hpo
        rw [hc c hc3]
        by_cases e : 3 * c + 1 < i
        · rw [if_pos e, if_pos (by omega)]
        · rw [if_neg e, if_neg (by omega)]
theorem sX9_readsChains {post : Int32 → Hp → Prop} {σ : Hp} {n : Nat} {B : Nat → Nat} (hT : MTx σ 0 n B) (h : ∀ σ', Fr MFh σ σ' → (∀ c, c < 3 → σ'.1 78 c = spI B n c) → post (fltI B 0 n) σ') : vX9_readsChains σ post := by
  have hn : n ≤ 8 := hT.2.1
  unfold vX9_readsChains
  refine sX9_usual (fun σ1 hF1 h1 => ?_)
  refine ⟨vp_in_nI (by omega : 0 < 3) (by omega), ?_⟩
  rw [k0, nI_c (by omega), hF1.i rfl, hT.1]
  rintro _ rfl
  refine ⟨n + 1, sX9_readsChains_15 n 0 _ _ (by omega) (hT.fr hF1) (fun p hp => absurd hp (Nat.not_lt_zero p)) (fun q => absurd q (by omega)) (fun c hc => by rw [if_neg (by omega)]; exact h1 c hc) (fun σ' hF hb hc => ?_) (fun σ' p hF hp hbp hb hc => ?_)⟩
  · rw [← k0, nI_le0 (by omega), k3, k2, nI_rem (by omega) (by omega) (by omega), nI_eq2 (by omega) (by omega)]
    have good : (n = 0 ∨ n % 3 = 2) → post (-1) σ' := fun he => by
      obtain ⟨e1, e2, e3⟩ := flt_end (t := 0) hb he
      rw [← e2]
      refine h σ' (hF1.tr' hF) (fun c hc3 => ?_)
      rw [hc c hc3]
      unfold spI
      rw [e1]
      show _ = if c < (n + 1) / 3 then spd B c else 1
      by_cases e : 3 * c + 1 < n
      · rw [if_pos e, if_pos (by omega)]
      · rw [if_neg e, if_neg (by omega)]
    refine ⟨fun q => good (Or.inl q), fun q => ⟨fun q2 => good (Or.inr q2), fun q2 => ?_⟩⟩
    refine sX9_usual (fun σ2 hF2 h2 => ?_)
    obtain ⟨e1, e2, e3⟩ := flt_cut (t := 0) hb (by rintro (a | a); exact q a; exact q2 a)
    rw [← e2]
    refine h σ2 ((hF1.tr' hF).tr' hF2) (fun c hc3 => ?_)
    rw [h2 c hc3]
    unfold spI
    rw [e1, if_neg (Nat.not_lt_zero c)]
  · obtain ⟨e1, e2, e3⟩ := flt_at hp hbp hb
    rw [← e2]
    refine h σ' (hF1.tr' hF) (fun c hc3 => ?_)
    rw [hc c hc3]
    unfold spI
    rw [e1, if_neg (Nat.not_lt_zero c)]
