theorem sX9_readsShots {post : Int32 → Hp → Prop} {σ : Hp} {n : Nat} {B : Nat → Nat} (hT : MTx σ 2 n B) (h : ∀ σ', Fr MFs σ σ' → MSh σ' n B → post (fltI B 2 n) σ') : vX9_readsShots σ post := by
  have hn : n ≤ 47 := hT.2.1
  unfold vX9_readsShots
  rintro _ rfl
  refine ⟨vp_in_nI (by omega : 2 < 3) (by omega), ?_⟩
  rw [k2, nI_c (by omega), wI_ne (by decide), hT.1]
  rintro _ rfl
  refine ⟨n + 1, sX9_readsShots_14 n 0 _ (by omega) (hT.fr (A := MFs) (Fr.wI rfl)) (fun p hp => absurd hp (Nat.not_lt_zero p)) (by rw [wI_at, if_pos rfl]; rfl) (fun p hp => absurd hp (Nat.not_lt_zero p)) (fun σ' hF hb hc hv => ?_) (fun σ' p hF hp hbp hb hc => ?_)⟩
  · rw [nI_le0 (by omega), k4, k3, nI_rem (by omega) (by omega) (by omega), nI_eq2 (by omega) (by omega)]
    have good : (n = 0 ∨ n % 4 = 3) → post (-1) σ' := fun he => by
      obtain ⟨e1, e2, e3⟩ := flt_end (t := 2) hb he
      rw [← e2]
      refine h σ' ((Fr.wI rfl).tr' hF) ⟨by rw [e1]; exact hc, fun i hi j hj => ?_⟩
      rw [e1] at hi
      have hi : i < (n + 1) / 4 := hi
      have := hv (4 * i + j) (by omega) (by omega)
      rw [show (4 * i + j) / 4 = i by omega, show (4 * i + j) % 4 = j by omega] at this
      exact this
    refine ⟨fun q => good (Or.inl q), fun q => ⟨fun q2 => good (Or.inr q2), fun q2 => ?_⟩⟩
    rintro _ rfl
    obtain ⟨e1, e2, e3⟩ := flt_cut (t := 2) hb (by rintro (a | a); exact q a; exact q2 a)
    rw [← e2]
    refine h _ (((Fr.wI rfl).tr' hF).tr' (Fr.wI rfl)) ⟨by rw [e1, wI_at, if_pos rfl]; rfl, fun i hi => ?_⟩
    rw [e1] at hi; exact absurd hi (Nat.not_lt_zero i)
  · obtain ⟨e1, e2, e3⟩ := flt_at hp hbp hb
    rw [← e2]
    refine h σ' ((Fr.wI rfl).tr' hF) ⟨by rw [e1, hc]; rfl, fun i hi => ?_⟩
    rw [e1] at hi; exact absurd hi (Nat.not_lt_zero i)
/-- what 'readsDucks' writes -/
def MFk : Nat → Nat → Bool := fun a b => Nat.beq a 79 || (Nat.beq a 71 && Nat.beq b 8)
def MDk (σ : Hp) (n : Nat) (B : Nat → Nat) : Prop := σ.1 71 8 = nI (its B 1 n) ∧ ∀ i, i < its B 1 n → ∀ j, j < 4 → σ.1 79 (4 * i + j) = nI (dv B i j)
theorem vl_le {B : Nat → Nat} {t i s : Nat} (h : B (i * (wd t + 1) + s) < 256) : vl B t i s ≤ 23 := by
  have := sg_le t s _ h
  unfold vl; omega
theorem sX9_isTaken_4 {post : Int32 → Hp → Prop} {ex : Int32 → Hp → Prop} {σ : Hp} {B : Nat → Nat} {one : Nat} (h12 : one < 12) (hv : ∀ j, j ≤ one → σ.1 79 (4 * j) = nI (vl B 1 j 0) ∧ σ.1 79 (4 * j + 1) = nI (vl B 1 j 1) ∧ vl B 1 j 0 ≤ 23 ∧ vl B 1 j 1 ≤ 23) (hex : ex (if tk B one = true then 1 else 0) σ) : ∀ (d j : Nat), j + d = one → vX9_isTaken_4 post ex (nI one) (d + 1) (if anyb (fun j => vl B 1 j 0 == vl B 1 one 0 && vl B 1 j 1 == vl B 1 one 1) j = true then 1 else 0) (nI j) σ := by
  intro d
  induction d with
  | zero =>
    intro j hd
    have : j = one := by omega
    subst this
    rw [vX9_isTaken_4]; dsimp only
    exact ⟨fun _ => hex, fun c => absurd (nI_le (by omega) (by omega)) c⟩
  | succ d ih =>
    intro j hd
    have ih := ih (j + 1) (by omega)
    obtain ⟨a1, a2, a3, a4⟩ := hv j (by omega)
    obtain ⟨b1, b2, b3, b4⟩ := hv one (by omega)
    rw [vX9_isTaken_4]; dsimp only
    refine ⟨fun c => absurd c (nI_ge (by omega) (by omega)), fun _ => ?_⟩
    rw [anyb] at ih
    cases hh : anyb (fun j => vl B 1 j 0 == vl B 1 one 0 && vl B 1 j 1 == vl B 1 one 1) j
    · rw [hh, Bool.false_or] at ih
      refine ⟨fun _ => ?_, fun q => absurd rfl q⟩
      simp (disch := omega) only [k4, k1, nI_mul, nI_add, nI_in2, nI_c, a1, a2, b1, b2, nI_eq2]
      refine ⟨by omega, by omega, fun c0 => ⟨by omega, by omega, fun c1 => ?_, fun c1 => ?_⟩, fun c0 => ?_⟩
      · rintro _ rfl
        rw [if_pos (by simp [c0, c1])] at ih; exact ih
      · rintro _ rfl
        rw [if_neg (by simp [c1])] at ih; exact ih
      · rintro _ rfl
        rw [if_neg (by simp [c0])] at ih; exact ih
    · rw [hh, Bool.true_or, if_pos rfl] at ih
      refine ⟨fun q => absurd q (by decide), fun _ => ?_⟩
      rintro _ rfl
      rw [nI_1]; exact ih
theorem sX9_isTaken {post : Int32 → Hp → Prop} {σ : Hp} {B : Nat → Nat} {one : Nat} {a : Int32} (ha : a = nI one) (h12 : one < 12) (hv : ∀ j, j ≤ one → σ.1 79 (4 * j) = nI (vl B 1 j 0) ∧ σ.1 79 (4 * j + 1) = nI (vl B 1 j 1) ∧ vl B 1 j 0 ≤ 23 ∧ vl B 1 j 1 ≤ 23) (h1 : tk B one = true → post 1 σ) (h0 : tk B one = false → post 0 σ) : vX9_isTaken a σ post := by
  subst ha
  refine ⟨one + 1, sX9_isTaken_4 h12 hv ?_ one 0 (by omega)⟩
  cases h : tk B one
  · exact ⟨Or.inl rfl, h0 h⟩
  · exact ⟨Or.inr rfl, h1 h⟩
theorem sX9_readsDucks_14 {post : Int32 → Hp → Prop} {ex : Hp → Prop} {n : Nat} {B : Nat → Nat} : ∀ (d i : Nat) (σ : Hp), i + d = n → MTx σ 1 n B → (∀ p, p < i → bad B 1 p = false) → σ.1 71 8 = nI ((i + 1) / 5) → (∀ p, p < i → p % 5 < 4 → σ.1 79 (4 * (p / 5) + p % 5) = nI (dv B (p / 5) (p % 5))) →
    (∀ σ', Fr MFk σ σ' → (∀ p, p < n → bad B 1 p = false) → σ'.1 71 8 = nI ((n + 1) / 5) → (∀ p, p < n → p % 5 < 4 → σ'.1 79 (4 * (p / 5) + p % 5) = nI (dv B (p / 5) (p % 5))) → ex σ') → (∀ σ' p, Fr MFk σ σ' → p < n → bad B 1 p = true → (∀ j, j < p → bad B 1 j = false) → σ'.1 71 8 = 0 → post (nI p) σ') → vX9_readsDucks_14 post ex (nI n) (d + 1) (nI i) σ := by
  intro d
  induction d with
  | zero =>
    intro i σ hd hT hb hc hv hex hpo
    have hn : n ≤ 59 := hT.2.1
    rw [vX9_readsDucks_14]; dsimp only
    have : i = n := by omega
    subst this
    exact ⟨fun _ => hex σ Fr.rf hb hc hv, fun c => absurd (nI_le (by omega) (by omega)) c⟩
  | succ d ih =>
    intro i σ hd hT hb hc hv hex hpo
    have hn : n ≤ 59 := hT.2.1
    obtain ⟨b1, b2⟩ := hT.2.2 i (by omega)
    have hsl := sg_le 1 (i % 5) (B i) b2
    rw [vX9_readsDucks_14]; dsimp only
    refine ⟨fun c => absurd c (nI_ge (by omega) (by omega)), fun _ => ?_⟩
    rw [k5, nI_rem (by omega) (by omega) (by omega), nI_div (by omega) (by omega) (by omega), k4, k60, nI_add]
    rintro _ rfl
    rw [nI_mul, nI_add, nI_c (by omega), nI_c (by omega), nI_le2 (by omega) (by omega)]
    refine ⟨vp_in_nI (by omega) (by omega), ?_⟩
    have hbad : bad B 1 i = if i % 5 = 4 then B i != 59 else (sg 1 (i % 5) (B i) == 0 || (i % 5 == 1 && tk B (i / 5))) := by
      unfold bad
      simp only [wd]
      simp
    have step : ∀ σ1 : Hp, Fr MFk σ σ1 → bad B 1 i = false → σ1.1 71 8 = nI ((i + 1) / 5) → (∀ p, p < i + 1 → p % 5 < 4 → σ1.1 79 (4 * (p / 5) + p % 5) = nI (dv B (p / 5) (p % 5))) → vX9_readsDucks_93 post ex (vX9_readsDucks_14 post ex (nI n) (d + 1)) (nI n) (nI i) (nI (i % 5)) σ1 := by
      intro σ1 hF hbi h10 hv1
      have hb' : ∀ p, p < i + 1 → bad B 1 p = false := fun p hp => by
        by_cases e : p = i
        · subst e; exact hbi
        · exact hb p (by omega)
      unfold vX9_readsDucks_93
      rw [k3, nI_eq2 (by omega) (by omega)]
      refine ⟨fun q => ?_, fun q => ?_⟩
      · rintro _ rfl _ rfl
        rw [nI_1]
        have hF2 : Fr MFk σ (wI σ1 71 8 (σ1.1 71 8 + 1)) := hF.tr' (Fr.wI rfl)
        refine ih (i + 1) _ (by omega) (hT.fr hF2) hb' ?_ (fun p hp hp2 => ?_) (fun σ2 hF3 => hex σ2 (hF2.tr' hF3)) (fun σ2 p hF3 => hpo σ2 p (hF2.tr' hF3))
        · rw [wI_at, if_pos rfl, h10, nI_1]; congr 1; omega
        · rw [wI_ne (by decide)]; exact hv1 p hp hp2
      · rintro _ rfl _ rfl
        rw [nI_1]
        have hF2 : Fr MFk σ (wI σ1 71 8 (σ1.1 71 8 + 0)) := hF.tr' (Fr.wI rfl)
        refine ih (i + 1) _ (by omega) (hT.fr hF2) hb' ?_ (fun p hp hp2 => ?_) (fun σ2 hF3 => hex σ2 (hF2.tr' hF3)) (fun σ2 p hF3 => hpo σ2 p (hF2.tr' hF3))
        · rw [wI_at, if_pos rfl, h10, k0, nI_add]; congr 1; omega
        · rw [wI_ne (by decide)]; exact hv1 p hp hp2
    have wrong : ∀ σ1 : Hp, Fr MFk σ σ1 → bad B 1 i = true → ∀ σ_10 : Hp, σ_10 = wI σ1 71 8 0 → post (nI i) σ_10 := by
      rintro σ1 hF hbi _ rfl
      exact hpo _ i (hF.tr' (Fr.wI rfl)) (by omega) hbi hb (by rw [wI_at, if_pos rfl])
    refine sX9_duckOf (k := i % 5) (b := B i) b1 b2 rfl (by omega) (fun v hk hs => ?_) (fun hk hs => ?_) (fun hk hs => ?_) (fun hk hs => ?_)
    · have hr : v + (if i % 5 = 3 then 1 else 0) < 2147483648 := by split <;> omega
      rw [nI_m9 hr]
      refine ⟨False.elim, fun _ => ⟨fun q => absurd q (by omega), fun _ => ⟨vp_in_nI (by omega) (by omega), ?_⟩⟩⟩
      rintro _ rfl
      have hv1 : ∀ p, p < i + 1 → p % 5 < 4 → (wI σ 79 (4 * (i / 5) + i % 5) (nI (v + if i % 5 = 3 then 1 else 0))).1 79 (4 * (p / 5) + p % 5) = nI (dv B (p / 5) (p % 5)) := fun p hp hp2 => by
        rw [wI_at]
        by_cases e : p = i
        · subst e; rw [if_pos rfl]
          show nI (v + _) = nI (sg 1 (p % 5) (B (p / 5 * 5 + p % 5)) - 1 + _)
          rw [show p / 5 * 5 + p % 5 = p by omega, hs]; rfl
        · rw [if_neg (by omega)]; exact hv p (by omega) hp2
      have hF1 : Fr MFk σ (wI σ 79 (4 * (i / 5) + i % 5) (nI (v + if i % 5 = 3 then 1 else 0))) := Fr.wI rfl
      have hc1 : (wI σ 79 (4 * (i / 5) + i % 5) (nI (v + if i % 5 = 3 then 1 else 0))).1 71 8 = nI ((i + 1) / 5) := by rw [wI_ne (by decide)]; exact hc
      unfold vX9_readsDucks_64
      rw [nI_m9 hr]
      refine ⟨False.elim, fun _ => ?_⟩
      rw [k1, nI_eq2 (by omega) (by omega), k5, nI_div (by omega) (by omega) (by omega)]
      refine ⟨fun q => ?_, fun q => ?_⟩
      · refine sX9_isTaken (B := B) rfl (by omega : i / 5 < 12) (fun j hj => ?_) (fun ht => ?_) (fun ht => ?_)
        · have x0 := hv1 (5 * j) (by omega) (by omega)
          have x1 := hv1 (5 * j + 1) (by omega) (by omega)
          rw [show 5 * j / 5 = j by omega, show 5 * j % 5 = 0 by omega] at x0
          rw [show (5 * j + 1) / 5 = j by omega, show (5 * j + 1) % 5 = 1 by omega] at x1
          refine ⟨x0, x1, vl_le ?_, vl_le ?_⟩
          · show B (j * 5 + 0) < 256
            exact (hT.2.2 (j * 5 + 0) (by omega)).2
          · show B (j * 5 + 1) < 256
            exact (hT.2.2 (j * 5 + 1) (by omega)).2
        · refine ⟨fun q => absurd q (by decide), fun _ => wrong _ hF1 ?_⟩
          rw [hbad, if_neg (by omega), q, ht]; simp
        · refine ⟨fun _ => step _ hF1 ?_ hc1 hv1, fun q => absurd rfl q⟩
          rw [hbad, if_neg (by omega), ht, hs]; simp
      · refine step _ hF1 ?_ hc1 hv1
        rw [hbad, if_neg (by omega), hs]; simp [q]
    · refine ⟨fun _ => ?_, fun q => absurd rfl q⟩
      unfold vX9_readsDucks_64
      exact ⟨fun _ => wrong σ Fr.rf (by rw [hbad, if_neg (by omega), hs]; simp), fun q => absurd rfl q⟩
    · refine ⟨fun q => absurd q (by decide), fun _ => ⟨fun _ => ?_, fun q => absurd q (by omega)⟩⟩
      unfold vX9_readsDucks_64
      rw [k1, nI_eq2 (by omega) (by omega)]
      refine ⟨fun q => absurd q (by decide), fun _ => ⟨fun q => absurd q (by omega), fun _ => ?_⟩⟩
      refine step σ Fr.rf (by rw [hbad, if_pos hk, hs]; rfl) hc (fun p hp hp2 => ?_)
      by_cases e : p = i
      · subst e; omega
      · exact hv p (by omega) hp2
    · refine ⟨fun _ => ?_, fun q => absurd rfl q⟩
      unfold vX9_readsDucks_64
      exact ⟨fun _ => wrong σ Fr.rf (by rw [hbad, if_pos hk]; simp [hs]), fun q => absurd rfl q⟩
theorem sX9_readsDucks {post : Int32 → Hp → Prop} {σ : Hp} {n : Nat} {B : Nat → Nat} (hT : MTx σ 1 n B) (h : ∀ σ', Fr MFk σ σ' → MDk σ' n B → post (fltI B 1 n) σ') : vX9_readsDucks σ post := by
  have hn : n ≤ 59 := hT.2.1
  unfold vX9_readsDucks
  rintro _ rfl
  refine ⟨vp_in_nI (by omega : 1 < 3) (by omega), ?_⟩
  rw [k1, nI_c (by omega), wI_ne (by decide), hT.1]
  rintro _ rfl
  refine ⟨n + 1, sX9_readsDucks_14 n 0 _ (by omega) (hT.fr (A := MFk) (Fr.wI rfl)) (fun p hp => absurd hp (Nat.not_lt_zero p)) (by rw [wI_at, if_pos rfl]; rfl) (fun p hp => absurd hp (Nat.not_lt_zero p)) (fun σ' hF hb hc hv => ?_) (fun σ' p hF hp hbp hb hc => ?_)⟩
  · rw [nI_le0 (by omega), k5, k4, nI_rem (by omega) (by omega) (by omega), nI_eq2 (by omega) (by omega)]
    have good : (n = 0 ∨ n % 5 = 4) → post (-1) σ' := fun he => by
      obtain ⟨e1, e2, e3⟩ := flt_end (t := 1) hb he
      rw [← e2]
      refine h σ' ((Fr.wI rfl).tr' hF) ⟨by rw [e1]; exact hc, fun i hi j hj => ?_⟩
      rw [e1] at hi
      have hi : i < (n + 1) / 5 := hi
      have := hv (5 * i + j) (by omega) (by omega)
      rw [show (5 * i + j) / 5 = i by omega, show (5 * i + j) % 5 = j by omega] at this
      exact this
    refine ⟨fun q => good (Or.inl q), fun q => ⟨fun q2 => good (Or.inr q2), fun q2 => ?_⟩⟩
    rintro _ rfl
    obtain ⟨e1, e2, e3⟩ := flt_cut (t := 1) hb (by rintro (a | a); exact q a; exact q2 a)
    rw [← e2]
    refine h _ (((Fr.wI rfl).tr' hF).tr' (Fr.wI rfl)) ⟨by rw [e1, wI_at, if_pos rfl]; rfl, fun i hi => ?_⟩
    rw [e1] at hi; exact absurd hi (Nat.not_lt_zero i)
  · obtain ⟨e1, e2, e3⟩ := flt_at hp hbp hb
    rw [← e2]
    refine h σ' ((Fr.wI rfl).tr' hF) ⟨by rw [e1, hc]; rfl, fun i hi => ?_⟩
    rw [e1] at hi; exact absurd hi (Nat.not_lt_zero i)
