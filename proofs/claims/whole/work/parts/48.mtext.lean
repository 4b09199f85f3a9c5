/-! ===== the reference: texts ===== -/
/-- text t of the reference: n bytes B -/
def MTx (σ : Hp) (t n : Nat) (B : Nat → Nat) : Prop := σ.1 77 t = nI n ∧ n ≤ lim t ∧ ∀ i, i < n → σ.1 76 (60 * t + i) = nI (B i) ∧ B i < 256
theorem MTx.fr {σ σ' : Hp} {t n : Nat} {B : Nat → Nat} {A : Nat → Nat → Bool} (h : MTx σ t n B) (hF : Fr A σ σ') (h3 : ∀ b, A 77 b = false := by exact fun _ => rfl) (h4 : ∀ b, A 76 b = false := by exact fun _ => rfl) : MTx σ' t n B := by
  unfold MTx at h ⊢
  rw [hF.r h3, hF.r h4]
  exact h
theorem first_at {q : Nat → Bool} {n p : Nat} (hp : p < n) (hq : q p = true) (hb : ∀ j, j < p → q j = false) : fa_first q n = p := by
  have h1 : ¬ fa_first q n < p := fun h => by
    have := fa_first_yes q n (by omega)
    rw [hb _ h] at this; cases this
  have h2 : ¬ p < fa_first q n := fun h => by
    have := fa_first_no q n p h
    rw [hq] at this; cases this
  omega
theorem first_none {q : Nat → Bool} {n : Nat} (hb : ∀ j, j < n → q j = false) : fa_first q n = n := by
  have h1 := fa_first_le q n
  rcases Nat.lt_or_ge (fa_first q n) n with h | h
  · have := fa_first_yes q n h
    rw [hb _ h] at this; cases this
  · omega
/-- a fault at place p -/
theorem flt_at {B : Nat → Nat} {t n p : Nat} (hp : p < n) (hq : bad B t p = true) (hb : ∀ j, j < p → bad B t j = false) : its B t n = 0 ∧ fltI B t n = nI p ∧ well B t n = false := by
  have h1 : ft B t n = p := first_at hp hq hb
  have h2 : well B t n = false := by
    unfold well
    rw [h1, show (p == n) = false from by simp; omega, Bool.false_and]
  unfold its fltI
  rw [h2, h1]
  exact ⟨rfl, rfl, rfl⟩
/-- no byte is wrong -/
theorem flt_end {B : Nat → Nat} {t n : Nat} (hb : ∀ j, j < n → bad B t j = false) (he : n = 0 ∨ n % (wd t + 1) = wd t) : its B t n = (n + 1) / (wd t + 1) ∧ fltI B t n = -1 ∧ well B t n = true := by
  have h1 : ft B t n = n := first_none hb
  have h2 : well B t n = true := by
    unfold well
    rw [h1]
    simp [he]
  unfold its fltI
  rw [h2]
  exact ⟨rfl, rfl, rfl⟩
theorem flt_cut {B : Nat → Nat} {t n : Nat} (hb : ∀ j, j < n → bad B t j = false) (he : ¬ (n = 0 ∨ n % (wd t + 1) = wd t)) : its B t n = 0 ∧ fltI B t n = nI n ∧ well B t n = false := by
  have h1 : ft B t n = n := first_none hb
  have h2 : well B t n = false := by
    unfold well
    rw [h1]
    simp only [not_or] at he
    simp [he]
  unfold its fltI
  rw [h2, h1]
  exact ⟨rfl, rfl, rfl⟩
theorem nI_le0 {n : Nat} (h : n < 2147483648) : (nI n ≤ 0) = (n = 0) := by
  rw [k0, nI_le2 h (by omega)]
  exact propext ⟨fun q => by omega, fun q => by omega⟩
theorem nI_m9 {n : Nat} (h : n < 2147483648) : (nI n = (-9 : Int32)) = False := by
  refine propext ⟨fun e => ?_, False.elim⟩
  have := congrArg Int32.toInt e
  rw [nI_toInt h] at this
  have e2 : (-9 : Int32).toInt = -9 := by decide
  omega
theorem sX9_figureOf {x p q : Int32} {b lo hi : Nat} {σ : Hp} {post : Int32 → Hp → Prop} (hx : x = nI b) (hb : b < 256) (hp : p = nI lo) (hq : q = nI hi) (hl : lo < 10) (hh : hi < 10) (h1 : ∀ v, fig b (48 + lo) (48 + hi) = v + 1 → post (nI (v + lo)) σ) (h0 : fig b (48 + lo) (48 + hi) = 0 → post (-9) σ) : vX9_figureOf x p q σ post := by
  subst hx hp hq
  unfold vX9_figureOf
  rw [k48, nI_add, nI_add]
  refine sX9_inB (lo := (48 + lo : Nat)) (hi := (48 + hi : Nat)) (by rw [Int32.toInt_toInt64, nI_toInt (by omega)]) (by rw [Int32.toInt_toInt64, nI_toInt (by omega)]) (fun q1 q2 => ?_) (fun q => ?_)
  · rw [nI_toInt (by omega)] at q1 q2
    refine ⟨fun q => absurd q (by decide), fun _ => ?_⟩
    rw [pk_sub (by omega)]
    have := h1 (b - (48 + lo)) (by unfold fig; rw [if_pos (by omega)])
    rw [show b - 48 = b - (48 + lo) + lo by omega]
    exact this
  · rw [nI_toInt (by omega)] at q
    refine ⟨fun _ => h0 (by unfold fig; rw [if_neg (by omega)]), fun q => absurd rfl q⟩
theorem sX9_letterOf {x q : Int32} {b hi : Nat} {σ : Hp} {post : Int32 → Hp → Prop} (hx : x = nI b) (hb : b < 256) (hq : q = nI hi) (hh : hi < 256) (h1 : ∀ v, fig b 97 hi = v + 1 → post (nI v) σ) (h0 : fig b 97 hi = 0 → post (-9) σ) : vX9_letterOf x q σ post := by
  subst hx hq
  unfold vX9_letterOf
  rw [k97]
  refine sX9_inB (lo := 97) (hi := (hi : Nat)) rfl (by rw [Int32.toInt_toInt64, nI_toInt (by omega)]) (fun q1 q2 => ?_) (fun q => ?_)
  · rw [nI_toInt (by omega)] at q1 q2
    refine ⟨fun q => absurd q (by decide), fun _ => ?_⟩
    rw [pk_sub (by omega)]
    exact h1 (b - 97) (by unfold fig; rw [if_pos (by omega)])
  · rw [nI_toInt (by omega)] at q
    refine ⟨fun _ => h0 (by unfold fig; rw [if_neg (by omega)]), fun q => absurd rfl q⟩
/-- what the reference makes of a sign of a duck (j < 4), of a shot -/
def dv (B : Nat → Nat) (i j : Nat) : Nat := vl B 1 i j + if j = 3 then 1 else 0
theorem sX9_duckOf {x p : Int32} {b k : Nat} {σ : Hp} {post : Int32 → Hp → Prop} (hx : x = nI b) (hb : b < 256) (hp : p = nI k) (hk : k < 5) (h1 : ∀ v, k < 4 → sg 1 k b = v + 1 → post (nI (v + if k = 3 then 1 else 0)) σ) (h0 : k < 4 → sg 1 k b = 0 → post (-9) σ) (h2 : k = 4 → b = 59 → post 0 σ) (h3 : k = 4 → b ≠ 59 → post (-9) σ) : vX9_duckOf p x σ post := by
  subst hx hp
  unfold vX9_duckOf
  rcases (by omega : k = 0 ∨ k = 1 ∨ k = 2 ∨ k = 3 ∨ k = 4) with rfl | rfl | rfl | rfl | rfl
  · refine ⟨fun _ => ?_, fun q => absurd rfl q⟩
    exact sX9_figureOf rfl hb rfl rfl (by decide) (by decide) (fun v e => h1 v (by omega) e) (fun e => h0 (by omega) e)
  · refine ⟨fun q => absurd q (by decide), fun _ => ⟨fun _ => ?_, fun q => absurd rfl q⟩⟩
    exact sX9_letterOf rfl hb rfl (by decide) (fun v e => h1 v (by omega) e) (fun e => h0 (by omega) e)
  · refine ⟨fun q => absurd q (by decide), fun _ => ⟨fun q => absurd q (by decide), fun _ => ⟨fun _ => ?_, fun q => absurd rfl q⟩⟩⟩
    rw [k116, k104, k103, nI_eq2 (by omega) (by omega), nI_eq2 (by omega) (by omega), nI_eq2 (by omega) (by omega)]
    refine ⟨fun q => h1 0 (by omega) (by simp [sg, q]), fun q => ⟨fun q2 => h1 1 (by omega) (by simp [sg, q2]), fun q2 => ⟨fun q3 => h1 2 (by omega) (by simp [sg, q3]), fun q3 => h0 (by omega) (by simp [sg, q, q2, q3])⟩⟩⟩
  · refine ⟨fun q => absurd q (by decide), fun _ => ⟨fun q => absurd q (by decide), fun _ => ⟨fun q => absurd q (by decide), fun _ => ⟨fun _ => ?_, fun q => absurd rfl q⟩⟩⟩⟩
    exact sX9_figureOf rfl hb rfl rfl (by decide) (by decide) (fun v e => h1 v (by omega) e) (fun e => h0 (by omega) e)
  · refine ⟨fun q => absurd q (by decide), fun _ => ⟨fun q => absurd q (by decide), fun _ => ⟨fun q => absurd q (by decide), fun _ => ⟨fun q => absurd q (by decide), fun _ => ?_⟩⟩⟩⟩
    unfold vX9_between
    rw [k59, nI_eq2 (by omega) (by omega)]
    exact ⟨fun q => h2 rfl q, fun q => h3 rfl q⟩
theorem sX9_shotOf {x p : Int32} {b k : Nat} {σ : Hp} {post : Int32 → Hp → Prop} (hx : x = nI b) (hb : b < 256) (hp : p = nI k) (hk : k < 4) (h1 : ∀ v, k < 3 → sg 2 k b = v + 1 → post (nI v) σ) (h0 : k < 3 → sg 2 k b = 0 → post (-9) σ) (h2 : k = 3 → b = 59 → post 0 σ) (h3 : k = 3 → b ≠ 59 → post (-9) σ) : vX9_shotOf p x σ post := by
  subst hx hp
  unfold vX9_shotOf
  rcases (by omega : k = 0 ∨ k = 1 ∨ k = 2 ∨ k = 3) with rfl | rfl | rfl | rfl
  · refine ⟨fun _ => ?_, fun q => absurd rfl q⟩
    exact sX9_letterOf rfl hb rfl (by decide) (fun v e => h1 v (by omega) e) (fun e => h0 (by omega) e)
  · refine ⟨fun q => absurd q (by decide), fun _ => ⟨fun _ => ?_, fun q => absurd rfl q⟩⟩
    exact sX9_figureOf rfl hb rfl rfl (by decide) (by decide) (fun v e => h1 v (by omega) e) (fun e => h0 (by omega) e)
  · refine ⟨fun q => absurd q (by decide), fun _ => ⟨fun q => absurd q (by decide), fun _ => ⟨fun _ => ?_, fun q => absurd rfl q⟩⟩⟩
    exact sX9_figureOf rfl hb rfl rfl (by decide) (by decide) (fun v e => h1 v (by omega) e) (fun e => h0 (by omega) e)
  · refine ⟨fun q => absurd q (by decide), fun _ => ⟨fun q => absurd q (by decide), fun _ => ⟨fun q => absurd q (by decide), fun _ => ?_⟩⟩⟩
    unfold vX9_between
    rw [k59, nI_eq2 (by omega) (by omega)]
    exact ⟨fun q => h2 rfl q, fun q => h3 rfl q⟩
theorem sg_le (t s b : Nat) (hb : b < 256) : sg t s b ≤ 24 := by
  unfold sg fig
  repeat' split
  all_goals omega
/-- what 'readsShots' writes -/
def MFs : Nat → Nat → Bool := fun a b => Nat.beq a 80 || (Nat.beq a 71 && Nat.beq b 10)
/-- the reference's shots, told by a text -/
def MSh (σ : Hp) (n : Nat) (B : Nat → Nat) : Prop := σ.1 71 10 = nI (its B 2 n) ∧ ∀ i, i < its B 2 n → ∀ j, j < 3 → σ.1 80 (3 * i + j) = nI (vl B 2 i j)
theorem sX9_readsShots_14 {post : Int32 → Hp → Prop} {ex : Hp → Prop} {n : Nat} {B : Nat → Nat} : ∀ (d i : Nat) (σ : Hp), i + d = n → MTx σ 2 n B → (∀ p, p < i → bad B 2 p = false) → σ.1 71 10 = nI ((i + 1) / 4) → (∀ p, p < i → p % 4 < 3 → σ.1 80 (3 * (p / 4) + p % 4) = nI (vl B 2 (p / 4) (p % 4))) →
    (∀ σ', Fr MFs σ σ' → (∀ p, p < n → bad B 2 p = false) → σ'.1 71 10 = nI ((n + 1) / 4) → (∀ p, p < n → p % 4 < 3 → σ'.1 80 (3 * (p / 4) + p % 4) = nI (vl B 2 (p / 4) (p % 4))) → ex σ') → (∀ σ' p, Fr MFs σ σ' → p < n → bad B 2 p = true → (∀ j, j < p → bad B 2 j = false) → σ'.1 71 10 = 0 → post (nI p) σ') → vX9_readsShots_14 post ex (nI n) (d + 1) (nI i) σ := by
  intro d
  induction d with
  | zero =>
    intro i σ hd hT hb hc hv hex hpo
    have hn : n ≤ 47 := hT.2.1
    rw [vX9_readsShots_14]; dsimp only
    have : i = n := by omega
    subst this
    exact ⟨fun _ => hex σ Fr.rf hb hc hv, fun c => absurd (nI_le (by omega) (by omega)) c⟩
  | succ d ih =>
    intro i σ hd hT hb hc hv hex hpo
    have hn : n ≤ 47 := hT.2.1
    obtain ⟨b1, b2⟩ := hT.2.2 i (by omega)
    have hsl := sg_le 2 (i % 4) (B i) b2
    rw [vX9_readsShots_14]; dsimp only
    refine ⟨fun c => absurd c (nI_ge (by omega) (by omega)), fun _ => ?_⟩
    rw [k4, nI_rem (by omega) (by omega) (by omega), nI_div (by omega) (by omega) (by omega), k3, k120, nI_add]
    rintro _ rfl
    rw [nI_mul, nI_add, nI_c (by omega), nI_c (by omega), nI_le2 (by omega) (by omega)]
    refine ⟨vp_in_nI (by omega) (by omega), ?_⟩
    have hbad : bad B 2 i = if i % 4 = 3 then B i != 59 else (sg 2 (i % 4) (B i) == 0) := by
      unfold bad
      simp only [wd]
      simp
    have step : ∀ σ1 : Hp, Fr MFs σ σ1 → bad B 2 i = false → σ1.1 71 10 = nI ((i + 1) / 4) → (∀ p, p < i + 1 → p % 4 < 3 → σ1.1 80 (3 * (p / 4) + p % 4) = nI (vl B 2 (p / 4) (p % 4))) → vX9_readsShots_71 post ex (vX9_readsShots_14 post ex (nI n) (d + 1)) (nI n) (nI i) (nI (i % 4)) σ1 := by
      intro σ1 hF hbi h10 hv1
      have hb' : ∀ p, p < i + 1 → bad B 2 p = false := fun p hp => by
        by_cases e : p = i
        · subst e; exact hbi
        · exact hb p (by omega)
      unfold vX9_readsShots_71
      rw [k2, nI_eq2 (by omega) (by omega)]
      refine ⟨fun q => ?_, fun q => ?_⟩
      · rintro _ rfl _ rfl
        rw [nI_1]
        have hF2 : Fr MFs σ (wI σ1 71 10 (σ1.1 71 10 + 1)) := hF.tr' (Fr.wI rfl)
        refine ih (i + 1) _ (by omega) (hT.fr hF2) hb' ?_ (fun p hp hp2 => ?_) (fun σ2 hF3 => hex σ2 (hF2.tr' hF3)) (fun σ2 p hF3 => hpo σ2 p (hF2.tr' hF3))
        · rw [wI_at, if_pos rfl, h10, nI_1]; congr 1; omega
        · rw [wI_ne (by decide)]; exact hv1 p hp hp2
      · rintro _ rfl _ rfl
        rw [nI_1]
        have hF2 : Fr MFs σ (wI σ1 71 10 (σ1.1 71 10 + 0)) := hF.tr' (Fr.wI rfl)
        refine ih (i + 1) _ (by omega) (hT.fr hF2) hb' ?_ (fun p hp hp2 => ?_) (fun σ2 hF3 => hex σ2 (hF2.tr' hF3)) (fun σ2 p hF3 => hpo σ2 p (hF2.tr' hF3))
        · rw [wI_at, if_pos rfl, h10, k0, nI_add]; congr 1; omega
        · rw [wI_ne (by decide)]; exact hv1 p hp hp2
    have wrong : bad B 2 i = true → ∀ σ_10 : Hp, σ_10 = wI σ 71 10 0 → post (nI i) σ_10 := by
      rintro hbi _ rfl
      exact hpo _ i (Fr.wI rfl) (by omega) hbi hb (by rw [wI_at, if_pos rfl])
    refine sX9_shotOf (k := i % 4) (b := B i) b1 b2 rfl (by omega) (fun v hk hs => ?_) (fun hk hs => ?_) (fun hk hs => ?_) (fun hk hs => ?_)
    · rw [nI_m9 (by omega)]
      refine ⟨False.elim, fun _ => ⟨fun q => absurd q (by omega), fun _ => ⟨vp_in_nI (by omega) (by omega), ?_⟩⟩⟩
      rintro _ rfl
      refine step _ (Fr.wI rfl) (by rw [hbad, if_neg (by omega), hs]; rfl) (by rw [wI_ne (by decide)]; exact hc) (fun p hp hp2 => ?_)
      rw [wI_at]
      by_cases e : p = i
      · subst e; rw [if_pos rfl]
        show nI v = nI (sg 2 (p % 4) (B (p / 4 * 4 + p % 4)) - 1)
        rw [show p / 4 * 4 + p % 4 = p by omega, hs]; rfl
      · rw [if_neg (by omega)]; exact hv p (by omega) hp2
    · exact ⟨fun _ => wrong (by rw [hbad, if_neg (by omega), hs]; rfl), fun q => absurd rfl q⟩
    · refine ⟨fun q => absurd q (by decide), fun _ => ⟨fun _ => ?_, fun q => absurd q (by omega)⟩⟩
      refine step σ Fr.rf (by rw [hbad, if_pos hk, hs]; rfl) hc (fun p hp hp2 => ?_)
      by_cases e : p = i
      · subst e; omega
      · exact hv p (by omega) hp2
    · exact ⟨fun _ => wrong (by rw [hbad, if_pos hk]; simp [hs]), fun q => absurd rfl q⟩
