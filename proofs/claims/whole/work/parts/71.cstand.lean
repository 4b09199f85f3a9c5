/-! ===== the class: chains, ducks, events, how all goes ===== -/
def CDk (σ : Hp) (g : Gm) (n : Nat) : Prop := ∀ k, k < n → σ.1 4 k = nI (gD g k 0) ∧ σ.1 5 k = nI (gD g k 1) ∧ σ.1 6 k = nI (gD g k 2) ∧ σ.1 7 k = nI (gD g k 3)
def CFm (σ : Hp) (g : Gm) (n : Nat) : Prop := ∀ c, c < 3 → ∀ p, p < 12 → σ.1 8 (c * 12 + p) = fI (lastk (fun k => gD g k 0 == c && gD g k 1 == p) n)
def CHd (σ : Hp) (g : Gm) (n : Nat) : Prop := ∀ c, c < 3 → ∀ a, a < 12 → ∀ k, k < 32 → bt (σ.1 9 (c * 12 + a)) k = (decide (k < n) && gD g k 0 == c && decide (5 < (gD g k 1 + a) % 12))
/-- the class's chains and ducks tell the game -/
def CSt (σ : Hp) (g : Gm) : Prop := σ.1 2 5 = nI (nd g) ∧ (∀ c, c < 3 → σ.1 3 c = gsp g c) ∧ CDk σ g (nd g) ∧ CFm σ g (nd g) ∧ CHd σ g (nd g)
def CEv (σ : Hp) (n : Nat) (E : Nat → Nat → Nat) : Prop := σ.1 10 4 = nI n ∧ n ≤ 8 ∧ (∀ e, e < n → σ.1 11 e = nI (E e 0) ∧ σ.1 12 e = nI (E e 1) ∧ σ.1 13 e = nI (E e 2) ∧ E e 0 < 3 ∧ E e 1 < 24 ∧ E e 2 < 12) ∧ ∀ t, t < 24 → ∀ e, e < 32 → bt (σ.1 14 t) e = (decide (e < n) && E e 1 == t)
theorem CSt.fr {σ σ' : Hp} {g : Gm} {A : Nat → Nat → Bool} (h : CSt σ g) (hF : Fr A σ σ') (h1 : A 2 5 = false := by rfl) (h2 : ∀ b, A 3 b = false := by exact fun _ => rfl) (h3 : ∀ b, A 4 b = false := by exact fun _ => rfl) (h4 : ∀ b, A 5 b = false := by exact fun _ => rfl) (h5 : ∀ b, A 6 b = false := by exact fun _ => rfl) (h6 : ∀ b, A 7 b = false := by exact fun _ => rfl) (h7 : ∀ b, A 8 b = false := by exact fun _ => rfl) (h8 : ∀ b, A 9 b = false := by exact fun _ => rfl) : CSt σ' g := by
  unfold CSt CDk CFm CHd at h ⊢
  rw [hF.i h1, hF.r h2, hF.r h3, hF.r h4, hF.r h5, hF.r h6, hF.r h7, hF.r h8]; exact h
theorem CEv.fr {σ σ' : Hp} {n : Nat} {E : Nat → Nat → Nat} {A : Nat → Nat → Bool} (h : CEv σ n E) (hF : Fr A σ σ') (h1 : A 10 4 = false := by rfl) (h2 : ∀ b, A 11 b = false := by exact fun _ => rfl) (h3 : ∀ b, A 12 b = false := by exact fun _ => rfl) (h4 : ∀ b, A 13 b = false := by exact fun _ => rfl) (h5 : ∀ b, A 14 b = false := by exact fun _ => rfl) : CEv σ' n E := by
  unfold CEv at h ⊢
  rw [hF.i h1, hF.r h2, hF.r h3, hF.r h4, hF.r h5]; exact h
section CY
variable {σ : Hp} {g : Gm} {post : Int32 → Hp → Prop} {postv : Hp → Prop}
theorem sJ7_fill {a : Nat} {v : Int32} (hk : kd a = 10) (hl : ln a < 1000) (h : ∀ σ', Fr (fun x _ => Nat.beq x a) σ σ' → (∀ j, j < ln a → σ'.1 a j = v) → postv σ') : vJ7_fill_53178 a v σ postv := by
  have hil : iln a = ln a := by unfold iln; rw [if_pos hk]
  refine ⟨hk, ?_⟩
  rintro _ rfl
  suffices L : ∀ (d j : Nat) (σ1 : Hp), j + d = ln a → Fr (fun x _ => Nat.beq x a) σ σ1 → (∀ i, i < j → σ1.1 a i = v) → vJ7_fill_53178_5 postv (fun σ_3 => postv σ_3) a v (nI (ln a)) (d + 1) (nI j) σ1 from ⟨ln a + 1, L (ln a) 0 σ (by omega) Fr.rf (fun i hi => absurd hi (Nat.not_lt_zero i))⟩
  intro d
  induction d with
  | zero =>
    intro j σ1 hd hF hv
    rw [vJ7_fill_53178_5]; dsimp only
    exact ⟨fun _ => h σ1 hF (fun i hi => hv i (by omega)), fun c => absurd (nI_le (by omega) (by omega)) c⟩
  | succ d ih =>
    intro j σ1 hd hF hv
    rw [vJ7_fill_53178_5]; dsimp only
    refine ⟨fun c => absurd c (nI_ge (by omega) (by omega)), fun _ => ⟨by rw [hil]; exact vp_in_nI (by omega) (by omega), ?_⟩⟩
    rintro _ rfl _ rfl
    rw [nI_c (by omega), nI_1]
    refine ih (j + 1) _ (by omega) (hF.tr' (Fr.wI (beq_s a))) (fun i hi => ?_)
    rw [wI_at]
    by_cases e : i = j
    · rw [if_pos e]
    · rw [if_neg e]; exact hv i (by omega)
def CF9 : Nat → Nat → Bool := fun a _ => Nat.beq a 9
theorem sX6_noteHidden (hG : Gok g) {k : Nat} {a : Int32} (hk : k < nd g) (ha : a = nI k) (h4 : σ.1 4 k = nI (gD g k 0)) (h5 : σ.1 5 k = nI (gD g k 1)) (hH : CHd σ g k) (h : ∀ σ', Fr CF9 σ σ' → CHd σ' g (k + 1) → postv σ') : vX6_noteHidden a σ postv := by
  subst ha
  have g1 := hG.1
  obtain ⟨d0, d1, -⟩ := hG.2.1 k hk
  suffices L : ∀ (d x : Nat) (σ1 : Hp), x + d = 12 → Fr CF9 σ σ1 → (∀ c, c < 3 → ∀ a, a < 12 → ∀ k', k' < 32 → bt (σ1.1 9 (c * 12 + a)) k' = (decide (k' < if a < x then k + 1 else k) && gD g k' 0 == c && decide (5 < (gD g k' 1 + a) % 12))) → vX6_noteHidden_2 postv (fun σ_1 => postv σ_1) (nI k) (d + 1) (nI x) σ1 by
    exact ⟨12 + 1, L 12 0 σ (by omega) Fr.rf (fun c hc a ha k' hk' => by rw [if_neg (by omega)]; exact hH c hc a ha k' hk')⟩
  intro d
  induction d with
  | zero =>
    intro x σ1 hd hF hb
    rw [vX6_noteHidden_2]; dsimp only; rw [k12]
    refine ⟨fun _ => h σ1 hF (fun c hc a ha k' hk' => ?_), fun c => absurd (nI_le (by omega) (by omega)) c⟩
    rw [hb c hc a ha k' hk', if_pos (by omega)]
  | succ d ih =>
    intro x σ1 hd hF hb
    rw [vX6_noteHidden_2]; dsimp only; rw [k12]
    refine ⟨fun c => absurd c (nI_ge (by omega) (by omega)), fun _ => ?_⟩
    have e4 : σ1.1 4 k = nI (gD g k 0) := by rw [hF.i rfl]; exact h4
    have e5 : σ1.1 5 k = nI (gD g k 1) := by rw [hF.i rfl]; exact h5
    rw [nI_c (by omega), e5, e4, nI_add, nI_rem (by omega) (by omega) (by omega), k6, nI_lt2 (by omega) (by omega), nI_mul, nI_add, nI_c (by omega)]
    refine ⟨vp_in_nI (by omega) (by omega), fun q => ?_, fun q => ⟨vp_in_nI (by omega) (by omega), vp_in_nI (by omega) (by omega), vp_in_nI (by omega) (by omega), ?_⟩⟩
    · rintro _ rfl
      rw [nI_1]
      refine ih (x + 1) σ1 (by omega) hF (fun c hc a ha k' hk' => ?_)
      rw [hb c hc a ha k' hk']
      by_cases e : a = x
      · subst e
        rw [if_neg (by omega), if_pos (by omega)]
        by_cases e2 : k' = k
        · subst e2
          rw [decide_eq_false (by omega : ¬ 5 < (gD g k' 1 + a) % 12), Bool.and_false, Bool.and_false]
        · rw [decide_eq_decide.mpr (show k' < k ↔ k' < k + 1 by omega)]
      · by_cases e3 : a < x
        · rw [if_pos e3, if_pos (by omega)]
        · rw [if_neg e3, if_neg (by omega)]
    · rintro _ rfl _ rfl
      rw [nI_1]
      refine ih (x + 1) _ (by omega) (hF.tr' (Fr.wI rfl)) (fun c hc a ha k' hk' => ?_)
      rw [wI_at]
      by_cases e : c * 12 + a = gD g k 0 * 12 + x
      · have ec : c = gD g k 0 := by omega
        have ea : a = x := by omega
        rw [if_pos e, b_or, ← e, hb c hc a ha k' hk', bt_one (by omega) hk', if_neg (by omega), if_pos (by omega)]
        by_cases e2 : k' = k
        · subst e2
          rw [decide_eq_true rfl, Bool.or_true, decide_eq_true (by omega : k' < k' + 1), decide_eq_true (by rw [ea]; omega : 5 < (gD g k' 1 + a) % 12)]
          simp [ec]
        · rw [decide_eq_false e2, Bool.or_false, decide_eq_decide.mpr (show k' < k ↔ k' < k + 1 by omega)]
      · rw [if_neg e, hb c hc a ha k' hk']
        by_cases ea : a = x
        · subst ea
          rw [if_neg (by omega), if_pos (by omega)]
          by_cases e2 : k' = k
          · subst e2
            have : ¬ gD g k' 0 = c := by omega
            simp [this]
          · rw [decide_eq_decide.mpr (show k' < k ↔ k' < k + 1 by omega)]
        · by_cases e3 : a < x
          · rw [if_pos e3, if_pos (by omega)]
          · rw [if_neg e3, if_neg (by omega)]
theorem sX6_speedTold {n : Nat} {B : Nat → Nat} (h1 : σ.1 54 1 = nI 2) (hE : CEx σ 0 n B) {c : Nat} {a : Int32} (hc : c < its B 0 n) (hc3 : c < 3) (hb : ∀ i, i < n → B i < 256) (ha : a = nI c) (h : post (spI B n c) σ) : vX6_speedTold 54 a σ post := by
  obtain ⟨e6, e7, ev⟩ := hE
  have v0 := ev c hc 0 (by decide)
  have v1 := ev c hc 1 (by decide)
  have hp := (well_sg (by omega) c 0 hc (by decide)).1
  have hl := vl_le (t := 0) (i := c) (s := 0) (hb _ hp)
  unfold vX6_speedTold
  refine ⟨by decide, ?_⟩
  refine sX7_value (t := 0) (i := c) (s := 1) (by omega) h1 hc3 (by decide) ha rfl ?_
  refine sX7_value (t := 0) (i := c) (s := 0) (by omega) h1 hc3 (by decide) ha rfl ?_
  rw [v0, v1, k0, nI_eq2 (by omega) (by omega)]
  unfold spI at h
  rw [if_pos hc] at h
  refine ⟨fun q => ?_, fun q => ?_⟩
  · rw [if_pos q] at h; exact h
  · rw [if_neg q] at h; exact h
/-- what 'arrange' writes -/
def CFa : Nat → Nat → Bool := fun a b => (Nat.ble 3 a && Nat.ble a 9) || (Nat.beq a 2 && Nat.beq b 5)
theorem CF9_CFa : ∀ a b, CFa a b = false → CF9 a b = false := fun a b h => by
  unfold CFa at h
  rw [Bool.or_eq_false_iff] at h
  unfold CF9
  refine beq_f ?_
  rintro rfl
  cases h.1
theorem sX6_arrange {n0 n1 : Nat} {B0 B1 : Nat → Nat} (hC0 : CTx σ 0 n0 B0) (hC1 : CTx σ 1 n1 B1) (hE0 : CEx σ 0 n0 B0) (hE1 : CEx σ 1 n1 B1) (hG : Gok g) (hnd : nd g = its B1 1 n1) (hD : gD g = dv B1) (hsp : gsp g = spI B0 n0) (h : ∀ σ', Fr CFa σ σ' → CSt σ' g → postv σ') : vX6_arrange 54 57 σ postv := by
  have g1 := hG.1
  have hi0 : its B0 0 n0 ≤ 3 := its_le hC0.2.2.2.2.1 (by omega)
  have h541 : σ.1 54 1 = nI 2 := hC0.2.1
  have h546 : σ.1 54 6 = nI (its B0 0 n0) := hE0.1
  -- speeds
  have L1 : ∀ (d c : Nat) (σ1 : Hp) (ex : Hp → Prop), c + d = 3 → Fr (fun a _ => Nat.beq a 3) σ σ1 → (∀ c', c' < c → σ1.1 3 c' = gsp g c') → (∀ σ2, Fr (fun a _ => Nat.beq a 3) σ σ2 → (∀ c', c' < 3 → σ2.1 3 c' = gsp g c') → ex σ2) → vX6_arrange_2 postv ex 54 57 (d + 1) (nI c) σ1 := by
    intro d
    induction d with
    | zero =>
      intro c σ1 ex hd hF hs hex
      rw [vX6_arrange_2]; dsimp only; rw [k3]
      exact ⟨fun _ => hex σ1 hF (fun c' hc' => hs c' (by omega)), fun c => absurd (nI_le (by omega) (by omega)) c⟩
    | succ d ih =>
      intro c σ1 ex hd hF hs hex
      have e6 : σ1.1 54 6 = nI (its B0 0 n0) := by rw [hF.i rfl]; exact h546
      have step : ∀ v : Int32, v = gsp g c → vX6_arrange_2 postv ex 54 57 (d + 1) (nI (c + 1)) (wI σ1 3 c v) := fun v hv => by
        refine ih (c + 1) _ ex (by omega) (hF.tr' (Fr.wI rfl)) (fun c' hc' => ?_) hex
        rw [wI_at]
        by_cases e : c' = c
        · rw [if_pos e, hv, e]
        · rw [if_neg e]; exact hs c' (by omega)
      rw [vX6_arrange_2]; dsimp only; rw [k3]
      refine ⟨fun c => absurd c (nI_ge (by omega) (by omega)), fun _ => ⟨by decide, ?_⟩⟩
      rw [e6, nI_le2 (by omega) (by omega), nI_c (by omega)]
      refine ⟨fun q => ⟨vp_in_nI (by omega) (by omega), ?_⟩, fun q => ?_⟩
      · rintro _ rfl _ rfl
        rw [nI_1]
        exact step _ (by rw [hsp]; unfold spI; rw [if_neg (by omega)])
      · have hE : CEx σ1 0 n0 B0 := ⟨by rw [hF.i rfl]; exact hE0.1, by rw [hF.i rfl]; exact hE0.2.1, fun i hi s hs => by rw [hF.i rfl]; exact hE0.2.2 i hi s hs⟩
        refine sX6_speedTold (by rw [hF.i rfl]; exact h541) hE (by omega) (by omega) (fun i hi => (hC0.2.2.2.2.2 i hi).2) rfl ?_
        refine ⟨vp_in_nI (by omega) (by omega), ?_⟩
        rintro _ rfl _ rfl
        rw [nI_1]
        exact step _ (by rw [hsp])
  refine ⟨3 + 1, L1 3 0 σ _ (by omega) Fr.rf (fun c hc => absurd hc (Nat.not_lt_zero c)) (fun σ1 hF1 hs1 => ?_)⟩
  refine sJ7_fill (by decide) (by decide) (fun σ2 hF2 h8 => ?_)
  refine sJ7_fill (by decide) (by decide) (fun σ3 hF3 h9 => ⟨by decide, ?_⟩)
  rintro _ rfl
  have hF13 : Fr CFa σ σ3 := ((hF1.up (fun a b h => by unfold CFa at h; rw [Bool.or_eq_false_iff] at h; refine beq_f ?_; rintro rfl; cases h.1)).tr' (hF2.up (fun a b h => by unfold CFa at h; rw [Bool.or_eq_false_iff] at h; refine beq_f ?_; rintro rfl; cases h.1))).tr' (hF3.up (fun a b h => by unfold CFa at h; rw [Bool.or_eq_false_iff] at h; refine beq_f ?_; rintro rfl; cases h.1))
  have e576 : σ3.1 57 6 = nI (nd g) := by rw [hF13.i rfl, hnd]; exact hE1.1
  rw [e576]
  have hF4 : Fr CFa σ (wI σ3 2 5 (nI (nd g))) := hF13.tr' (Fr.wI rfl)
  -- ducks
  suffices L2 : ∀ (d k : Nat) (σ1 : Hp), k + d = nd g → Fr CFa σ σ1 → σ1.1 2 5 = nI (nd g) → (∀ c, c < 3 → σ1.1 3 c = gsp g c) → CDk σ1 g k → CFm σ1 g k → CHd σ1 g k → vX6_arrange_62 postv (fun σ_8 => postv σ_8) 57 (d + 1) (nI k) σ1 by
    refine ⟨nd g + 1, L2 (nd g) 0 _ (by omega) hF4 (by rw [wI_at, if_pos rfl]) (fun c hc => ?_) (fun k hk => absurd hk (Nat.not_lt_zero k)) (fun c hc p hp => ?_) (fun c hc a ha k hk => ?_)⟩
    · rw [wI_ne (by decide), hF3.i rfl, hF2.i rfl]; exact hs1 c hc
    · rw [wI_ne (by decide), hF3.i rfl, h8 _ (show c * 12 + p < 36 by omega)]; rfl
    · rw [wI_ne (by decide), h9 _ (show c * 12 + a < 36 by omega), bt_zero, decide_eq_false (Nat.not_lt_zero k)]; rfl
  intro d
  induction d with
  | zero =>
    intro k σ1 hd hF h25 hsp1 hDk hFm hHd
    rw [vX6_arrange_62]; dsimp only; rw [h25]
    have : k = nd g := by omega
    subst this
    exact ⟨fun _ => h σ1 hF ⟨h25, hsp1, hDk, hFm, hHd⟩, fun c => absurd (nI_le (by omega) (by omega)) c⟩
  | succ d ih =>
    intro k σ1 hd hF h25 hsp1 hDk hFm hHd
    have hk : k < nd g := by omega
    have hk1 : k < its B1 1 n1 := by omega
    have hk12 : k < mst 1 := by show k < 12; omega
    obtain ⟨d0, d1, d2, d3⟩ := hG.2.1 k hk
    have v0 : σ1.1 59 (k * 4 + 0) = nI (gD g k 0) := by rw [hF.i rfl, hD]; exact hE1.2.2 k hk1 0 (by decide)
    have v1 : σ1.1 59 (k * 4 + 1) = nI (gD g k 1) := by rw [hF.i rfl, hD]; exact hE1.2.2 k hk1 1 (by decide)
    have v2 : σ1.1 59 (k * 4 + 2) = nI (gD g k 2) := by rw [hF.i rfl, hD]; exact hE1.2.2 k hk1 2 (by decide)
    have v3 : σ1.1 59 (k * 4 + 3) + 1 = nI (gD g k 3) := by
      rw [hF.i rfl, hD]
      have := hE1.2.2 k hk1 3 (by decide)
      have this : σ.1 59 (k * 4 + 3) = nI (vl B1 1 k 3) := this
      rw [this, nI_1]; rfl
    have e1 : ∀ σ' : Hp, σ'.1 57 = σ1.1 57 → σ'.1 57 1 = nI 4 := fun σ' h => by rw [h, hF.i rfl]; exact hC1.2.1
    rw [vX6_arrange_62]; dsimp only; rw [h25]
    refine ⟨fun c => absurd c (nI_ge (by omega) (by omega)), fun _ => ⟨by decide, ?_⟩⟩
    refine sX7_value (t := 1) (i := k) (s := 0) (by omega) (e1 _ rfl) hk12 (by decide) rfl rfl ?_
    refine ⟨vp_in_nI (by omega) (by omega), ?_⟩
    rw [nI_c (by omega)]
    rintro _ rfl
    refine sX7_value (t := 1) (i := k) (s := 1) (by omega) (e1 _ (by rw [wI_ne (by decide)])) hk12 (by decide) rfl rfl ?_
    refine ⟨vp_in_nI (by omega) (by omega), ?_⟩
    rintro _ rfl
    refine sX7_value (t := 1) (i := k) (s := 2) (by omega) (e1 _ (by rw [wI_ne (by decide), wI_ne (by decide)])) hk12 (by decide) rfl rfl ?_
    refine ⟨vp_in_nI (by omega) (by omega), ?_⟩
    rintro _ rfl
    refine sX7_value (t := 1) (i := k) (s := 3) (by omega) (e1 _ (by rw [wI_ne (by decide), wI_ne (by decide), wI_ne (by decide)])) hk12 (by decide) rfl rfl ?_
    refine ⟨vp_in_nI (by omega) (by omega), ?_⟩
    rintro _ rfl
    have w0 : σ1.1 (56 + 3 * 1) (k * wd 1 + 0) = nI (gD g k 0) := v0
    have w1 : σ1.1 (56 + 3 * 1) (k * wd 1 + 1) = nI (gD g k 1) := v1
    have w2 : σ1.1 (56 + 3 * 1) (k * wd 1 + 2) = nI (gD g k 2) := v2
    have w3 : σ1.1 (56 + 3 * 1) (k * wd 1 + 3) + 1 = nI (gD g k 3) := v3
    simp (disch := decide) only [wI_ne]
    rw [w0, w1, w2, w3]
    refine ⟨vp_in_nI (by omega) (by omega), vp_in_nI (by omega) (by omega), ?_⟩
    rw [wI_at, if_pos rfl, wI_at, if_pos rfl, k12, nI_mul, nI_add, nI_c (by omega)]
    refine ⟨vp_in_nI (by omega) (by omega), ?_⟩
    rintro _ rfl
    generalize hS : wI (wI (wI (wI (wI σ1 4 k (nI (gD g k 0))) 5 k (nI (gD g k 1))) 6 k (nI (gD g k 2))) 7 k (nI (gD g k 3))) 8 (gD g k 0 * 12 + gD g k 1) (nI k) = σ2
    have hF2 : Fr CFa σ1 σ2 := by
      rw [← hS]
      exact ((((Fr.wI rfl).tr' (Fr.wI rfl)).tr' (Fr.wI rfl)).tr' (Fr.wI rfl)).tr' (Fr.wI rfl)
    have x4 : σ2.1 4 = fun b => if b = k then nI (gD g k 0) else σ1.1 4 b := by rw [← hS]; simp (disch := decide) only [wI_ne]; rw [wI_eq]
    have x5 : σ2.1 5 = fun b => if b = k then nI (gD g k 1) else σ1.1 5 b := by rw [← hS]; simp (disch := decide) only [wI_ne]; rw [wI_eq, wI_ne (by decide)]
    have x6 : σ2.1 6 = fun b => if b = k then nI (gD g k 2) else σ1.1 6 b := by rw [← hS]; simp (disch := decide) only [wI_ne]; rw [wI_eq, wI_ne (by decide), wI_ne (by decide)]
    have x7 : σ2.1 7 = fun b => if b = k then nI (gD g k 3) else σ1.1 7 b := by rw [← hS]; simp (disch := decide) only [wI_ne]; rw [wI_eq, wI_ne (by decide), wI_ne (by decide), wI_ne (by decide)]
    have x8 : σ2.1 8 = fun b => if b = gD g k 0 * 12 + gD g k 1 then nI k else σ1.1 8 b := by rw [← hS, wI_eq]; simp (disch := decide) only [wI_ne]
    have x9 : σ2.1 9 = σ1.1 9 := by rw [← hS]; simp (disch := decide) only [wI_ne]
    have x3 : σ2.1 3 = σ1.1 3 := by rw [← hS]; simp (disch := decide) only [wI_ne]
    have x2 : σ2.1 2 = σ1.1 2 := by rw [← hS]; simp (disch := decide) only [wI_ne]
    refine sX6_noteHidden hG hk rfl (by rw [x4]; exact if_pos rfl) (by rw [x5]; exact if_pos rfl) (fun c hc a ha k' hk' => by rw [x9]; exact hHd c hc a ha k' hk') (fun σ3 hF3 hH3 => ?_)
    rintro _ rfl
    rw [nI_1]
    refine ih (k + 1) σ3 (by omega) ((hF.tr' hF2).tr' (hF3.up CF9_CFa)) (by rw [hF3.i rfl, x2]; exact h25) (fun c hc => by rw [hF3.i rfl, x3]; exact hsp1 c hc) (fun k' hk' => ?_) (fun c hc p hp => ?_) hH3
    · rw [hF3.i rfl, hF3.i rfl, hF3.i rfl, hF3.i rfl, x4, x5, x6, x7]
      dsimp only
      by_cases e : k' = k
      · subst e; simp only [if_true, if_pos rfl]; exact ⟨trivial, trivial, trivial, trivial⟩
      · simp only [if_neg e]; exact hDk k' (by omega)
    · rw [hF3.i rfl, x8]
      dsimp only
      rw [lastk]
      by_cases e : c * 12 + p = gD g k 0 * 12 + gD g k 1
      · have ec : gD g k 0 = c := by omega
        have ep : gD g k 1 = p := by omega
        rw [if_pos e, if_pos (by simp [ec, ep]), fI_s]
      · rw [if_neg e, if_neg ?_]
        · exact hFm c hc p hp
        · simp only [Bool.and_eq_true, beq_iff_eq]
          rintro ⟨a, b⟩
          exact e (by omega)
end CY
