/-- how all goes by the game g, told by course o -/
def CCo (σ : Hp) (o : Nat) (g : Gm) (T : Nat) : Prop := ∀ t, t < T → (∀ c, c < 3 → σ.1 (o + 1) (t * 3 + c) = nI (gnb g (t + 1) c)) ∧ (∀ k, k < 32 → bt (σ.1 (o + 2) t) k = (hasE g 2 t k || (decide (k < nd g) && decide (5 < pl g (t + 1) k)))) ∧ σ.1 (o + 3) t = nI (drg g t)
def isCo (o : Nat) : Prop := o = 15 ∨ o = 19
theorem co_fact {o : Nat} (h : isCo o) : kd o = 0 ∧ rt o 2 = o + 1 ∧ rt o 3 = o + 2 ∧ rt o 4 = o + 3 ∧ iln (o + 1) = 72 ∧ iln (o + 2) = 24 ∧ iln (o + 3) = 24 := by
  rcases h with rfl | rfl <;> decide
theorem CCo.eq {σ σ' : Hp} {o : Nat} {g : Gm} {T : Nat} (h : CCo σ o g T) (h1 : σ'.1 (o + 1) = σ.1 (o + 1)) (h2 : σ'.1 (o + 2) = σ.1 (o + 2)) (h3 : σ'.1 (o + 3) = σ.1 (o + 3)) : CCo σ' o g T := by
  unfold CCo at h ⊢
  rw [h1, h2, h3]; exact h
theorem sX8_isSet {x y : Int32} {n : Nat} {σ : Hp} {post : Int32 → Hp → Prop} (hy : y = nI n) (hn : n < 32) (h1 : bt x n = true → post 1 σ) (h0 : bt x n = false → post 0 σ) : vX8_isSet x y σ post := by
  subst hy
  unfold vX8_isSet
  rw [bt_shr hn]
  exact ⟨fun c => h1 c, fun c => h0 (by simpa using c)⟩
def fmV (x : Int32) : Int32 := if 0 ≤ x ^^^ 12 then x - x / 12 * 12 else if x - x / 12 * 12 = 0 then x - x / 12 * 12 else x - x / 12 * 12 + 12
theorem fm_all : ∀ a, a < 12 → ∀ v, v < 4 → fmV (nI a + nI v) = nI ((a + spN (nI v)) % 12) ∧ fmV (nI a + -(nI v)) = nI ((a + spN (-(nI v))) % 12) := by decide +kernel
theorem sJ9_floorMod {x : Int32} {σ : Hp} {post : Int32 → Hp → Prop} (h : post (fmV x) σ) : vJ9_floorMod_7cf53 x 12 σ post := by
  unfold vJ9_floorMod_7cf53
  refine ⟨by decide, ?_⟩
  rintro _ rfl
  unfold fmV at h
  refine ⟨fun q => ?_, fun q => ⟨fun q2 => ?_, fun q2 => ?_⟩⟩
  · rw [if_pos q] at h; exact h
  · rw [if_neg q, if_pos q2] at h; exact h
  · rw [if_neg q, if_neg q2] at h; exact h
theorem gnb_lt (g : Gm) : ∀ T c, gnb g T c < 12
  | 0, c => by rw [gnb]; omega
  | T + 1, c => by rw [gnb]; exact Nat.mod_lt _ (by omega)
section CZ
variable {σ : Hp} {g : Gm} {post : Int32 → Hp → Prop} {postv : Hp → Prop}
theorem sX1_numbers (hE : CEv σ (gne g) (gE g)) {kind t : Nat} {x a : Int32} (hx : ∀ e, e < gne g → bt x e = (gE g e 1 == t && gch g e)) (hk : kind < 3) (ha : a = nI kind) (h : ∀ r : Int32, (∀ c, c < 32 → bt r c = anyb (evb g kind t c) (gne g)) → post r σ) : vX1_numbers x a σ post := by
  subst ha
  obtain ⟨e1, e2, e3, e4⟩ := hE
  suffices L : ∀ (d e : Nat) (r : Int32), e + d = gne g → (∀ c, c < 32 → bt r c = anyb (evb g kind t c) e) → vX1_numbers_5 post (fun z3_1 σ_2 => post z3_1 σ_2) x (nI kind) (d + 1) r (nI e) σ from ⟨gne g + 1, L (gne g) 0 0 (by omega) (fun c _ => bt_zero c)⟩
  intro d
  induction d with
  | zero =>
    intro e r hd hr
    rw [vX1_numbers_5]; dsimp only; rw [e1]
    refine ⟨fun _ => h r ?_, fun c => absurd (nI_le (by omega) (by omega)) c⟩
    rw [show gne g = e by omega]; exact hr
  | succ d ih =>
    intro e r hd hr
    obtain ⟨x0, x1, x2, r0, r1, r2⟩ := e3 e (by omega)
    have no : (∀ c, c < 32 → evb g kind t c e = false) → ∀ x4 : Int32, x4 = nI e + 1 → vX1_numbers_5 post (fun z3_1 σ_2 => post z3_1 σ_2) x (nI kind) (d + 1) r x4 σ := by
      rintro hz _ rfl
      rw [nI_1]
      refine ih (e + 1) r (by omega) (fun c hc => ?_)
      rw [hr c hc, anyb, hz c hc, Bool.or_false]
    rw [vX1_numbers_5]; dsimp only; rw [e1]
    refine ⟨fun c => absurd c (nI_ge (by omega) (by omega)), fun _ => ?_⟩
    refine sX8_isSet rfl (by omega) (fun q => ⟨fun q => absurd q (by decide), fun _ => ⟨vp_in_nI (by omega) (by omega), ?_⟩⟩) (fun q => ⟨fun _ => no (fun c hc => ?_), fun q => absurd rfl q⟩)
    · rw [hx e (by omega)] at q
      simp only [Bool.and_eq_true, beq_iff_eq] at q
      rw [nI_c (by omega), x0, x2, nI_eq2 (by omega) (by omega)]
      refine ⟨fun q0 => ⟨vp_in_nI (by omega) (by omega), ?_⟩, fun q0 => no (fun c hc => by simp [evb, q0])⟩
      rintro _ rfl _ rfl
      rw [nI_1]
      refine ih (e + 1) _ (by omega) (fun c hc => ?_)
      rw [b_or, hr c hc, anyb, bt_one (by omega) hc]
      congr 1
      simp only [evb, q.2, q0, q.1]
      by_cases hq : c = gE g e 2
      · subst hq; simp
      · have : ¬ gE g e 2 = c := fun h => hq h.symm
        simp [hq, this]
    · rw [hx e (by omega)] at q
      rw [Bool.and_eq_false_iff] at q
      rcases q with q | q
      · have : ¬ gE g e 1 = t := by simpa using q
        simp [evb, this]
      · simp [evb, q]
theorem sX0_goOn {o : Nat} (ho : isCo o) (hS : CSt σ g) (hG : Gok g) {t : Nat} {a J : Int32} (ht : t < 24) (ha : a = nI t) (hC : CCo σ o g t) (hJ : ∀ c, c < 32 → bt J c = hasE g 0 t c) (h : ∀ (σ' : Hp) (r : Int32), Fr (fun a b => Nat.beq a (o + 1) && Nat.ble (t * 3) b) σ σ' → (∀ c, c < 3 → σ'.1 (o + 1) (t * 3 + c) = nI (gnb g (t + 1) c)) → (∀ k, k < 32 → bt r k = (decide (k < nd g) && decide (5 < pl g (t + 1) k))) → post r σ') : vX0_goOn o a J σ post := by
  subst ha
  obtain ⟨f1, f2, f3, f4, f5, f6, f7⟩ := co_fact ho
  have ho9 : 9 < o ∧ o < 20 := by rcases ho with rfl | rfl <;> omega
  obtain ⟨s1, s2, s3, s4, s5⟩ := id hS
  suffices L : ∀ (d c : Nat) (r : Int32) (σ1 : Hp), c + d = 3 → Fr (fun a b => Nat.beq a (o + 1) && Nat.ble (t * 3) b) σ σ1 → (∀ c', c' < c → σ1.1 (o + 1) (t * 3 + c') = nI (gnb g (t + 1) c')) → (∀ k, k < 32 → bt r k = (decide (k < nd g) && decide (gD g k 0 < c) && decide (5 < pl g (t + 1) k))) → vX0_goOn_5 post (fun z3_1 σ_2 => post z3_1 σ_2) o (nI t) J (d + 1) r (nI c) σ1 by
    exact ⟨3 + 1, L 3 0 0 σ (by omega) Fr.rf (fun c hc => absurd hc (Nat.not_lt_zero c)) (fun k hk => by rw [bt_zero, decide_eq_false (Nat.not_lt_zero _)]; simp)⟩
  intro d
  induction d with
  | zero =>
    intro c r σ1 hd hF hg hr
    rw [vX0_goOn_5]; dsimp only; rw [k3]
    refine ⟨fun _ => h σ1 r hF (fun c' hc' => hg c' (by omega)) (fun k hk => ?_), fun c => absurd (nI_le (by omega) (by omega)) c⟩
    rw [hr k hk]
    by_cases e : k < nd g
    · rw [decide_eq_true e, decide_eq_true (show gD g k 0 < c by have := (hG.2.1 k e).1; omega)]; rfl
    · rw [decide_eq_false e]; rfl
  | succ d ih =>
    intro c r σ1 hd hF hg hr
    have hc3 : c < 3 := by omega
    have hkeep : ∀ a b, a ≠ o + 1 → σ1.1 a b = σ.1 a b := fun a b hne => hF.i (by show (Nat.beq a (o + 1) && _) = false; rw [beq_f hne]; rfl)
    have core : ∀ y0 : Int32, y0 = nI (gnb g t c) → vX0_goOn_32 post (fun z3_1 σ_2 => post z3_1 σ_2) (vX0_goOn_5 post (fun z3_1 σ_2 => post z3_1 σ_2) o (nI t) J (d + 1)) o (nI t) J r (nI c) y0 σ1 := by
      rintro _ rfl
      have c57 : ∀ y1 : Int32, fmV (nI (gnb g t c) + y1) = nI (gnb g (t + 1) c) → vX0_goOn_57 post (fun z3_1 σ_2 => post z3_1 σ_2) (vX0_goOn_5 post (fun z3_1 σ_2 => post z3_1 σ_2) o (nI t) J (d + 1)) o (nI t) J r (nI c) (nI (gnb g t c)) y1 σ1 := by
        intro y1 hy
        unfold vX0_goOn_57
        refine sJ9_floorMod ?_
        rw [hy, f2, f5]
        have hl := gnb_lt g (t + 1) c
        rw [k3, k12, nI_mul, nI_mul, nI_add, nI_add, nI_c (by omega), nI_c (by omega)]
        refine ⟨f1, vp_in_nI (by omega) (by omega), ?_⟩
        rintro _ rfl
        refine ⟨vp_in_nI (by omega) (by omega), ?_⟩
        rintro _ rfl _ rfl
        rw [nI_1]
        refine ih (c + 1) _ _ (by omega) (hF.tr' (Fr.wI (by show (Nat.beq (o + 1) (o + 1) && Nat.ble (t * 3) (t * 3 + c)) = true; rw [beq_s, Nat.ble_eq_true_of_le (by omega)]; rfl))) (fun c' hc' => ?_) (fun k hk => ?_)
        · rw [wI_at]
          by_cases e : c' = c
          · rw [if_pos (by omega), e]
          · rw [if_neg (by omega)]; exact hg c' (by omega)
        · rw [b_or, hr k hk, wI_ne (by omega), hkeep 9 _ (by omega), s5 c hc3 _ hl k hk]
          by_cases e : k < nd g
          · have hd0 := (hG.2.1 k e).1
            rw [decide_eq_true e, Bool.true_and, Bool.true_and, Bool.true_and]
            by_cases e2 : gD g k 0 = c
            · have hpl : (gD g k 1 + gnb g (t + 1) c) % 12 = pl g (t + 1) k := by unfold pl; rw [e2]
              rw [hpl, decide_eq_false (show ¬ gD g k 0 < c by omega), decide_eq_true (show gD g k 0 < c + 1 by omega)]
              simp [e2]
            · have hcc : decide (gD g k 0 < c) = decide (gD g k 0 < c + 1) := decide_eq_decide.mpr (by omega)
              rw [hcc]
              simp [e2]
          · rw [decide_eq_false e]; rfl
      unfold vX0_goOn_32
      have hgt := gnb_lt g t c
      refine sX8_isSet rfl (by omega) (fun q => ⟨fun q => absurd q (by decide), fun _ => ?_⟩) (fun q => ⟨fun _ => ⟨f1, vp_in_nI (by omega) (by omega), ?_⟩, fun q => absurd rfl q⟩)
      · rw [hJ c (by omega)] at q
        refine c57 0 ?_
        have := (fm_all (gnb g t c) hgt 0 (by omega)).1
        have this : fmV (nI (gnb g t c) + 0) = nI ((gnb g t c + 0) % 12) := this
        rw [this, gnb, if_pos q]
      · rw [hJ c (by omega)] at q
        rw [nI_c (by omega), hkeep 3 _ (by omega), s2 c hc3]
        refine c57 _ ?_
        rw [gnb, if_neg (by rw [q]; decide)]
        obtain ⟨v, hv, e | e⟩ := hG.2.2.2.1 c hc3
        · rw [e]; exact (fm_all _ hgt v (by omega)).1
        · rw [e]; exact (fm_all _ hgt v (by omega)).2
    rw [vX0_goOn_5]; dsimp only; rw [k3]
    refine ⟨fun c => absurd c (nI_ge (by omega) (by omega)), fun _ => ?_⟩
    rw [k0, nI_eq2 (by omega) (by omega)]
    refine ⟨fun q => core _ (by rw [q]; rfl), fun q => ⟨f1, ?_⟩⟩
    rw [f2, f5, k1, pk_sub (by omega), nI_mul, nI_add, nI_c (by omega)]
    refine ⟨vp_in_nI (by omega) (by omega), core _ ?_⟩
    rw [hF.i (by show (Nat.beq (o + 1) (o + 1) && Nat.ble (t * 3) _) = false; rw [ble_f (by omega), Bool.and_false])]
    have := (hC (t - 1) (by omega)).1 c hc3
    rw [this, show t - 1 + 1 = t by omega]
def CFo (o : Nat) : Nat → Nat → Bool := fun a _ => Nat.ble (o + 1) a && Nat.ble a (o + 3)
theorem CFo_t {o a b : Nat} (h1 : o + 1 ≤ a) (h2 : a ≤ o + 3) : CFo o a b = true := by unfold CFo; rw [Nat.ble_eq_true_of_le h1, Nat.ble_eq_true_of_le h2]; rfl
theorem CFo_f {o a b : Nat} (h : a < o + 1 ∨ o + 3 < a) : CFo o a b = false := by
  unfold CFo
  rcases h with h | h
  · rw [ble_f h]; rfl
  · rw [ble_f h, Bool.and_false]
theorem sX0_go {o : Nat} (ho : isCo o) (hS : CSt σ g) (hG : Gok g) (hE : CEv σ (gne g) (gE g)) {x : Int32} (hx : ∀ e, e < gne g → gch g e = bt x e) (h : ∀ σ', Fr (CFo o) σ σ' → CCo σ' o g 24 → postv σ') : vX0_go o x σ postv := by
  obtain ⟨f1, f2, f3, f4, f5, f6, f7⟩ := co_fact ho
  have ho9 : 14 < o ∧ o < 20 := by rcases ho with rfl | rfl <;> omega
  have kS : ∀ σ1, Fr (CFo o) σ σ1 → CSt σ1 g := fun σ1 hF => hS.fr hF (CFo_f (by omega)) (fun _ => CFo_f (by omega)) (fun _ => CFo_f (by omega)) (fun _ => CFo_f (by omega)) (fun _ => CFo_f (by omega)) (fun _ => CFo_f (by omega)) (fun _ => CFo_f (by omega)) (fun _ => CFo_f (by omega))
  have kE : ∀ σ1, Fr (CFo o) σ σ1 → CEv σ1 (gne g) (gE g) := fun σ1 hF => hE.fr hF (CFo_f (by omega)) (fun _ => CFo_f (by omega)) (fun _ => CFo_f (by omega)) (fun _ => CFo_f (by omega)) (fun _ => CFo_f (by omega))
  suffices L : ∀ (d t : Nat) (σ1 : Hp), t + d = 24 → Fr (CFo o) σ σ1 → CCo σ1 o g t → vX0_go_2 postv (fun σ_1 => postv σ_1) o x (d + 1) (nI t) σ1 from ⟨24 + 1, L 24 0 σ (by omega) Fr.rf (fun t ht => absurd ht (Nat.not_lt_zero t))⟩
  intro d
  induction d with
  | zero =>
    intro t σ1 hd hF hC
    rw [vX0_go_2]; dsimp only; rw [k24]
    have : t = 24 := by omega
    subst this
    exact ⟨fun _ => h σ1 hF hC, fun c => absurd (nI_le (by omega) (by omega)) c⟩
  | succ d ih =>
    intro t σ1 hd hF hC
    have hE1 := kE σ1 hF
    have hS1 := kS σ1 hF
    have core : ∀ J Z R : Int32, (∀ c, c < 32 → bt J c = anyb (evb g 0 t c) (gne g)) → (∀ c, c < 32 → bt Z c = anyb (evb g 2 t c) (gne g)) → (∀ c, c < 32 → bt R c = anyb (evb g 1 t c) (gne g)) → vX0_go_66 postv (fun σ_1 => postv σ_1) (vX0_go_2 postv (fun σ_1 => postv σ_1) o x (d + 1)) o x (nI t) J Z R σ1 := by
      intro J Z R hJ hZ hR
      obtain ⟨q0, q1⟩ := evb_dr hG t hR
      have tail : ∀ v : Int32, v = nI (drg g t) → vX0_goOn o (nI t) J (wI σ1 (o + 3) t v) (fun r_6 σ_5 => (vp_in (nI t) 24 ∧ ∀ σ_8 : Hp, σ_8 = wI σ_5 (o + 2) t (Z ||| r_6) → (∀ x2_9 : Int32, x2_9 = nI t + (1 : Int32) → (vX0_go_2 postv (fun σ_1 => postv σ_1) o x (d + 1) x2_9 σ_8)))) := by
        rintro _ rfl
        have hFa : Fr (CFo o) σ1 (wI σ1 (o + 3) t (nI (drg g t))) := Fr.wI (CFo_t (by omega) (by omega))
        refine sX0_goOn ho (kS _ (hF.tr' hFa)) hG (by omega) rfl (fun t' ht' => ?_) hJ (fun σ2 r hF2 hg2 hr2 => ⟨vp_in_nI (by omega) (by omega), ?_⟩)
        · obtain ⟨y1, y2, y3⟩ := hC t' ht'
          rw [wI_ne (by omega), wI_ne (by omega), wI_at, if_neg (by omega)]
          exact ⟨y1, y2, y3⟩
        · rintro _ rfl _ rfl
          rw [nI_1]
          have hFb : Fr (CFo o) (wI σ1 (o + 3) t (nI (drg g t))) σ2 := hF2.up (fun a b hab => by
            have : a ≠ o + 1 := by rintro rfl; rw [CFo_t (by omega) (by omega)] at hab; cases hab
            show (Nat.beq a (o + 1) && _) = false
            rw [beq_f this]; rfl)
          have hk2 : ∀ a b, a ≠ o + 1 → σ2.1 a b = (wI σ1 (o + 3) t (nI (drg g t))).1 a b := fun a b hne => hF2.i (by show (Nat.beq a (o + 1) && _) = false; rw [beq_f hne]; rfl)
          refine ih (t + 1) _ (by omega) (((hF.tr' hFa).tr' hFb).tr' (Fr.wI (CFo_t (by omega) (by omega)))) (fun t' ht' => ?_)
          rw [wI_ne (by omega), wI_at, wI_ne (by omega)]
          by_cases e : t' = t
          · subst e
            refine ⟨hg2, fun k hk => ?_, ?_⟩
            · rw [if_pos rfl, b_or, hZ k hk, hr2 k hk]; rfl
            · rw [hk2 _ _ (by omega), wI_at, if_pos rfl]
          · obtain ⟨y1, y2, y3⟩ := hC t' (by omega)
            refine ⟨fun c hc => ?_, fun k hk => ?_, ?_⟩
            · rw [hF2.i (by show (Nat.beq (o + 1) (o + 1) && Nat.ble (t * 3) _) = false; rw [ble_f (by omega), Bool.and_false]), wI_ne (by omega)]
              exact y1 c hc
            · rw [if_neg e, hk2 _ _ (by omega), wI_ne (by omega)]
              exact y2 k hk
            · rw [hk2 _ _ (by omega), wI_at, if_neg e]
              exact y3
      unfold vX0_go_66
      rw [f3, f4, f6, f7, nI_c (by omega)]
      refine ⟨f1, fun q => ⟨vp_in_nI (by omega) (by omega), ?_⟩, fun q => ⟨vp_in_nI (by omega) (by omega), ?_⟩⟩
      · rintro _ rfl
        exact tail _ (by rw [q0 q]; rfl)
      · rintro _ rfl
        exact tail _ (by rw [q1 q]; rfl)
    rw [vX0_go_2]; dsimp only; rw [k24]
    refine ⟨fun c => absurd c (nI_ge (by omega) (by omega)), fun _ => ⟨f1, vp_in_nI (by omega) (by omega), ?_⟩⟩
    rintro _ rfl
    rw [nI_c (by omega)]
    have hnow : ∀ e, e < 32 → bt (σ1.1 14 t &&& x) e = (decide (e < gne g) && gE g e 1 == t && bt x e) := fun e he => by rw [b_and, hE1.2.2.2 t (by omega) e he]
    have hnow2 : ∀ e, e < gne g → bt (σ1.1 14 t &&& x) e = (gE g e 1 == t && gch g e) := fun e he => by
      have := hE.2.1
      rw [hnow e (by omega), decide_eq_true he, Bool.true_and, hx e he]
    refine ⟨fun q => ?_, fun q => ?_⟩
    · have hz : ∀ kind c, anyb (evb g kind t c) (gne g) = false := fun kind c => by
        cases hh : anyb (evb g kind t c) (gne g)
        · rfl
        · obtain ⟨e, he, hp⟩ := anyb_iff.mp hh
          have h1 := hnow2 e he
          rw [q, bt_zero] at h1
          simp only [evb, Bool.and_eq_true, beq_iff_eq] at hp
          simp [hp.1.1.1, hp.1.2] at h1
      exact core 0 0 0 (fun c _ => by rw [bt_zero, hz]) (fun c _ => by rw [bt_zero, hz]) (fun c _ => by rw [bt_zero, hz])
    · refine sX1_numbers hE1 hnow2 (by omega : 0 < 3) rfl (fun J hJ => ?_)
      refine sX1_numbers hE1 hnow2 (by omega : 2 < 3) rfl (fun Z hZ => ?_)
      refine sX1_numbers hE1 hnow2 (by omega : 1 < 3) rfl (fun R hR => ?_)
      exact core J Z R hJ hZ hR
theorem sX0_placeBehind {o : Nat} (ho : isCo o) (hS : CSt σ g) (hG : Gok g) (hC : CCo σ o g 24) {t k : Nat} {a b : Int32} (ht : t < 24) (hk : k < nd g) (ha : a = nI t) (hb : b = nI k) (h : post (nI (pl g (t + 1) k)) σ) : vX0_placeBehind o a b σ post := by
  subst ha hb
  obtain ⟨f1, f2, f3, f4, f5, f6, f7⟩ := co_fact ho
  have g1 := hG.1
  obtain ⟨d0, d1, -⟩ := hG.2.1 k hk
  obtain ⟨s1, s2, s3, s4, s5⟩ := id hS
  obtain ⟨x4, x5, -⟩ := s3 k hk
  have hl := gnb_lt g (t + 1) (gD g k 0)
  unfold vX0_placeBehind
  rw [nI_c (by omega), x4, x5, f2, f5, k3, k12, nI_mul, nI_add, nI_c (by omega), (hC t ht).1 _ d0, nI_add, nI_rem (by omega) (by omega) (by omega)]
  exact ⟨f1, vp_in_nI (by omega) (by omega), vp_in_nI (by omega) (by omega), vp_in_nI (by omega) (by omega), h⟩
theorem sX0_duckAt {o : Nat} (ho : isCo o) (s4 : CFm σ g (nd g)) (hG : Gok g) (hC : CCo σ o g 24) {t c p : Nat} {a b d : Int32} (ht : t < 24) (hc : c < 3) (hp : p < 12) (ha : a = nI t) (hb : b = nI c) (hd : d = nI p) (h : post (fI (who g (t + 1) c p)) σ) : vX0_duckAt o a b d σ post := by
  subst ha hb hd
  obtain ⟨f1, f2, f3, f4, f5, f6, f7⟩ := co_fact ho
  have hl := gnb_lt g (t + 1) c
  unfold vX0_duckAt
  rw [f2, f5, k3, k12, nI_mul, nI_add, nI_c (by omega), (hC t ht).1 c hc, nI_add, pk_sub (by omega), nI_rem (by omega) (by omega) (by omega)]
  refine ⟨f1, vp_in_nI (by omega) (by omega), ?_⟩
  rintro _ rfl
  rw [nI_mul, nI_add, nI_c (by omega), s4 c hc _ (Nat.mod_lt _ (by omega))]
  refine ⟨vp_in_nI (by omega) (by omega), ?_⟩
  have e : lastk (fun k => gD g k 0 == c && gD g k 1 == (p + 12 - gnb g (t + 1) c) % 12) (nd g) = who g (t + 1) c p := by
    refine lastk_cong (fun k hk => ?_)
    have d1 := (hG.2.1 k hk).2.1
    by_cases e0 : gD g k 0 = c
    · have : (gD g k 1 = (p + 12 - gnb g (t + 1) c) % 12) ↔ pl g (t + 1) k = p := by
        unfold pl; rw [e0]; omega
      have hb : (gD g k 1 == (p + 12 - gnb g (t + 1) c) % 12) = (pl g (t + 1) k == p) := by
        rw [Bool.eq_iff_iff, beq_iff_eq, beq_iff_eq]; exact this
      rw [hb]
    · have : (gD g k 0 == c) = false := by simp [e0]
      rw [this]; rfl
  rw [e]; exact h
end CZ
