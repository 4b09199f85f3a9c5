section MR
variable {σ : Hp} {g : Gm} {post : Int32 → Hp → Prop} {n : Nat} {Q : Nat → Nat → Nat}
/-- no shot misses without these events -/
def spb (g : Gm) (x : Int32) : Bool := gmany (gCh g (fun e => !bt x e)) == ns g
theorem sX9_isSpared (hM : MIn σ g) (hG : Gok g) (h15 : σ.1 71 15 = 0) {x : Int32} (h1 : ∀ σ', Fr MF σ σ' → spb g x = true → post 1 σ') (h0 : ∀ σ', Fr MF σ σ' → spb g x = false → post 0 σ') : vX9_isSpared x σ post := by
  have g5 := hG.2.2.2.2.1
  unfold vX9_isSpared
  rintro _ rfl
  have hM1 := MIn.ch hM (x := x) (σ' := σ) Fr.rf
  refine sX9_lives hM1 (hG.ch _) (fun σ2 hF2 hO2 => ?_)
  rintro _ rfl
  have hF3 : Fr MF σ (wI σ2 71 15 0) := fr_back ((Fr1_w).tr' (Fr1_up hF2)) h15.symm
  have h10 : (wI σ2 71 15 0).1 71 10 = nI (ns g) := by rw [hF3.i rfl]; exact hM.2.1
  have hO3 : MOut (wI σ2 71 15 0) (gCh g (fun e => !bt x e)) := by
    have hF : Fr (fun a _ => Nat.beq a 71) σ2 (wI σ2 71 15 0) := Fr.wI rfl
    exact ⟨hO2.1.fr hF, hO2.2.fr hF⟩
  refine sX9_manyHit (g := gCh g (fun e => !bt x e)) h10 (hG.ch _) hO3 ?_
  have hml := gmany_le (gCh g (fun e => !bt x e))
  have hml : gmany (gCh g (fun e => !bt x e)) ≤ ns g := hml
  rw [h10, nI_eq2 (by omega) (by omega)]
  refine ⟨fun q => h1 _ hF3 (by unfold spb; simp [q]), fun q => h0 _ hF3 (by unfold spb; simp [q])⟩
def sp1 (g : Gm) : Nat := fa_first (fun a => spb g (on a)) (gne g)
def sp2 (g : Gm) (a : Nat) : Nat := fa_first (fun b => decide (a < b) && spb g (on a ||| on b)) (gne g)
def sp3 (g : Gm) : Nat := fa_first (fun a => decide (sp2 g a < gne g)) (gne g)
/-- which events had better not be -/
def gspa (g : Gm) (i : Int32) : Int32 :=
  if spb g 0 then (if i = -1 then 0 else -1)
  else if sp1 g < gne g then (if i = -1 then 1 else if i = 0 then nI (sp1 g) else -1)
  else if sp3 g < gne g then (if i = -1 then 2 else if i = 0 then nI (sp3 g) else nI (sp2 g (sp3 g)))
  else -1
theorem MIn.f (hM : MIn σ g) {σ' : Hp} (hF : Fr MF σ σ') : MIn σ' g := hM.fr hF
theorem sX9_spareBy (hM : MIn σ g) (hG : Gok g) (h15 : σ.1 71 15 = 0) {i : Int32} (h : ∀ σ', Fr MF σ σ' → post (gspa g i) σ') : vX9_spareBy i σ post := by
  obtain ⟨-, -, -, -, -, -, -, -, g9, -⟩ := id hG
  have hM' : ∀ σ', Fr MF σ σ' → MIn σ' g ∧ σ'.1 71 15 = 0 ∧ σ'.1 71 13 = nI (gne g) := fun σ' hF => ⟨hM.fr hF, by rw [hF.i rfl]; exact h15, by rw [hF.i rfl]; exact hM.2.2.1⟩
  -- the inner loop over pairs
  have L3 : ∀ (a : Nat) (ex : Hp → Prop), spb g 0 = false → ¬ sp1 g < gne g → (∀ a', a' < a → ¬ sp2 g a' < gne g) → a < gne g → (∀ σ', Fr MF σ σ' → ¬ sp2 g a < gne g → ex σ') → ∀ (d b : Nat) (σ1 : Hp), b + d = gne g → a < b → Fr MF σ σ1 → (∀ b', a < b' → b' < b → spb g (on a ||| on b') = false) → vX9_spareBy_78 post ex i (nI a) (d + 1) (nI b) σ1 := by
    intro a ex s0 s1 s2 ha hex d
    induction d with
    | zero =>
      intro b σ1 hd hab hF hb
      obtain ⟨-, -, h13⟩ := hM' σ1 hF
      rw [vX9_spareBy_78]; dsimp only; rw [h13]
      refine ⟨fun _ => hex σ1 hF ?_, fun c => absurd (nI_le (by omega) (by omega)) c⟩
      unfold sp2
      rw [first_none (fun b' hb' => ?_)]
      · omega
      · by_cases e : a < b'
        · rw [hb b' e (by omega), Bool.and_false]
        · rw [decide_eq_false e, Bool.false_and]
    | succ d ih =>
      intro b σ1 hd hab hF hb
      obtain ⟨hM1, h151, h13⟩ := hM' σ1 hF
      rw [vX9_spareBy_78]; dsimp only; rw [h13]
      refine ⟨fun c => absurd c (nI_ge (by omega) (by omega)), fun _ => ?_⟩
      refine sX9_isSpared hM1 hG h151 (fun σ2 hF2 hs => ?_) (fun σ2 hF2 hs => ?_)
      · refine ⟨fun q => absurd q (by decide), fun _ => ?_⟩
        have hs : spb g (on a ||| on b) = true := hs
        have e2 : sp2 g a = b := first_at (by omega) (by rw [hs, decide_eq_true hab]; rfl) (fun b' hb' => by
          by_cases e : a < b'
          · rw [hb b' e (by omega), Bool.and_false]
          · rw [decide_eq_false e, Bool.false_and])
        have e3 : sp3 g = a := first_at ha (by rw [e2, decide_eq_true (by omega)]) (fun a' ha' => decide_eq_false (s2 a' ha'))
        have hend := h σ2 (hF.tr' hF2)
        unfold gspa at hend
        rw [s0, if_neg (by decide), if_neg s1, e3, if_pos ha, e2] at hend
        refine ⟨fun q => ?_, fun q => ⟨fun q2 => ?_, fun q2 => ?_⟩⟩
        · rw [if_pos q] at hend; exact hend
        · rw [if_neg q, if_pos q2] at hend; exact hend
        · rw [if_neg q, if_neg q2] at hend; exact hend
      · refine ⟨fun _ => ?_, fun q => absurd rfl q⟩
        rintro _ rfl
        rw [nI_1]
        refine ih (b + 1) σ2 (by omega) (by omega) (hF.tr' hF2) (fun b' h1 h2 => ?_)
        by_cases e : b' = b
        · subst e; exact hs
        · exact hb b' h1 (by omega)
  have L2 : spb g 0 = false → ¬ sp1 g < gne g → ∀ (d a : Nat) (σ1 : Hp), a + d = gne g → Fr MF σ σ1 → (∀ a', a' < a → ¬ sp2 g a' < gne g) → vX9_spareBy_66 post (fun σ_5 => post (-1 : Int32) σ_5) i (d + 1) (nI a) σ1 := by
    intro s0 s1 d
    induction d with
    | zero =>
      intro a σ1 hd hF h2
      obtain ⟨-, -, h13⟩ := hM' σ1 hF
      rw [vX9_spareBy_66]; dsimp only; rw [h13]
      refine ⟨fun _ => ?_, fun c => absurd (nI_le (by omega) (by omega)) c⟩
      have e3 : ¬ sp3 g < gne g := by
        unfold sp3
        rw [first_none (fun a' ha' => decide_eq_false (h2 a' (by omega)))]; omega
      have hend := h σ1 hF
      unfold gspa at hend
      rw [s0, if_neg (by decide), if_neg s1, if_neg e3] at hend
      exact hend
    | succ d ih =>
      intro a σ1 hd hF h2
      obtain ⟨-, -, h13⟩ := hM' σ1 hF
      rw [vX9_spareBy_66]; dsimp only; rw [h13]
      refine ⟨fun c => absurd c (nI_ge (by omega) (by omega)), fun _ => ?_⟩
      rintro _ rfl
      rw [nI_1]
      refine ⟨gne g - (a + 1) + 1, L3 a _ s0 s1 h2 (by omega) (fun σ2 hF2 hno => ?_) (gne g - (a + 1)) (a + 1) σ1 (by omega) (by omega) hF (fun b' q1 q2 => absurd q1 (by omega))⟩
      rintro _ rfl
      refine ih (a + 1) σ2 (by omega) hF2 (fun a' ha' => ?_)
      by_cases e : a' = a
      · subst e; exact hno
      · exact h2 a' (by omega)
  have L1 : spb g 0 = false → ∀ (d a : Nat) (σ1 : Hp), a + d = gne g → Fr MF σ σ1 → (∀ a', a' < a → spb g (on a') = false) → vX9_spareBy_21 post (fun σ_4 => (∃ fu : Nat, vX9_spareBy_66 post (fun σ_5 => post (-1 : Int32) σ_5) i fu (0 : Int32) σ_4)) i (d + 1) (nI a) σ1 := by
    intro s0 d
    induction d with
    | zero =>
      intro a σ1 hd hF h2
      obtain ⟨-, -, h13⟩ := hM' σ1 hF
      rw [vX9_spareBy_21]; dsimp only; rw [h13]
      refine ⟨fun _ => ⟨gne g + 1, L2 s0 ?_ (gne g) 0 σ1 (by omega) hF (fun a' ha' => absurd ha' (Nat.not_lt_zero a'))⟩, fun c => absurd (nI_le (by omega) (by omega)) c⟩
      unfold sp1
      rw [first_none (fun a' ha' => h2 a' (by omega))]; omega
    | succ d ih =>
      intro a σ1 hd hF h2
      obtain ⟨hM1, h151, h13⟩ := hM' σ1 hF
      rw [vX9_spareBy_21]; dsimp only; rw [h13]
      refine ⟨fun c => absurd c (nI_ge (by omega) (by omega)), fun _ => ?_⟩
      refine sX9_isSpared hM1 hG h151 (fun σ2 hF2 hs => ?_) (fun σ2 hF2 hs => ?_)
      · refine ⟨fun q => absurd q (by decide), fun _ => ?_⟩
        have e2 : sp1 g = a := first_at (by omega) hs (fun a' ha' => h2 a' ha')
        have hend := h σ2 (hF.tr' hF2)
        unfold gspa at hend
        rw [s0, if_neg (by decide), e2, if_pos (by omega)] at hend
        refine ⟨fun q => ?_, fun q => ⟨fun q2 => ?_, fun q2 => ?_⟩⟩
        · rw [if_pos q] at hend; exact hend
        · rw [if_neg q, if_pos q2] at hend; exact hend
        · rw [if_neg q, if_neg q2] at hend; exact hend
      · refine ⟨fun _ => ?_, fun q => absurd rfl q⟩
        rintro _ rfl
        rw [nI_1]
        refine ih (a + 1) σ2 (by omega) (hF.tr' hF2) (fun b' h1 => ?_)
        by_cases e : b' = a
        · subst e; exact hs
        · exact h2 b' (by omega)
  unfold vX9_spareBy
  refine sX9_isSpared hM hG h15 (fun σ2 hF2 hs => ?_) (fun σ2 hF2 hs => ?_)
  · refine ⟨fun q => absurd q (by decide), fun _ => ?_⟩
    have hend := h σ2 hF2
    unfold gspa at hend
    rw [hs, if_pos rfl] at hend
    refine ⟨fun q => ?_, fun q => ?_⟩
    · rw [if_pos q] at hend; exact hend
    · rw [if_neg q] at hend; exact hend
  · refine ⟨fun _ => ⟨gne g + 1, L1 hs (gne g) 0 σ2 (by omega) hF2 (fun a' ha' => absurd ha' (Nat.not_lt_zero a'))⟩, fun q => absurd rfl q⟩
-- the next tick to look
def mxk (f : Nat → Nat) : Nat → Nat
  | 0 => 0
  | n + 1 => if f n ≤ mxk f n then mxk f n else f n
theorem mxk_le {f : Nat → Nat} {M : Nat} (h : ∀ k, f k ≤ M) : ∀ n, mxk f n ≤ M
  | 0 => Nat.zero_le M
  | n + 1 => by
    rw [mxk]
    split
    · exact mxk_le h n
    · exact h n
def lik (P : Nat → Bool) (D : Nat → Int32) (a b : Nat) : Bool := P a && P b && (D a == D b)
/-- of those with P, how many at most are alike -/
def gal (P : Nat → Bool) (D : Nat → Int32) : Nat := mxk (fun a => fb_ct (lik P D a) 5) 5
def amin (f : Nat → Nat) : Nat → Nat
  | 0 => 0
  | n + 1 => if f (n + 1) < f (amin f n) then n + 1 else amin f n
theorem amin_le (f : Nat → Nat) : ∀ n, amin f n ≤ n
  | 0 => Nat.le_refl 0
  | n + 1 => by
    have := amin_le f n
    rw [amin]
    split <;> omega
theorem sX9_alike {P : Nat → Bool} {D : Nat → Nat → Int32} {x a : Int32} {t : Nat} (hx : ∀ v, v < 5 → bt x v = P v) (hD : ∀ v, v < 5 → ∀ t, t < 24 → σ.1 92 (24 * v + t) = D v t) (ht : t < 24) (ha : a = nI t) (h : post (nI (gal P (fun v => D v t))) σ) : vX9_alike x a σ post := by
  subst ha
  have hcl : ∀ a n, fb_ct (lik P (fun v => D v t) a) n ≤ n := fun a n => fb_ct_le _ n
  suffices L : ∀ (d a : Nat), a + d = 5 → vX9_alike_5 post (fun z3_1 σ_2 => post z3_1 σ_2) x (nI t) (d + 1) (nI (mxk (fun a => fb_ct (lik P (fun v => D v t) a) 5) a)) (nI a) σ from ⟨5 + 1, L 5 0 (by omega)⟩
  intro d
  induction d with
  | zero =>
    intro a hd
    rw [vX9_alike_5]; dsimp only; rw [k5]
    refine ⟨fun _ => ?_, fun c => absurd (nI_le (by omega) (by omega)) c⟩
    rw [show a = 5 by omega]; exact h
  | succ d ih =>
    intro a hd
    have ih := ih (a + 1) (by omega)
    have hm := mxk_le (f := fun a => fb_ct (lik P (fun v => D v t) a) 5) (fun k => hcl k 5) a
    rw [vX9_alike_5]; dsimp only; rw [k5]
    refine ⟨fun c => absurd c (nI_ge (by omega) (by omega)), fun _ => ?_⟩
    suffices L2 : ∀ (d' b : Nat), b + d' = 5 → vX9_alike_17 post (fun z5_2 σ_3 => (vX9_greater z5_2 (nI (mxk (fun a => fb_ct (lik P (fun v => D v t) a) 5) a)) σ_3 (fun r_5 σ_4 => (∀ x4_6 : Int32, x4_6 = nI a + (1 : Int32) → vX9_alike_5 post (fun z3_1 σ_2 => post z3_1 σ_2) x (nI t) (d + 1) r_5 x4_6 σ_4)))) x (nI t) (nI (mxk (fun a => fb_ct (lik P (fun v => D v t) a) 5) a)) (nI a) (d' + 1) (nI (fb_ct (lik P (fun v => D v t) a) b)) (nI b) σ from ⟨5 + 1, L2 5 0 (by omega)⟩
    intro d'
    induction d' with
    | zero =>
      intro b hb
      have : b = 5 := by omega
      subst this
      have hc := hcl a 5
      rw [vX9_alike_17]; dsimp only; rw [k5]
      refine ⟨fun _ => sX9_greater ?_, fun c => absurd (nI_le (by omega) (by omega)) c⟩
      rintro _ rfl
      rw [mxk] at ih
      rw [nI_1]
      by_cases q : fb_ct (lik P (fun v => D v t) a) 5 ≤ mxk (fun a => fb_ct (lik P (fun v => D v t) a) 5) a
      · rw [if_pos (nI_le q (by omega))]
        rw [if_pos q] at ih; exact ih
      · rw [if_neg (nI_ge (by omega) (by omega))]
        rw [if_neg q] at ih; exact ih
    | succ d' ih' =>
      intro b hb
      have ih' := ih' (b + 1) (by omega)
      rw [fb_ct_succ] at ih'
      have no : lik P (fun v => D v t) a b = false → ∀ x5 : Int32, x5 = nI (fb_ct (lik P (fun v => D v t) a) b) + 0 → ∀ x6 : Int32, x6 = nI b + 1 → vX9_alike_17 post (fun z5_2 σ_3 => (vX9_greater z5_2 (nI (mxk (fun a => fb_ct (lik P (fun v => D v t) a) 5) a)) σ_3 (fun r_5 σ_4 => (∀ x4_6 : Int32, x4_6 = nI a + (1 : Int32) → vX9_alike_5 post (fun z3_1 σ_2 => post z3_1 σ_2) x (nI t) (d + 1) r_5 x4_6 σ_4)))) x (nI t) (nI (mxk (fun a => fb_ct (lik P (fun v => D v t) a) 5) a)) (nI a) (d' + 1) x5 x6 σ := by
        rintro hl _ rfl _ rfl
        rw [hl] at ih'
        rw [nI_1 b, k0, nI_add]; exact ih'
      rw [vX9_alike_17]; dsimp only; rw [k5]
      refine ⟨fun c => absurd c (nI_ge (by omega) (by omega)), fun _ => ?_⟩
      refine sX9_isInB rfl (by omega) (fun c1 => ?_) (fun c1 => ?_) <;> rw [hx a (by omega)] at c1
      · refine ⟨fun q => absurd q (by decide), fun _ => ?_⟩
        refine sX9_isInB rfl (by omega) (fun c2 => ?_) (fun c2 => ?_) <;> rw [hx b (by omega)] at c2
        · refine ⟨fun q => absurd q (by decide), fun _ => ?_⟩
          have ea := hD a (by omega) t ht
          have eb := hD b (by omega) t ht
          rw [k24, nI_mul, nI_mul, nI_add, nI_add, nI_c (by omega), nI_c (by omega), ea, eb]
          refine ⟨vp_in_nI (by omega) (by omega), vp_in_nI (by omega) (by omega), fun q => ?_, fun q => ?_⟩
          · rintro _ rfl _ rfl
            rw [show lik P (fun v => D v t) a b = true by unfold lik; rw [c1, c2]; simp [q]] at ih'
            rw [nI_1 b, nI_1 (fb_ct (lik P (fun v => D v t) a) b)]; exact ih'
          · exact no (by unfold lik; rw [c1, c2]; simp [q])
        · exact ⟨fun _ => no (by unfold lik; rw [c1, c2]; rfl), fun q => absurd rfl q⟩
      · exact ⟨fun _ => no (by unfold lik; rw [c1]; rfl), fun q => absurd rfl q⟩
def gask (g : Gm) (Q : Nat → Nat → Nat) (n : Nat) : Nat := amin (fun t => gal (fun v => gsn (gPu g v) Q n) (fun v => gdb (gPu g v) (t + 1))) 23
theorem sX9_askNow (hM : MIn σ g) (hG : Gok g) (hQ : MSn σ n Q) (h : ∀ σ', Fr MFp σ σ' → post (nI (gask g Q n)) σ') : vX9_askNow σ post := by
  refine sX9_pullsNow hM hG hQ (fun σ1 hF1 hD => ?_)
  have hend := h σ1 hF1
  have hx : ∀ v, v < 5 → bt (gpb g Q n) v = gsn (gPu g v) Q n := fun v hv => by
    unfold gpb
    rw [bm_bt _ (by omega) (by omega), decide_eq_true hv, Bool.true_and]
  have hcl : ∀ (P : Nat → Bool) (D : Nat → Int32), gal P D ≤ 5 := fun P D => mxk_le (fun k => fb_ct_le _ 5) 5
  suffices L : ∀ (d t : Nat), t + d = 23 → vX9_askNow_9 post (fun z2_3 σ_4 => post z2_3 σ_4) (gpb g Q n) (d + 1) (nI (amin (fun t => gal (fun v => gsn (gPu g v) Q n) (fun v => gdb (gPu g v) (t + 1))) t)) (nI (t + 1)) σ1 from ⟨23 + 1, L 23 0 (by omega)⟩
  intro d
  induction d with
  | zero =>
    intro t hd
    rw [vX9_askNow_9]; dsimp only; rw [k24]
    refine ⟨fun _ => ?_, fun c => absurd (nI_le (by omega) (by omega)) c⟩
    rw [show t = 23 by omega]; exact hend
  | succ d ih =>
    intro t hd
    have ih := ih (t + 1) (by omega)
    rw [amin] at ih
    have hl := amin_le (fun t => gal (fun v => gsn (gPu g v) Q n) (fun v => gdb (gPu g v) (t + 1))) t
    rw [vX9_askNow_9]; dsimp only; rw [k24]
    refine ⟨fun c => absurd c (nI_ge (by omega) (by omega)), fun _ => ?_⟩
    refine sX9_alike (D := fun v t => gdb (gPu g v) (t + 1)) hx hD (by omega : t + 1 < 24) rfl ?_
    refine sX9_alike (D := fun v t => gdb (gPu g v) (t + 1)) hx hD (by omega) rfl ?_
    have h1 := hcl (fun v => gsn (gPu g v) Q n) (fun v => gdb (gPu g v) (t + 1 + 1))
    have h2 := hcl (fun v => gsn (gPu g v) Q n) (fun v => gdb (gPu g v) (amin (fun t => gal (fun v => gsn (gPu g v) Q n) (fun v => gdb (gPu g v) (t + 1))) t + 1))
    rw [nI_le2 (by omega) (by omega)]
    refine ⟨fun q => ?_, fun q => ?_⟩
    · rintro _ rfl
      rw [if_neg (by omega)] at ih
      rw [nI_1]; exact ih
    · rintro _ rfl
      rw [if_pos (by omega)] at ih
      rw [nI_1]; exact ih
end MR
