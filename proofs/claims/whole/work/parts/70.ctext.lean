/-! ===== the class: texts ===== -/
def mst (t : Nat) : Nat := if t = 0 then 3 else 12
/-- text t of the class: n bytes B -/
def CTx (σ : Hp) (t n : Nat) (B : Nat → Nat) : Prop :=
  σ.1 (54 + 3 * t) 0 = nI t ∧ σ.1 (54 + 3 * t) 1 = nI (wd t) ∧ σ.1 (54 + 3 * t) 2 = nI (mst t) ∧ σ.1 (54 + 3 * t) 5 = nI n ∧ n ≤ lim t ∧ ∀ i, i < n → σ.1 (55 + 3 * t) i = nI (B i) ∧ B i < 256
theorem tx_fact : ∀ t, t < 3 → kd (54 + 3 * t) = 7 ∧ rt (54 + 3 * t) 3 = 55 + 3 * t ∧ rt (54 + 3 * t) 4 = 56 + 3 * t ∧ kd (55 + 3 * t) = 10 ∧ ln (55 + 3 * t) = lim t ∧ iln (55 + 3 * t) = lim t ∧ iln (56 + 3 * t) = mst t * wd t := by decide +kernel
theorem wd_le {t : Nat} (h : t < 3) : 2 ≤ wd t ∧ wd t ≤ 4 := by
  rcases (by omega : t = 0 ∨ t = 1 ∨ t = 2) with rfl | rfl | rfl <;> decide
theorem lim_le (t : Nat) : lim t ≤ 59 := by
  unfold lim
  repeat' split
  all_goals omega
/-- which String holds the signs -/
def strN (t s : Nat) : Nat := if t = 0 then (if s = 0 then 0 else 1) else if t = 1 then s + 2 else (if s = 0 then 6 else if s = 1 then 2 else 7)
theorem sIx_ok : ∀ t, t < 3 → ∀ s, s < wd t → ∀ b, b < 256 → strN t s < 8 ∧ sIx (strN t s) (nI b) = (if sg t s b = 0 then -1 else nI (sg t s b - 1)) := by decide +kernel
theorem chr_id {b : Nat} (h : b < 65536) : ((nI b).toUInt32 % 65536).toInt32 = nI b := by
  rw [pk_char, pk_tn (by omega), Nat.mod_eq_of_lt h]
section CX
variable {σ : Hp} {post : Int32 → Hp → Prop} {t n : Nat} {B : Nat → Nat}
theorem sX7_signs (ht : t < 3) (h0 : σ.1 (54 + 3 * t) 0 = nI t) {s : Nat} {a : Int32} {postr : Nat → Hp → Prop} (hs : s < wd t) (ha : a = nI s) (h : postr (210 + strN t s) σ) : vX7_signs (54 + 3 * t) a σ postr := by
  subst ha
  unfold vX7_signs
  refine ⟨(tx_fact t ht).1, ?_⟩
  rw [h0]
  rcases (by omega : t = 0 ∨ t = 1 ∨ t = 2) with rfl | rfl | rfl
  · have hs : s < 2 := hs
    rcases (by omega : s = 0 ∨ s = 1) with rfl | rfl
    · exact ⟨fun _ => h, fun q => absurd rfl q⟩
    · exact ⟨fun q => absurd q (by decide), fun _ => ⟨fun _ => h, fun q => absurd rfl q⟩⟩
  · have hs : s < 4 := hs
    refine ⟨fun q => ?_, fun _ => ⟨fun q => ?_, fun _ => ⟨fun q => ?_, fun _ => ⟨fun q => ?_, fun _ => ?_⟩⟩⟩⟩
    iterate 4 (rcases (by omega : s = 0 ∨ s = 1 ∨ s = 2 ∨ s = 3) with rfl | rfl | rfl | rfl <;> exact absurd q (by decide))
    rcases (by omega : s = 0 ∨ s = 1 ∨ s = 2 ∨ s = 3) with rfl | rfl | rfl | rfl
    · exact ⟨fun _ => h, fun q => absurd rfl q⟩
    · exact ⟨fun q => absurd q (by decide), fun _ => ⟨fun _ => h, fun q => absurd rfl q⟩⟩
    · exact ⟨fun q => absurd q (by decide), fun _ => ⟨fun q => absurd q (by decide), fun _ => ⟨fun _ => h, fun q => absurd rfl q⟩⟩⟩
    · exact ⟨fun q => absurd q (by decide), fun _ => ⟨fun q => absurd q (by decide), fun _ => ⟨fun q => absurd q (by decide), fun _ => ⟨fun _ => h, fun q => absurd rfl q⟩⟩⟩⟩
  · have hs : s < 3 := hs
    refine ⟨fun q => ?_, fun _ => ⟨fun q => ?_, fun _ => ⟨fun q => ?_, fun _ => ⟨fun q => ?_, fun _ => ⟨fun q => ?_, fun _ => ⟨fun q => ?_, fun _ => ⟨fun q => ?_, fun _ => ⟨fun q => ?_, fun _ => ?_⟩⟩⟩⟩⟩⟩⟩⟩
    iterate 8 (rcases (by omega : s = 0 ∨ s = 1 ∨ s = 2) with rfl | rfl | rfl <;> exact absurd q (by decide))
    rcases (by omega : s = 0 ∨ s = 1 ∨ s = 2) with rfl | rfl | rfl
    · exact ⟨fun _ => h, fun q => absurd rfl q⟩
    · exact ⟨fun q => absurd q (by decide), fun _ => ⟨fun _ => h, fun q => absurd rfl q⟩⟩
    · exact ⟨fun q => absurd q (by decide), fun _ => ⟨fun q => absurd q (by decide), fun _ => h⟩⟩
theorem sX7_value (ht : t < 3) (h1 : σ.1 (54 + 3 * t) 1 = nI (wd t)) {i s : Nat} {a b : Int32} (hi : i < mst t) (hs : s < wd t) (ha : a = nI i) (hb : b = nI s) (h : post (σ.1 (56 + 3 * t) (i * wd t + s)) σ) : vX7_value (54 + 3 * t) a b σ post := by
  subst ha hb
  obtain ⟨f1, f2, f3, f4, f5, f6, f7⟩ := tx_fact t ht
  have hw := wd_le ht
  have hm : mst t ≤ 12 := by unfold mst; split <;> omega
  have h48 : i * wd t + s < mst t * wd t := by
    have : (i + 1) * wd t ≤ mst t * wd t := Nat.mul_le_mul_right _ hi
    rw [Nat.add_mul] at this; omega
  have h49 : mst t * wd t ≤ 12 * 4 := Nat.mul_le_mul hm hw.2
  unfold vX7_value
  rw [h1, f3, f7, nI_mul, nI_add, nI_c (by omega)]
  exact ⟨f1, vp_in_nI h48 (by omega), h⟩
theorem sX7_isTaken (h1 : σ.1 57 1 = nI 4) {one : Nat} {a : Int32} (ho : one < 12) (ha : a = nI one) (hv : ∀ j, j ≤ one → σ.1 59 (j * 4) = nI (vl B 1 j 0) ∧ σ.1 59 (j * 4 + 1) = nI (vl B 1 j 1) ∧ vl B 1 j 0 ≤ 23 ∧ vl B 1 j 1 ≤ 23) (hy : tk B one = true → post 1 σ) (hn : tk B one = false → post 0 σ) : vX7_isTaken 57 a σ post := by
  subst ha
  suffices L : ∀ (d j : Nat), j + d = one → anyb (fun j => vl B 1 j 0 == vl B 1 one 0 && vl B 1 j 1 == vl B 1 one 1) j = false → vX7_isTaken_2 post (fun σ_1 => post (0 : Int32) σ_1) 57 (nI one) (d + 1) (nI j) σ from ⟨one + 1, L one 0 (by omega) rfl⟩
  intro d
  induction d with
  | zero =>
    intro j hd hj
    have : j = one := by omega
    subst this
    rw [vX7_isTaken_2]; dsimp only
    exact ⟨fun _ => hn hj, fun c => absurd (nI_le (by omega) (by omega)) c⟩
  | succ d ih =>
    intro j hd hj
    obtain ⟨a1, a2, a3, a4⟩ := hv j (by omega)
    obtain ⟨b1, b2, b3, b4⟩ := hv one (by omega)
    have a1 : σ.1 (56 + 3 * 1) (j * wd 1 + 0) = nI (vl B 1 j 0) := a1
    have a2 : σ.1 (56 + 3 * 1) (j * wd 1 + 1) = nI (vl B 1 j 1) := a2
    have b1 : σ.1 (56 + 3 * 1) (one * wd 1 + 0) = nI (vl B 1 one 0) := b1
    have b2 : σ.1 (56 + 3 * 1) (one * wd 1 + 1) = nI (vl B 1 one 1) := b2
    rw [vX7_isTaken_2]; dsimp only
    refine ⟨fun c => absurd c (nI_ge (by omega) (by omega)), fun _ => ⟨rfl, ?_⟩⟩
    refine sX7_value (t := 1) (i := j) (s := 0) (by omega) h1 (show j < 12 by omega) (by decide) rfl rfl ?_
    refine sX7_value (t := 1) (i := one) (s := 0) (by omega) h1 ho (by decide) rfl rfl ?_
    rw [a1, b1, nI_eq2 (by omega) (by omega)]
    refine ⟨fun q0 => ?_, fun q0 => ?_⟩
    · refine sX7_value (t := 1) (i := j) (s := 1) (by omega) h1 (show j < 12 by omega) (by decide) rfl rfl ?_
      refine sX7_value (t := 1) (i := one) (s := 1) (by omega) h1 ho (by decide) rfl rfl ?_
      rw [a2, b2, nI_eq2 (by omega) (by omega)]
      refine ⟨fun q1 => hy ?_, fun q1 => ?_⟩
      · exact anyb_iff.mpr ⟨j, by omega, by simp [q0, q1]⟩
      · rintro _ rfl
        rw [nI_1]
        exact ih (j + 1) (by omega) (by rw [anyb, hj, Bool.false_or]; simp [q1])
    · rintro _ rfl
      rw [nI_1]
      exact ih (j + 1) (by omega) (by rw [anyb, hj, Bool.false_or]; simp [q0])
/-- what 'examine' writes of text t -/
def CFt (t : Nat) : Nat → Nat → Bool := fun a b => Nat.beq a (56 + 3 * t) || (Nat.beq a (54 + 3 * t) && (Nat.beq b 6 || Nat.beq b 7))
theorem CTx.fr {σ' : Hp} (h : CTx σ t n B) (hF : Fr (CFt t) σ σ') : CTx σ' t n B := by
  obtain ⟨h0, h1, h2, h3, h4, h5⟩ := h
  have e : ∀ b, b ≠ 6 → b ≠ 7 → CFt t (54 + 3 * t) b = false := fun b b1 b2 => by
    unfold CFt; rw [beq_f (by omega), beq_s, beq_f b1, beq_f b2]; rfl
  have e2 : ∀ b, CFt t (55 + 3 * t) b = false := fun b => by
    unfold CFt; rw [beq_f (by omega), beq_f (by omega)]; rfl
  refine ⟨?_, ?_, ?_, ?_, h4, fun i hi => ?_⟩
  · rw [hF.i (e 0 (by omega) (by omega))]; exact h0
  · rw [hF.i (e 1 (by omega) (by omega))]; exact h1
  · rw [hF.i (e 2 (by omega) (by omega))]; exact h2
  · rw [hF.i (e 5 (by omega) (by omega))]; exact h3
  · rw [hF.i (e2 i)]; exact h5 i hi
theorem CFt_v {σ : Hp} {j : Nat} {v : Int32} : Fr (CFt t) σ (wI σ (56 + 3 * t) j v) := Fr.wI (by unfold CFt; rw [beq_s]; rfl)
/-- the values of the signs of the first p bytes -/
def CVl (σ : Hp) (t p : Nat) (B : Nat → Nat) : Prop := ∀ p', p' < p → p' % (wd t + 1) < wd t → σ.1 (56 + 3 * t) (p' / (wd t + 1) * wd t + p' % (wd t + 1)) = nI (vl B t (p' / (wd t + 1)) (p' % (wd t + 1)))
theorem sX7_goesOn (ht : t < 3) (hC : CTx σ t n B) {p : Nat} {a : Int32} (hp : p < n) (ha : a = nI p) (hv : CVl σ t p B) (h1 : ∀ σ', Fr (CFt t) σ σ' → bad B t p = false → CVl σ' t (p + 1) B → post 1 σ') (h0 : ∀ σ', Fr (CFt t) σ σ' → bad B t p = true → post 0 σ') : vX7_goesOn (54 + 3 * t) a σ post := by
  subst ha
  obtain ⟨f1, f2, f3, f4, f5, f6, f7⟩ := tx_fact t ht
  obtain ⟨c0, c1, c2, c3, c4, c5⟩ := id hC
  have hw := wd_le ht
  have hl := lim_le t
  obtain ⟨b1, b2⟩ := c5 p hp
  have hmod := Nat.mod_lt p (show 0 < wd t + 1 by omega)
  have hdm := Nat.div_add_mod p (wd t + 1)
  have hdl : p / (wd t + 1) ≤ p := Nat.div_le_self _ _
  have hitem : p / (wd t + 1) < mst t := by
    rcases (by omega : t = 0 ∨ t = 1 ∨ t = 2) with rfl | rfl | rfl
    · have : n ≤ 8 := c4
      show p / 3 < 3; omega
    · have : n ≤ 59 := c4
      show p / 5 < 12; omega
    · have : n ≤ 47 := c4
      show p / 4 < 12; omega
  have hm12 : mst t ≤ 12 := by unfold mst; split <;> omega
  unfold vX7_goesOn
  rw [c1, f2, f3, f6, f7, k1, nI_add]
  have hne : ¬ nI (wd t + 1) = 0 := nI_ne0 (by omega) (by omega)
  refine ⟨f1, hne, ?_⟩
  rw [nI_rem (by omega) (by omega) (by omega), nI_div (by omega) (by omega) (by omega)]
  rintro _ rfl
  refine ⟨hne, ?_⟩
  rintro _ rfl
  rw [nI_eq2 (by omega) (by omega), nI_c (by omega), c2, nI_lt2 (by omega) (by omega)]
  refine ⟨fun q => ⟨vp_in_nI (by omega) (by omega), ?_⟩, fun q => ⟨fun _ => ?_, fun q2 => absurd hitem q2⟩⟩
  · have hbad : bad B t p = (B p != 59) := by unfold bad; rw [if_pos q]
    rw [b1, k59, nI_eq2 (by omega) (by omega)]
    refine ⟨fun e => h1 σ Fr.rf (by rw [hbad, e]; rfl) (fun p' hp' hs' => ?_), fun e => h0 σ Fr.rf (by rw [hbad]; simp [e])⟩
    by_cases e2 : p' = p
    · subst e2; omega
    · exact hv p' (by omega) hs'
  · have hsw : p % (wd t + 1) < wd t := by omega
    have hbad : bad B t p = (sg t (p % (wd t + 1)) (B p) == 0 || (t == 1 && p % (wd t + 1) == 1 && tk B (p / (wd t + 1)))) := by unfold bad; rw [if_neg q]
    refine sX7_signs ht c0 hsw rfl ?_
    refine ⟨vp_in_nI (by omega) (by omega), ?_⟩
    rw [b1, chr_id (by omega)]
    obtain ⟨hst, hsx⟩ := sIx_ok t ht _ hsw (B p) b2
    refine ⟨strN t (p % (wd t + 1)), hst, rfl, ?_⟩
    have h48 : p / (wd t + 1) * wd t + p % (wd t + 1) < mst t * wd t := by
      have : (p / (wd t + 1) + 1) * wd t ≤ mst t * wd t := Nat.mul_le_mul_right _ hitem
      rw [Nat.add_mul] at this; omega
    have h49 : mst t * wd t ≤ 12 * 4 := Nat.mul_le_mul hm12 hw.2
    have hsl := sg_le t (p % (wd t + 1)) (B p) b2
    dsimp only
    rw [c1, nI_mul, nI_add, nI_c (by omega)]
    refine ⟨vp_in_nI h48 (by omega), ?_⟩
    rintro _ rfl
    rw [hsx]
    by_cases hs0 : sg t (p % (wd t + 1)) (B p) = 0
    · rw [if_pos hs0]
      exact ⟨fun _ => h0 _ CFt_v (by rw [hbad, hs0]; rfl), fun c => absurd (by decide) c⟩
    · rw [if_neg hs0]
      refine ⟨fun c => absurd c (nI_pos (by omega)), fun _ => ?_⟩
      have hF : Fr (CFt t) σ (wI σ (56 + 3 * t) (p / (wd t + 1) * wd t + p % (wd t + 1)) (nI (sg t (p % (wd t + 1)) (B p) - 1))) := CFt_v
      have hv1 : CVl (wI σ (56 + 3 * t) (p / (wd t + 1) * wd t + p % (wd t + 1)) (nI (sg t (p % (wd t + 1)) (B p) - 1))) t (p + 1) B := by
        intro p' hp' hs'
        rw [wI_at]
        by_cases e : p' = p
        · subst e
          rw [if_pos rfl]
          unfold vl
          rw [show p' / (wd t + 1) * (wd t + 1) + p' % (wd t + 1) = p' by rw [Nat.mul_comm]; exact hdm]
        · rw [if_neg ?_]
          · exact hv p' (by omega) hs'
          · intro he
            have hdm' := Nat.div_add_mod p' (wd t + 1)
            have hmod' := Nat.mod_lt p' (show 0 < wd t + 1 by omega)
            apply e
            rcases (by omega : wd t = 2 ∨ wd t = 3 ∨ wd t = 4) with hw2 | hw2 | hw2 <;> rw [hw2] at he hdm hdm' hsw hs' <;> omega
      have e0 : (wI σ (56 + 3 * t) (p / (wd t + 1) * wd t + p % (wd t + 1)) (nI (sg t (p % (wd t + 1)) (B p) - 1))).1 (54 + 3 * t) 0 = nI t := by rw [wI_ne (by omega)]; exact c0
      rw [e0, nI_eq2 (by omega) (by omega)]
      refine ⟨fun q1 => ?_, fun q1 => h1 _ hF (by rw [hbad]; simp [hs0, q1]) hv1⟩
      subst q1
      rw [nI_eq2 (by omega) (by omega)]
      refine ⟨fun q2 => ?_, fun q2 => h1 _ hF (by rw [hbad]; simp [hs0]; intro h; exact absurd h q2) hv1⟩
      refine sX7_isTaken (B := B) (by rw [wI_ne (by decide)]; exact c1) hitem rfl (fun j hj => ?_) (fun htk => ?_) (fun htk => ?_)
      · have hj : j ≤ p / 5 := hj
        have q2 : p % 5 = 1 := q2
        have x0 := hv1 (5 * j) (by show 5 * j < p + 1; omega) (by show 5 * j % 5 < 4; omega)
        have x1 := hv1 (5 * j + 1) (by show 5 * j + 1 < p + 1; omega) (by show (5 * j + 1) % 5 < 4; omega)
        have x0 : (wI σ (56 + 3 * 1) (p / (wd 1 + 1) * wd 1 + p % (wd 1 + 1)) (nI (sg 1 (p % (wd 1 + 1)) (B p) - 1))).1 59 (5 * j / 5 * 4 + 5 * j % 5) = nI (vl B 1 (5 * j / 5) (5 * j % 5)) := x0
        have x1 : (wI σ (56 + 3 * 1) (p / (wd 1 + 1) * wd 1 + p % (wd 1 + 1)) (nI (sg 1 (p % (wd 1 + 1)) (B p) - 1))).1 59 ((5 * j + 1) / 5 * 4 + (5 * j + 1) % 5) = nI (vl B 1 ((5 * j + 1) / 5) ((5 * j + 1) % 5)) := x1
        rw [show 5 * j / 5 = j by omega, show 5 * j % 5 = 0 by omega] at x0
        rw [show (5 * j + 1) / 5 = j by omega, show (5 * j + 1) % 5 = 1 by omega] at x1
        refine ⟨x0, x1, vl_le ?_, vl_le ?_⟩
        · show B (j * 5 + 0) < 256
          exact (c5 (j * 5 + 0) (by omega)).2
        · show B (j * 5 + 1) < 256
          exact (c5 (j * 5 + 1) (by omega)).2
      · exact ⟨fun q => absurd q (by decide), fun _ => h0 _ hF (by rw [hbad, htk]; simp [q2])⟩
      · exact ⟨fun _ => h1 _ hF (by rw [hbad, htk]; simp [hs0]) hv1, fun q => absurd rfl q⟩
theorem sX7_firstFault (ht : t < 3) (hC : CTx σ t n B) (h : ∀ σ', Fr (CFt t) σ σ' → (∀ i, i < its B t n → ∀ s, s < wd t → σ'.1 (56 + 3 * t) (i * wd t + s) = nI (vl B t i s)) → post (fltI B t n) σ') : vX7_firstFault (54 + 3 * t) σ post := by
  obtain ⟨f1, -⟩ := tx_fact t ht
  have hw := wd_le ht
  have hl := lim_le t
  have c4 := hC.2.2.2.2.1
  suffices L : ∀ (d p : Nat) (σ1 : Hp) (ex : Hp → Prop), p + d = n → Fr (CFt t) σ σ1 → (∀ p', p' < p → bad B t p' = false) → CVl σ1 t p B → (∀ σ2, Fr (CFt t) σ σ2 → (∀ p', p' < n → bad B t p' = false) → CVl σ2 t n B → ex σ2) → vX7_firstFault_2 post ex (54 + 3 * t) (d + 1) (nI p) σ1 by
    refine ⟨n + 1, L n 0 σ _ (by omega) Fr.rf (fun p hp => absurd hp (Nat.not_lt_zero p)) (fun p hp => absurd hp (Nat.not_lt_zero p)) (fun σ2 hF hb hv => ⟨f1, ?_⟩)⟩
    obtain ⟨d0, d1, d2, d3, -, -⟩ := hC.fr hF
    have hne : ¬ nI (wd t + 1) = 0 := nI_ne0 (by omega) (by omega)
    rw [d3, d1, k0, nI_eq2 (by omega) (by omega), k1, nI_add, nI_rem (by omega) (by omega) (by omega)]
    have hmod := Nat.mod_lt n (show 0 < wd t + 1 by omega)
    rw [nI_eq2 (a := n % (wd t + 1)) (b := wd t) (by omega) (by omega)]
    have good : (n = 0 ∨ n % (wd t + 1) = wd t) → post (-1) σ2 := fun he => by
      obtain ⟨e1, e2, e3⟩ := flt_end hb he
      have := h σ2 hF (fun i hi s hs => ?_)
      · rw [e2] at this; exact this
      · rw [e1] at hi
        have hp : i * (wd t + 1) + s < n := by
          have h1 : (i + 1) * (wd t + 1) ≤ n + 1 := Nat.le_trans (Nat.mul_le_mul_right _ hi) (Nat.div_mul_le_self (n + 1) (wd t + 1))
          rw [Nat.add_mul] at h1
          omega
        have hm : (i * (wd t + 1) + s) % (wd t + 1) = s := by rw [Nat.add_comm, Nat.add_mul_mod_self_right, Nat.mod_eq_of_lt (by omega)]
        have hd : (i * (wd t + 1) + s) / (wd t + 1) = i := by rw [Nat.add_comm, Nat.add_mul_div_right _ _ (by omega), Nat.div_eq_of_lt (by omega), Nat.zero_add]
        have := hv (i * (wd t + 1) + s) hp (by omega)
        rw [hm, hd] at this; exact this
    refine ⟨fun q => ⟨fun q => absurd q (by decide), fun _ => good (Or.inl q)⟩, fun q => ⟨hne, fun q2 => ⟨fun q => absurd q (by decide), fun _ => good (Or.inr q2)⟩, fun q2 => ⟨fun _ => ?_, fun q => absurd rfl q⟩⟩⟩
    obtain ⟨e1, e2, e3⟩ := flt_cut hb (by rintro (a | a); exact q a; exact q2 a)
    have := h σ2 hF (fun i hi => by rw [e1] at hi; exact absurd hi (Nat.not_lt_zero i))
    rw [e2] at this; exact this
  intro d
  induction d with
  | zero =>
    intro p σ1 ex hd hF hb hv hex
    obtain ⟨d0, d1, d2, d3, -, -⟩ := hC.fr hF
    rw [vX7_firstFault_2]; dsimp only; rw [d3]
    refine ⟨f1, fun _ => ?_, fun c => absurd (nI_le (by omega) (by omega)) c⟩
    have : p = n := by omega
    subst this
    exact hex σ1 hF hb hv
  | succ d ih =>
    intro p σ1 ex hd hF hb hv hex
    obtain ⟨d0, d1, d2, d3, -, -⟩ := hC.fr hF
    rw [vX7_firstFault_2]; dsimp only; rw [d3]
    refine ⟨f1, fun c => absurd c (nI_ge (by omega) (by omega)), fun _ => ?_⟩
    refine sX7_goesOn ht (hC.fr hF) (by omega) rfl hv (fun σ2 hF2 hbp hv2 => ⟨fun q => absurd q (by decide), fun _ => ?_⟩) (fun σ2 hF2 hbp => ⟨fun _ => ?_, fun q => absurd rfl q⟩)
    · rintro _ rfl
      rw [nI_1]
      refine ih (p + 1) σ2 ex (by omega) (hF.tr' hF2) (fun p' hp' => ?_) hv2 hex
      by_cases e : p' = p
      · subst e; exact hbp
      · exact hb p' (by omega)
    · obtain ⟨e1, e2, e3⟩ := flt_at (show p < n by omega) hbp hb
      have := h σ2 (hF.tr' hF2) (fun i hi => by rw [e1] at hi; exact absurd hi (Nat.not_lt_zero i))
      rw [e2] at this; exact this
/-- text t is examined -/
def CEx (σ : Hp) (t n : Nat) (B : Nat → Nat) : Prop := σ.1 (54 + 3 * t) 6 = nI (its B t n) ∧ σ.1 (54 + 3 * t) 7 = fltI B t n ∧ ∀ i, i < its B t n → ∀ s, s < wd t → σ.1 (56 + 3 * t) (i * wd t + s) = nI (vl B t i s)
theorem sX7_examine {postv : Hp → Prop} (ht : t < 3) (hC : CTx σ t n B) (h : ∀ σ', Fr (CFt t) σ σ' → CEx σ' t n B → postv σ') : vX7_examine (54 + 3 * t) σ postv := by
  obtain ⟨f1, -⟩ := tx_fact t ht
  have hw := wd_le ht
  have hl := lim_le t
  have c4 := hC.2.2.2.2.1
  unfold vX7_examine
  refine ⟨f1, sX7_firstFault ht hC (fun σ1 hF1 hv => ?_)⟩
  rintro _ rfl
  have hF2 : Fr (CFt t) σ (wI σ1 (54 + 3 * t) 7 (fltI B t n)) := hF1.tr' (Fr.wI (by unfold CFt; rw [beq_s]; simp))
  obtain ⟨d0, d1, d2, d3, -, -⟩ := hC.fr hF2
  rw [wI_at, if_pos rfl, d1, d3]
  have hne : ¬ nI (wd t + 1) = 0 := nI_ne0 (by omega) (by omega)
  have fin : ∀ v : Int32, v = nI (its B t n) → postv (wI (wI σ1 (54 + 3 * t) 7 (fltI B t n)) (54 + 3 * t) 6 v) := by
    rintro _ rfl
    refine h _ (hF2.tr' (Fr.wI (by unfold CFt; rw [beq_s]; simp))) ⟨by rw [wI_at, if_pos rfl], by rw [wI_nf (by omega), wI_at, if_pos rfl], fun i hi s hs => ?_⟩
    rw [wI_ne (by omega), wI_ne (by omega)]; exact hv i hi s hs
  by_cases hwl : well B t n = true
  · have e1 : fltI B t n = -1 := by unfold fltI; rw [if_pos hwl]
    have e2 : its B t n = (n + 1) / (wd t + 1) := by unfold its; rw [if_pos hwl]
    refine ⟨fun _ => ⟨by rw [nI_1]; exact hne, ?_⟩, fun q => absurd e1 q⟩
    rintro _ rfl
    rw [nI_1, nI_1, nI_div (by omega) (by omega) (by omega)]
    exact fin _ (by rw [e2])
  · have hft : ft B t n ≤ n := fa_first_le _ _
    have e1 : fltI B t n = nI (ft B t n) := by unfold fltI; rw [if_neg hwl]
    have e2 : its B t n = 0 := by unfold its; rw [if_neg hwl]
    refine ⟨fun q => absurd q (by rw [e1, nI_m1 (by omega)]; exact id), fun _ => ?_⟩
    rintro _ rfl
    exact fin _ (by rw [e2]; rfl)
end CX
