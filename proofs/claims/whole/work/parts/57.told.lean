/-! ===== what was told ===== -/
/-- (lengths, bytes of texts), (pull, flight), (events, E), (seen, Q), (sheets: lost, form, size, items), finding -/
abbrev Td : Type := ((Nat → Nat) × (Nat → Nat → Nat)) × (Nat × Nat) × (Nat × (Nat → Nat → Nat)) × (Nat × (Nat → Nat → Nat)) × ((Nat → Bool) × (Nat → Nat) × (Nat → Nat) × (Nat → Nat → Int32)) × Nat
def tn (T : Td) : Nat → Nat := T.1.1
def tB (T : Td) : Nat → Nat → Nat := T.1.2
def tpu (T : Td) : Nat := T.2.1.1
def tfl (T : Td) : Nat := T.2.1.2
def tne (T : Td) : Nat := T.2.2.1.1
def tE (T : Td) : Nat → Nat → Nat := T.2.2.1.2
def tnq (T : Td) : Nat := T.2.2.2.1.1
def tQ (T : Td) : Nat → Nat → Nat := T.2.2.2.1.2
def tls (T : Td) : Nat → Bool := T.2.2.2.2.1.1
def tfo (T : Td) : Nat → Nat := T.2.2.2.2.1.2.1
def tsz (T : Td) : Nat → Nat := T.2.2.2.2.1.2.2.1
def tit (T : Td) : Nat → Nat → Int32 := T.2.2.2.2.1.2.2.2
def tfd (T : Td) : Nat := T.2.2.2.2.2
def Tok (T : Td) : Prop := (∀ t, t < 3 → tn T t ≤ lim t ∧ ∀ i, i < tn T t → tB T t i < 256) ∧ tpu T < 5 ∧ tfl T < 4 ∧ tne T ≤ 8 ∧ (∀ e, e < tne T → tE T e 0 < 3 ∧ tE T e 1 < 24 ∧ tE T e 2 < 12) ∧ tnq T ≤ 8 ∧ (∀ j, j < tnq T → tQ T j 0 < 24 ∧ tQ T j 1 < 12 ∧ tQ T j 2 < 2) ∧ (∀ s, s < 4 → tfo T s < 3 ∧ tsz T s ≤ 60) ∧ tfd T ≤ 5
/-- the game that was told -/
def gmT (T : Td) : Gm := ((its (tB T 1) 1 (tn T 1), dv (tB T 1)), spI (tB T 0) (tn T 0), (its (tB T 2) 2 (tn T 2), vl (tB T 2) 2), (tpu T, tfl T), (tne T, tE T), fun _ => true)
/-- the reference holds what was told -/
def MTd (σ : Hp) (T : Td) : Prop :=
  (∀ t, t < 3 → MTx σ t (tn T t) (tB T t)) ∧ σ.1 81 0 = nI (tpu T) ∧ σ.1 81 1 = nI (tfl T) ∧ σ.1 71 13 = nI (tne T) ∧ (∀ e, e < tne T → ∀ j, j < 3 → σ.1 82 (3 * e + j) = nI (tE T e j)) ∧ MSn σ (tnq T) (tQ T) ∧
  (∀ s, s < 4 → σ.1 72 s = (if tls T s then -1 else nI (tfo T s)) ∧ σ.1 73 s = nI (tsz T s) ∧ ∀ i, i < tsz T s → σ.1 74 (60 * s + i) = tit T s i) ∧ σ.1 71 4 = nI (tfd T) ∧ σ.1 71 15 = 0
theorem MTd.fr {σ σ' : Hp} {T : Td} {A : Nat → Nat → Bool} (h : MTd σ T) (hF : Fr A σ σ') (h1 : ∀ b, A 77 b = false := by exact fun _ => rfl) (h2 : ∀ b, A 76 b = false := by exact fun _ => rfl) (h3 : ∀ b, A 81 b = false := by exact fun _ => rfl) (h4 : A 71 13 = false := by rfl) (h5 : ∀ b, A 82 b = false := by exact fun _ => rfl) (h6 : A 71 24 = false := by rfl) (h7 : ∀ b, A 91 b = false := by exact fun _ => rfl) (h8 : ∀ b, A 72 b = false := by exact fun _ => rfl) (h9 : ∀ b, A 73 b = false := by exact fun _ => rfl) (h10 : ∀ b, A 74 b = false := by exact fun _ => rfl) (h11 : A 71 4 = false := by rfl) (h12 : A 71 15 = false := by rfl) : MTd σ' T := by
  obtain ⟨a1, a2, a3, a4, a5, a6, a7, a8, a9⟩ := h
  refine ⟨fun t ht => (a1 t ht).fr hF h1 h2, ?_, ?_, ?_, ?_, a6.fr hF h6 h7, ?_, ?_, ?_⟩
  · rw [hF.r h3]; exact a2
  · rw [hF.r h3]; exact a3
  · rw [hF.i h4]; exact a4
  · rw [hF.r h5]; exact a5
  · rw [hF.r h8, hF.r h9, hF.r h10]; exact a7
  · rw [hF.i h11]; exact a8
  · rw [hF.i h12]; exact a9
theorem fig_le (b lo hi : Nat) : fig b lo hi ≤ hi - lo + 1 := by unfold fig; split <;> omega
/-- of a text that is well: each sign of each item -/
theorem well_sg {B : Nat → Nat} {t n : Nat} (h : 0 < its B t n) : ∀ i s, i < its B t n → s < wd t → i * (wd t + 1) + s < n ∧ sg t s (B (i * (wd t + 1) + s)) ≠ 0 ∧ (t = 1 → s = 1 → tk B i = false) := by
  intro i s hi hs
  have hw : well B t n = true := by
    unfold its at h
    split at h
    · assumption
    · omega
  have hi2 : i < (n + 1) / (wd t + 1) := by unfold its at hi; rw [if_pos hw] at hi; exact hi
  unfold well at hw
  simp only [Bool.and_eq_true, beq_iff_eq, Bool.or_eq_true] at hw
  obtain ⟨hf, he⟩ := hw
  have hp : i * (wd t + 1) + s < n := by
    have h1 : (i + 1) * (wd t + 1) ≤ n + 1 := by
      have := Nat.div_mul_le_self (n + 1) (wd t + 1)
      exact Nat.le_trans (Nat.mul_le_mul_right _ hi2) this
    rw [Nat.add_mul] at h1
    omega
  have hb := fa_first_no (bad B t) n (i * (wd t + 1) + s) (by unfold ft at hf; omega)
  have hm : (i * (wd t + 1) + s) % (wd t + 1) = s := by
    rw [Nat.add_comm, Nat.add_mul_mod_self_right, Nat.mod_eq_of_lt (by omega)]
  have hd : (i * (wd t + 1) + s) / (wd t + 1) = i := by
    rw [Nat.add_comm, Nat.add_mul_div_right _ _ (by omega), Nat.div_eq_of_lt (by omega), Nat.zero_add]
  unfold bad at hb
  rw [hm, hd, if_neg (by omega)] at hb
  simp only [Bool.or_eq_false_iff, beq_eq_false_iff_ne] at hb
  refine ⟨hp, hb.1, fun e1 e2 => ?_⟩
  have h2 := hb.2
  subst e1 e2
  simpa using h2
theorem its_le {B : Nat → Nat} {t n : Nat} (h : n ≤ lim t) (ht : t < 3) : its B t n ≤ (if t = 0 then 3 else 12) := by
  unfold its
  rcases (by omega : t = 0 ∨ t = 1 ∨ t = 2) with rfl | rfl | rfl
  · have h : n ≤ 8 := h
    split
    · show (n + 1) / 3 ≤ 3; omega
    · omega
  · have h : n ≤ 59 := h
    split
    · show (n + 1) / 5 ≤ 12; omega
    · omega
  · have h : n ≤ 47 := h
    split
    · show (n + 1) / 4 ≤ 12; omega
    · omega
theorem gmT_ok {T : Td} (h : Tok T) : Gok (gmT T) := by
  obtain ⟨a1, a2, a3, a4, a5, -⟩ := h
  obtain ⟨l0, b0⟩ := a1 0 (by omega)
  obtain ⟨l1, b1⟩ := a1 1 (by omega)
  obtain ⟨l2, b2⟩ := a1 2 (by omega)
  have hd : ∀ k, k < its (tB T 1) 1 (tn T 1) → ∀ s, s < 4 → sg 1 s (tB T 1 (k * 5 + s)) ≠ 0 ∧ (s = 1 → tk (tB T 1) k = false) := fun k hk s hs => by
    obtain ⟨-, h2, h3⟩ := well_sg (by omega) k s hk (show s < wd 1 from hs)
    exact ⟨h2, h3 rfl⟩
  refine ⟨its_le l1 (by omega), fun k hk => ?_, fun j k hj hk h0 h1 => ?_, fun c hc => ?_, its_le l2 (by omega), fun i hi => ?_, a2, a3, a4, a5⟩
  · have hk : k < its (tB T 1) 1 (tn T 1) := hk
    obtain ⟨x0, -⟩ := hd k hk 0 (by omega)
    obtain ⟨x1, -⟩ := hd k hk 1 (by omega)
    obtain ⟨x2, -⟩ := hd k hk 2 (by omega)
    obtain ⟨x3, -⟩ := hd k hk 3 (by omega)
    have y0 : sg 1 0 (tB T 1 (k * 5 + 0)) ≤ 3 := fig_le _ _ _
    have y1 : sg 1 1 (tB T 1 (k * 5 + 1)) ≤ 12 := fig_le _ _ _
    have y2 : sg 1 2 (tB T 1 (k * 5 + 2)) ≤ 3 := by
      show (if tB T 1 (k * 5 + 2) = 116 then 1 else if tB T 1 (k * 5 + 2) = 104 then 2 else if tB T 1 (k * 5 + 2) = 103 then 3 else 0) ≤ 3
      repeat' split
      all_goals omega
    have y3 : sg 1 3 (tB T 1 (k * 5 + 3)) ≤ 9 := fig_le _ _ _
    refine ⟨?_, ?_, ?_, ?_⟩
    · show sg 1 0 (tB T 1 (k * 5 + 0)) - 1 + 0 < 3; omega
    · show sg 1 1 (tB T 1 (k * 5 + 1)) - 1 + 0 < 12; omega
    · show sg 1 2 (tB T 1 (k * 5 + 2)) - 1 + 0 < 3; omega
    · show sg 1 3 (tB T 1 (k * 5 + 3)) - 1 + 1 ≤ 9; omega
  · have hj : j < its (tB T 1) 1 (tn T 1) := hj
    have hk : k < its (tB T 1) 1 (tn T 1) := hk
    have h0 : vl (tB T 1) 1 j 0 + 0 = vl (tB T 1) 1 k 0 + 0 := h0
    have h1 : vl (tB T 1) 1 j 1 + 0 = vl (tB T 1) 1 k 1 + 0 := h1
    rw [Nat.add_zero, Nat.add_zero] at h0 h1
    have key : ∀ j k, k < its (tB T 1) 1 (tn T 1) → j < k → vl (tB T 1) 1 j 0 = vl (tB T 1) 1 k 0 → vl (tB T 1) 1 j 1 = vl (tB T 1) 1 k 1 → False := fun j k hk hjk e0 e1 => by
      have ht := (hd k hk 1 (by omega)).2 rfl
      have : tk (tB T 1) k = true := anyb_iff.mpr ⟨j, hjk, by simp [e0, e1]⟩
      rw [ht] at this; cases this
    rcases Nat.lt_trichotomy j k with q | q | q
    · exact (key j k hk q h0 h1).elim
    · exact q
    · exact (key k j hj q h0.symm h1.symm).elim
  · show ∃ v, v ≤ 3 ∧ (spI (tB T 0) (tn T 0) c = nI v ∨ spI (tB T 0) (tn T 0) c = -(nI v))
    unfold spI
    split
    · rename_i hq
      have y1 : sg 0 1 (tB T 0 (c * 3 + 1)) ≤ 4 := fig_le _ _ _
      have hv : vl (tB T 0) 0 c 1 ≤ 3 := by
        show sg 0 1 (tB T 0 (c * 3 + 1)) - 1 ≤ 3
        omega
      split
      · exact ⟨_, hv, Or.inl rfl⟩
      · exact ⟨_, hv, Or.inr rfl⟩
    · exact ⟨1, by omega, Or.inl rfl⟩
  · have hi : i < its (tB T 2) 2 (tn T 2) := hi
    have x0 := (well_sg (by omega) i 0 hi (show 0 < wd 2 by decide)).2.1
    have x1 := (well_sg (by omega) i 1 hi (show 1 < wd 2 by decide)).2.1
    have x2 := (well_sg (by omega) i 2 hi (show 2 < wd 2 by decide)).2.1
    have x0 : sg 2 0 (tB T 2 (i * 4 + 0)) ≠ 0 := x0
    have x1 : sg 2 1 (tB T 2 (i * 4 + 1)) ≠ 0 := x1
    have x2 : sg 2 2 (tB T 2 (i * 4 + 2)) ≠ 0 := x2
    have y0 : sg 2 0 (tB T 2 (i * 4 + 0)) ≤ 24 := fig_le _ _ _
    have y1 : sg 2 1 (tB T 2 (i * 4 + 1)) ≤ 3 := fig_le _ _ _
    have y2 : sg 2 2 (tB T 2 (i * 4 + 2)) ≤ 6 := fig_le _ _ _
    refine ⟨?_, ?_, ?_⟩
    · show sg 2 0 (tB T 2 (i * 4 + 0)) - 1 < 24; omega
    · show sg 2 1 (tB T 2 (i * 4 + 1)) - 1 < 3; omega
    · show sg 2 2 (tB T 2 (i * 4 + 2)) - 1 < 6; omega
/-- the reference's own cells -/
def FM : Nat → Nat → Bool := fun a _ => Nat.ble 71 a
theorem FM_of {A : Nat → Nat → Bool} {σ σ' : Hp} (h : Fr A σ σ') (hA : ∀ a b, a < 71 → A a b = false) : Fr FM σ σ' := h.up (fun a b hb => hA a b (by
  unfold FM at hb
  rcases Nat.lt_or_ge a 71 with h | h
  · exact h
  · rw [Nat.ble_eq_true_of_le h] at hb; cases hb))
theorem ble_f {a b : Nat} (h : b < a) : Nat.ble a b = false := by
  cases h1 : Nat.ble a b
  · rfl
  · have := Nat.le_of_ble_eq_true h1; omega
theorem beq_f {a b : Nat} (h : a ≠ b) : Nat.beq a b = false := by
  cases h1 : Nat.beq a b
  · rfl
  · exact absurd (beq_t h1) h
theorem MF_FM {σ σ' : Hp} (h : Fr MF σ σ') : Fr FM σ σ' := FM_of h (fun a b ha => by unfold MF; rw [ble_f (by omega)]; rfl)
theorem MFh_FM {σ σ' : Hp} (h : Fr MFh σ σ') : Fr FM σ σ' := FM_of h (fun a b ha => by unfold MFh; rw [beq_f (by omega)])
theorem MFk_FM {σ σ' : Hp} (h : Fr MFk σ σ') : Fr FM σ σ' := FM_of h (fun a b ha => by unfold MFk; rw [beq_f (by omega), beq_f (by omega)]; rfl)
theorem MFs_FM {σ σ' : Hp} (h : Fr MFs σ σ') : Fr FM σ σ' := FM_of h (fun a b ha => by unfold MFs; rw [beq_f (by omega), beq_f (by omega)]; rfl)
theorem MFp_FM {σ σ' : Hp} (h : Fr MFp σ σ') : Fr FM σ σ' := FM_of h (fun a b ha => by unfold MFp; rw [beq_f (by omega), ble_f (by omega)]; rfl)
theorem MFf_FM {σ σ' : Hp} (h : Fr MFf σ σ') : Fr FM σ σ' := FM_of h (fun a b ha => by unfold MFf; rw [beq_f (by omega), ble_f (by omega), beq_f (by omega)]; rfl)
/-- the reference has read its texts -/
def MP (σ : Hp) (T : Td) : Prop := MTd σ T ∧ (∀ c, c < 3 → σ.1 78 c = spI (tB T 0) (tn T 0) c) ∧ MDk σ (tn T 1) (tB T 1) ∧ MSh σ (tn T 2) (tB T 2)
theorem MP.min {σ : Hp} {T : Td} (h : MP σ T) : MIn σ (gmT T) := by
  obtain ⟨⟨a1, a2, a3, a4, a5, a6, a7, a8, a9⟩, b1, b2, b3⟩ := h
  exact ⟨b2.1, b3.1, a4, b2.2, b1, b3.2, a2, a3, a5, fun e he => by rw [a9, bt_zero]; rfl⟩
theorem MDk.fr {σ σ' : Hp} {n : Nat} {B : Nat → Nat} {A : Nat → Nat → Bool} (h : MDk σ n B) (hF : Fr A σ σ') (h3 : A 71 8 = false := by rfl) (h4 : ∀ b, A 79 b = false := by exact fun _ => rfl) : MDk σ' n B := by
  unfold MDk at h ⊢
  rw [hF.i h3, hF.r h4]; exact h
theorem MSh.fr {σ σ' : Hp} {n : Nat} {B : Nat → Nat} {A : Nat → Nat → Bool} (h : MSh σ n B) (hF : Fr A σ σ') (h3 : A 71 10 = false := by rfl) (h4 : ∀ b, A 80 b = false := by exact fun _ => rfl) : MSh σ' n B := by
  unfold MSh at h ⊢
  rw [hF.i h3, hF.r h4]; exact h
theorem MP.fr {σ σ' : Hp} {T : Td} (h : MP σ T) (hF : Fr MF σ σ') : MP σ' T := ⟨h.1.fr hF, fun c hc => by rw [hF.i rfl]; exact h.2.1 c hc, h.2.2.1.fr hF, h.2.2.2.fr hF⟩
theorem MP.frp {σ σ' : Hp} {T : Td} (h : MP σ T) (hF : Fr MFp σ σ') : MP σ' T := ⟨h.1.fr hF, fun c hc => by rw [hF.i rfl]; exact h.2.1 c hc, h.2.2.1.fr hF, h.2.2.2.fr hF⟩
theorem MP.frf {σ σ' : Hp} {T : Td} (h : MP σ T) (hF : Fr MFf σ σ') (hS : MSh σ' (tn T 2) (tB T 2)) : MP σ' T := ⟨h.1.fr hF, fun c hc => by rw [hF.i rfl]; exact h.2.1 c hc, h.2.2.1.fr hF, hS⟩
theorem sX9_find {σ : Hp} {T : Td} {post : Hp → Prop} (hT : MTd σ T) (hO : Tok T) (h : ∀ σ', Fr FM σ σ' → MP σ' T → MOut σ' (gmT T) → post σ') : vX9_find σ post := by
  refine sX9_readsChains (hT.1 0 (by omega)) (fun σ1 hF1 h1 => ?_)
  have hT1 := hT.fr hF1
  refine sX9_readsDucks (hT1.1 1 (by omega)) (fun σ2 hF2 h2 => ?_)
  have hT2 := hT1.fr hF2
  refine sX9_readsShots (hT2.1 2 (by omega)) (fun σ3 hF3 h3 => ?_)
  have hT3 := hT2.fr hF3
  have hP : MP σ3 T := ⟨hT3, fun c hc => by rw [hF3.i rfl, hF2.i rfl]; exact h1 c hc, h2.fr hF3, h3⟩
  refine sX9_lives hP.min (gmT_ok hO) (fun σ4 hF4 h4 => h σ4 ((((MFh_FM hF1).tr' (MFk_FM hF2)).tr' (MFs_FM hF3)).tr' (MF_FM hF4)) (hP.fr hF4) h4)
