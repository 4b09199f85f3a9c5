theorem sp12_all : ∀ p, p < 12 → ∀ v, v < 4 → ((nI p + nI v) + 12) - ((nI p + nI v) + 12) / 12 * 12 = nI ((p + spN (nI v)) % 12) ∧ ((nI p + -(nI v)) + 12) - ((nI p + -(nI v)) + 12) / 12 * 12 = nI ((p + spN (-(nI v))) % 12) := by decide +kernel
theorem sp12 {p : Nat} {s : Int32} (hp : p < 12) (hs : ∃ v, v ≤ 3 ∧ (s = nI v ∨ s = -(nI v))) : ((nI p + s) + 12) - ((nI p + s) + 12) / 12 * 12 = nI ((p + spN s) % 12) := by
  obtain ⟨v, hv, rfl | rfl⟩ := hs
  · exact (sp12_all p hp v (by omega)).1
  · exact (sp12_all p hp v (by omega)).2
theorem pl_succ (g : Gm) (t k : Nat) : pl g (t + 1) k = (pl g t k + if hasE g 0 t (gD g k 0) then 0 else spN (gsp g (gD g k 0))) % 12 := by
  unfold pl
  rw [gnb]
  generalize (if hasE g 0 t (gD g k 0) then 0 else spN (gsp g (gD g k 0))) = s
  omega
theorem pl_lt (g : Gm) (T k : Nat) : pl g T k < 12 := Nat.mod_lt _ (by omega)
theorem hasE_ev (g : Gm) (kind t c : Nat) : hasE g kind t c = anyb (evb g kind t c) (gne g) := rfl
def fI (n : Nat) : Int32 := if n = 0 then -1 else nI (n - 1)
/-- the reference's ducks and shots, as they are behind T turns -/
def MSt (σ : Hp) (g : Gm) (T : Nat) (x : Sx) : Prop :=
  (∀ k, k < nd g → σ.1 83 k = nI (pl g T k) ∧ σ.1 84 k = nI (x.1 k) ∧ σ.1 85 k = nI (x.2.1 k)) ∧ (∀ i, i < 12 → σ.1 86 i = fI (x.2.2.1 i) ∧ σ.1 87 i = nI (x.2.2.2 i))
def MF34 : Nat → Nat → Bool := fun a _ => Nat.ble 83 a && Nat.ble a 84
/-- between: the first k are turned -/
def MTu (σ : Hp) (g : Gm) (t : Nat) (x : Sx) (k : Nat) : Prop :=
  ∀ j, j < nd g → σ.1 83 j = nI (if j < k then pl g (t + 1) j else pl g t j) ∧ σ.1 84 j = nI (if j < k then (turn g t x).1 j else x.1 j)
theorem sX9_turns_83 {post ex : Hp → Prop} {rc : Int32 → Hp → Prop} {J Z y0 : Int32} {σ : Hp} {g : Gm} {t k : Nat} {x : Sx} (hG : Gok g) (hk : k < nd g) (hZ : ∀ c, c < 32 → bt Z c = hasE g 2 t c) (hT : MTu σ g t x k) (hy : y0 = nI (pl g (t + 1) k)) (h : ∀ σ', Fr MF34 σ σ' → MTu σ' g t x (k + 1) → rc (nI (k + 1)) σ') : vX9_turns_83 post ex rc J Z (nI k) y0 (nI k) σ := by
  obtain ⟨g1, g2, -⟩ := id hG
  have hk12 : k < 12 := by omega
  have hp := pl_lt g (t + 1) k
  subst hy
  have fin : ∀ (σ2 : Hp) (w : Nat), σ2 = wI (wI σ 83 k (nI (pl g (t + 1) k))) 84 k (nI w) → w = (turn g t x).1 k → rc (nI (k + 1)) σ2 := by
    intro σ2 w e1 e2
    subst e1
    refine h _ ((Fr.wI rfl).tr' (Fr.wI rfl)) (fun j hj => ?_)
    obtain ⟨t1, t2⟩ := hT j hj
    rw [wI_ne (by decide : (83 : Nat) ≠ 84), wI_at, wI_at, wI_ne (by decide : (84 : Nat) ≠ 83)]
    by_cases e : j = k
    · subst e
      rw [if_pos rfl, if_pos rfl, if_pos (by omega), if_pos (by omega), e2]
      exact ⟨rfl, rfl⟩
    · rw [if_neg e, if_neg e, t1, t2]
      by_cases hjk : j < k
      · rw [if_pos hjk, if_pos hjk, if_pos (by omega), if_pos (by omega)]; exact ⟨rfl, rfl⟩
      · rw [if_neg hjk, if_neg hjk, if_neg (by omega), if_neg (by omega)]; exact ⟨rfl, rfl⟩
  have hs : (wI σ 83 k (nI (pl g (t + 1) k))).1 84 k = nI (x.1 k) := by
    rw [wI_ne (by decide), (hT k hk).2, if_neg (by omega)]
  unfold vX9_turns_83
  refine ⟨vp_in_nI hk12 (by omega), ?_⟩
  rintro _ rfl
  rw [nI_c (by omega)]
  refine ⟨vp_in_nI hk12 (by omega), ?_⟩
  rw [wI_at, if_pos rfl]
  refine ⟨fun c => ⟨vp_in_nI hk12 (by omega), ?_⟩, fun c => ?_⟩
  · rw [k5, nI_lt2 (by omega) (by omega)] at c
    rintro _ rfl _ rfl
    rw [nI_1]
    exact fin _ 0 rfl (by simp only [turn]; rw [if_pos (Or.inl c)])
  · rw [k5, nI_lt2 (by omega) (by omega)] at c
    refine sX9_isInB rfl (by omega) (fun c2 => ?_) (fun c2 => ?_) <;> rw [hZ k (by omega)] at c2
    · refine ⟨fun h => absurd h (by decide), fun _ => ⟨vp_in_nI hk12 (by omega), ?_⟩⟩
      rintro _ rfl _ rfl
      rw [nI_1]
      exact fin _ 0 rfl (by simp only [turn]; rw [if_pos (Or.inr c2)])
    · refine ⟨fun _ => ⟨vp_in_nI hk12 (by omega), vp_in_nI hk12 (by omega), ?_⟩, fun h => absurd rfl h⟩
      rintro _ rfl _ rfl
      rw [nI_1, hs]
      exact fin _ (x.1 k) rfl (by simp only [turn]; rw [if_neg (by rw [c2]; simp; omega)])
theorem sX9_turns_17 {post ex : Hp → Prop} {J Z : Int32} {g : Gm} {t : Nat} {x : Sx} (hG : Gok g) (hJ : ∀ c, c < 32 → bt J c = hasE g 0 t c) (hZ : ∀ c, c < 32 → bt Z c = hasE g 2 t c) : ∀ (d k : Nat) (σ : Hp), k + d = nd g → MIn σ g → MTu σ g t x k → (∀ σ', Fr MF34 σ σ' → MTu σ' g t x (nd g) → ex σ') → vX9_turns_17 post ex J Z (d + 1) (nI k) σ := by
  obtain ⟨g1, g2, -, g4, -⟩ := id hG
  intro d
  induction d with
  | zero =>
    intro k σ hd hM hT hex
    obtain ⟨m1, -⟩ := hM
    rw [vX9_turns_17]; dsimp only; rw [m1]
    refine ⟨fun _ => hex σ Fr.rf ?_, fun c => absurd (nI_le (by omega) (by omega)) c⟩
    rw [show nd g = k by omega]; exact hT
  | succ d ih =>
    intro k σ hd hM hT hex
    have hk : k < nd g := by omega
    obtain ⟨m1, m2, m3, m4, m5, -⟩ := id hM
    obtain ⟨d0, d1, -⟩ := g2 k hk
    have e0 := m4 k hk 0 (by omega)
    simp only [Nat.add_zero] at e0
    have hpk := (hT k hk).1
    rw [if_neg (by omega)] at hpk
    have go : ∀ y0 : Int32, y0 = nI (pl g (t + 1) k) → vX9_turns_83 post ex (vX9_turns_17 post ex J Z (d + 1)) J Z (nI k) y0 (nI k) σ := fun y0 hy =>
      sX9_turns_83 hG hk hZ hT hy (fun σ' hF hT' => ih (k + 1) σ' (by omega) (hM.fr hF) hT' (fun σ2 hF2 h2 => hex σ2 (hF.tr' hF2) h2))
    rw [vX9_turns_17]; dsimp only; rw [m1]
    refine ⟨fun c => absurd c (nI_ge (by omega) (by omega)), fun _ => ?_⟩
    rw [k4, nI_mul, nI_c (by omega), e0]
    refine ⟨vp_in_nI (by omega) (by omega), ?_⟩
    rintro _ rfl
    refine sX9_isInB rfl (by omega) (fun c2 => ?_) (fun c2 => ?_) <;> rw [hJ _ (by omega)] at c2
    · refine ⟨fun h => absurd h (by decide), fun _ => ⟨vp_in_nI (by omega) (by omega), ?_⟩⟩
      refine go _ ?_
      rw [nI_c (by omega), hpk, pl_succ, if_pos c2, Nat.add_zero, Nat.mod_eq_of_lt (pl_lt g t k)]
    · refine ⟨fun _ => ⟨vp_in_nI (by omega) (by omega), vp_in_nI (by omega) (by omega), ?_⟩, fun h => absurd rfl h⟩
      refine go _ ?_
      rw [nI_c (by omega), nI_c (by omega), hpk, m5 _ d0, sp12 (pl_lt g t k) (g4 _ d0), pl_succ, if_neg (by rw [c2]; decide)]
theorem sX9_turns {post : Hp → Prop} {σ : Hp} {g : Gm} {t : Nat} {x : Sx} {a : Int32} (hM : MIn σ g) (hG : Gok g) (ht : t < 24) (ha : a = nI t) (hS : MSt σ g t x) (h : ∀ σ', Fr MF34 σ σ' → MSt σ' g (t + 1) (turn g t x) → post σ') : vX9_turns a σ post := by
  subst ha
  refine sX9_toldIn hM hG (by omega : 0 < 3) ht rfl rfl (fun J hJ => ?_)
  refine sX9_toldIn hM hG (by omega : 2 < 3) ht rfl rfl (fun Z hZ => ?_)
  refine ⟨nd g + 1, sX9_turns_17 hG hJ hZ (nd g) 0 σ (by omega) hM (x := x) (fun j hj => ?_) (fun σ' hF hT => h σ' hF ⟨fun k hk => ?_, fun i hi => ?_⟩)⟩
  · rw [if_neg (by omega), if_neg (by omega)]; exact ⟨(hS.1 j hj).1, (hS.1 j hj).2.1⟩
  · obtain ⟨t1, t2⟩ := hT k hk
    rw [if_pos hk] at t1 t2
    exact ⟨t1, t2, by rw [hF.i rfl]; exact (hS.1 k hk).2.2⟩
  · rw [hF.i rfl, hF.i rfl]; exact hS.2 i hi
