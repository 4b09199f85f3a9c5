/-! ===== the reference: a tick ===== -/
/-- the reference's cells tell the game -/
def MIn (σ : Hp) (g : Gm) : Prop :=
  σ.1 71 8 = nI (nd g) ∧ σ.1 71 10 = nI (ns g) ∧ σ.1 71 13 = nI (gne g) ∧ (∀ k, k < nd g → ∀ j, j < 4 → σ.1 79 (4 * k + j) = nI (gD g k j)) ∧ (∀ c, c < 3 → σ.1 78 c = gsp g c) ∧
  (∀ i, i < ns g → ∀ j, j < 3 → σ.1 80 (3 * i + j) = nI (gS g i j)) ∧ σ.1 81 0 = nI (gpu g) ∧ σ.1 81 1 = nI (gfl g) ∧ (∀ e, e < gne g → ∀ j, j < 3 → σ.1 82 (3 * e + j) = nI (gE g e j)) ∧ (∀ e, e < gne g → bt (σ.1 71 15) e = !gch g e)
/-- what 'lives' writes -/
def MF : Nat → Nat → Bool := fun a _ => Nat.ble 83 a && Nat.ble a 90
theorem MIn.fr {σ σ' : Hp} {g : Gm} {A : Nat → Nat → Bool} (h : MIn σ g) (hF : Fr A σ σ') (h1 : A 71 8 = false := by rfl) (h2 : A 71 10 = false := by rfl) (h3 : A 71 13 = false := by rfl) (h4 : ∀ b, A 79 b = false := by exact fun _ => rfl) (h5 : ∀ b, A 78 b = false := by exact fun _ => rfl) (h6 : ∀ b, A 80 b = false := by exact fun _ => rfl) (h7 : ∀ b, A 81 b = false := by exact fun _ => rfl) (h8 : ∀ b, A 82 b = false := by exact fun _ => rfl) (h9 : A 71 15 = false := by rfl) : MIn σ' g := by
  unfold MIn at h ⊢
  rw [hF.i h1, hF.i h2, hF.i h3, hF.r h4, hF.r h5, hF.r h6, hF.r h7, hF.r h8, hF.i h9]
  exact h
theorem sX9_isIn {x y : Int32} {n : Nat} {σ : Hp} {post : Int32 → Hp → Prop} (hy : y = nI n) (hn : n < 32) (h : post (if bt x n = true then 1 else 0) σ) : vX9_isIn x y σ post := by
  subst hy
  unfold vX9_isIn
  rw [bt_shr hn]
  exact ⟨fun c => by rw [if_pos c] at h; exact h, fun c => by rw [if_neg c] at h; exact h⟩
theorem sX9_isInB {x y : Int32} {n : Nat} {σ : Hp} {post : Int32 → Hp → Prop} (hy : y = nI n) (hn : n < 32) (h1 : bt x n = true → post 1 σ) (h0 : bt x n = false → post 0 σ) : vX9_isIn x y σ post := by
  refine sX9_isIn hy hn ?_
  cases h : bt x n
  · exact h0 h
  · exact h1 h
/-- an event of a kind in a tick with a number, among the first n -/
def evb (g : Gm) (kind t c : Nat) : Nat → Bool := fun e => gch g e && gE g e 0 == kind && gE g e 1 == t && gE g e 2 == c
theorem sX9_toldIn_5 {post ex : Int32 → Hp → Prop} {σ : Hp} {g : Gm} {kind t : Nat} (hM : MIn σ g) (hG : Gok g) (hk : kind < 3) (ht : t < 24) (hex : ∀ x : Int32, (∀ c, c < 32 → bt x c = anyb (evb g kind t c) (gne g)) → ex x σ) : ∀ (d e : Nat) (x : Int32), e + d = gne g → (∀ c, c < 32 → bt x c = anyb (evb g kind t c) e) → vX9_toldIn_5 post ex (nI kind) (nI t) (d + 1) x (nI e) σ := by
  obtain ⟨m1, m2, m3, m4, m5, m6, m7, m8, m9, m10⟩ := hM
  obtain ⟨-, -, -, -, -, -, -, -, g9, g10⟩ := hG
  intro d
  induction d with
  | zero =>
    intro e x hd hx
    rw [vX9_toldIn_5]; dsimp only; rw [m3]
    refine ⟨fun _ => hex x ?_, fun c => absurd (nI_le (by omega) (by omega)) c⟩
    rw [show gne g = e by omega]
    exact hx
  | succ d ih =>
    intro e x hd hx
    have he : e < gne g := by omega
    have e0 := m9 e he 0 (by omega)
    have e1 := m9 e he 1 (by omega)
    have e2 := m9 e he 2 (by omega)
    obtain ⟨r0, r1, r2⟩ := g10 e he
    have hno : (∀ c, c < 32 → evb g kind t c e = false) → vX9_toldIn_5 post ex (nI kind) (nI t) (d + 1) (x ||| 0) (nI (e + 1)) σ := fun hz => by
      refine ih (e + 1) _ (by omega) (fun c hc => ?_)
      rw [b_or, bt_zero, Bool.or_false, hx c hc, anyb, hz c hc, Bool.or_false]
    rw [vX9_toldIn_5]; dsimp only; rw [m3]
    refine ⟨fun c => absurd c (nI_ge (by omega) (by omega)), fun _ => ?_⟩
    simp only [Nat.add_zero] at e0
    simp (disch := omega) only [ks, nI_mul, nI_add, nI_in2, nI_c, e0, e1, e2, nI_eq2]
    refine ⟨by omega, fun c0 => ⟨by omega, fun c1 => ?_, fun c1 => ?_⟩, fun c0 => ?_⟩
    · refine sX9_isInB rfl (by omega) (fun c2 => ?_) (fun c2 => ?_) <;> rw [m10 e he] at c2
      · refine ⟨fun h => absurd h (by decide), fun _ => ?_⟩
        rintro _ rfl _ rfl
        exact hno (fun c _ => by simp at c2; simp [evb, c2])
      · refine ⟨fun _ => ⟨by omega, ?_⟩, fun h => absurd rfl h⟩
        rintro _ rfl _ rfl
        refine ih (e + 1) _ (by omega) (fun c hc2 => ?_)
        rw [b_or, hx c hc2, anyb, e2]
        congr 1
        rw [show (nI 1 : Int32) = 1 from rfl, show (nI 31 : Int32) = 31 from rfl, bt_one (by omega) hc2]
        simp at c2
        simp only [evb, c2, c0, c1]
        by_cases hq : c = gE g e 2
        · subst hq; simp
        · have : ¬ gE g e 2 = c := fun h => hq h.symm
          simp [hq, this]
    · rintro _ rfl _ rfl
      exact hno (fun c _ => by simp [evb, c1])
    · rintro _ rfl _ rfl
      exact hno (fun c _ => by simp [evb, c0])
theorem sX9_toldIn {post : Int32 → Hp → Prop} {σ : Hp} {g : Gm} {kind t : Nat} {a b : Int32} (hM : MIn σ g) (hG : Gok g) (hk : kind < 3) (ht : t < 24) (ha : a = nI kind) (hb : b = nI t) (h : ∀ x : Int32, (∀ c, c < 32 → bt x c = anyb (evb g kind t c) (gne g)) → post x σ) : vX9_toldIn a b σ post := by
  subst ha hb
  exact ⟨gne g + 1, sX9_toldIn_5 hM hG hk ht h (gne g) 0 0 (by omega) (fun c _ => bt_zero c)⟩
