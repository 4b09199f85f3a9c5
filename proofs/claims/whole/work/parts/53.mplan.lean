/-! ===== games that differ in one thing; plans of the reference ===== -/
def Fr1 (A : Nat → Nat → Bool) (k j : Nat) : Nat → Nat → Bool := fun a b => A a b || (Nat.beq a k && Nat.beq b j)
theorem beq_t {a b : Nat} (h : Nat.beq a b = true) : a = b := Nat.eq_of_beq_eq_true h
theorem beq_s (a : Nat) : Nat.beq a a = true := Nat.beq_refl a
theorem fr_back {A : Nat → Nat → Bool} {k j : Nat} {σ σ1 : Hp} {v : Int32} (h : Fr (Fr1 A k j) σ σ1) (hv : v = σ.1 k j) (hL : isL k j = false := by rfl) : Fr A σ (wI σ1 k j v) := fun a b hb => by
  subst hv
  by_cases e : a = k
  · subst e
    by_cases e2 : b = j
    · subst e2
      exact ⟨by rw [wI_at, if_pos rfl], fun q => by rw [hL] at q; cases q⟩
    · have := h a b (by
        unfold Fr1
        rw [hb, Bool.false_or]
        cases h : Nat.beq b j
        · simp
        · exact absurd (beq_t h) e2)
      exact ⟨by rw [wI_nf e2]; exact this.1, this.2⟩
  · have := h a b (by
      unfold Fr1
      rw [hb, Bool.false_or]
      cases h : Nat.beq a k
      · simp
      · exact absurd (beq_t h) e)
    exact ⟨by rw [wI_ne e]; exact this.1, this.2⟩
theorem Fr1_up {A : Nat → Nat → Bool} {k j : Nat} {σ σ1 : Hp} (h : Fr A σ σ1) : Fr (Fr1 A k j) σ σ1 := h.up (fun a b hb => by unfold Fr1 at hb; cases h : A a b <;> simp [h] at hb ⊢)
theorem Fr1_w {A : Nat → Nat → Bool} {k j : Nat} {σ : Hp} {v : Int32} : Fr (Fr1 A k j) σ (wI σ k j v) := Fr.wI (by unfold Fr1; rw [beq_s, beq_s]; simp)
/-- shot i's word j is v -/
def gSs (g : Gm) (i j v : Nat) : Gm := (g.1, g.2.1, (ns g, fun a b => if a = i ∧ b = j then v else gS g a b), g.2.2.2)
def gPu (g : Gm) (v : Nat) : Gm := (g.1, g.2.1, g.2.2.1, (v, gfl g), g.2.2.2.2)
def gKd (g : Gm) (k v : Nat) : Gm := ((nd g, fun a b => if a = k ∧ b = 2 then v else gD g a b), g.2)
def gCh (g : Gm) (ch : Nat → Bool) : Gm := (g.1, g.2.1, g.2.2.1, g.2.2.2.1, g.2.2.2.2.1, ch)
def gSh (g : Gm) (n : Nat) (S : Nat → Nat → Nat) : Gm := (g.1, g.2.1, (n, S), g.2.2.2)
theorem Gok.ss {g : Gm} (h : Gok g) {i j v : Nat} (hj : (j = 0 ∧ v < 24) ∨ (j = 2 ∧ v < 6)) : Gok (gSs g i j v) := by
  obtain ⟨g1, g2, g3, g4, g5, g6, g7, g8, g9, g10⟩ := h
  refine ⟨g1, g2, g3, g4, g5, fun a ha => ?_, g7, g8, g9, g10⟩
  obtain ⟨r0, r1, r2⟩ := g6 a ha
  show (if a = i ∧ 0 = j then v else gS g a 0) < 24 ∧ (if a = i ∧ 1 = j then v else gS g a 1) < 3 ∧ (if a = i ∧ 2 = j then v else gS g a 2) < 6
  rcases hj with ⟨rfl, hv⟩ | ⟨rfl, hv⟩
  · refine ⟨by split <;> omega, by rw [if_neg (by omega)]; exact r1, by rw [if_neg (by omega)]; exact r2⟩
  · refine ⟨by rw [if_neg (by omega)]; exact r0, by rw [if_neg (by omega)]; exact r1, by split <;> omega⟩
theorem Gok.pu {g : Gm} (h : Gok g) {v : Nat} (hv : v < 5) : Gok (gPu g v) := by
  obtain ⟨g1, g2, g3, g4, g5, g6, g7, g8, g9, g10⟩ := h
  exact ⟨g1, g2, g3, g4, g5, g6, hv, g8, g9, g10⟩
theorem Gok.kd {g : Gm} (h : Gok g) {k v : Nat} (hv : v < 3) : Gok (gKd g k v) := by
  obtain ⟨g1, g2, g3, g4, g5, g6, g7, g8, g9, g10⟩ := h
  refine ⟨g1, fun a ha => ?_, fun a b ha hb h0 h1 => ?_, g4, g5, g6, g7, g8, g9, g10⟩
  · obtain ⟨r0, r1, r2, r3⟩ := g2 a ha
    show (if a = k ∧ 0 = 2 then v else gD g a 0) < 3 ∧ (if a = k ∧ 1 = 2 then v else gD g a 1) < 12 ∧ (if a = k ∧ 2 = 2 then v else gD g a 2) < 3 ∧ (if a = k ∧ 3 = 2 then v else gD g a 3) ≤ 9
    refine ⟨by rw [if_neg (by omega)]; exact r0, by rw [if_neg (by omega)]; exact r1, by split <;> omega, by rw [if_neg (by omega)]; exact r3⟩
  · have h0 : (if a = k ∧ 0 = 2 then v else gD g a 0) = (if b = k ∧ 0 = 2 then v else gD g b 0) := h0
    have h1 : (if a = k ∧ 1 = 2 then v else gD g a 1) = (if b = k ∧ 1 = 2 then v else gD g b 1) := h1
    rw [if_neg (by omega), if_neg (by omega)] at h0 h1
    exact g3 a b ha hb h0 h1
theorem Gok.ch {g : Gm} (h : Gok g) (ch : Nat → Bool) : Gok (gCh g ch) := h
/-- a plan's answer: which, how much -/
def gpl (f : Nat → Nat) (n w : Nat) : Int32 := if w = 0 then fI (bst (fun v => f v + 1) n).1 else fI (bst (fun v => f v + 1) n).2
theorem fI_le {a m : Nat} (ha : a < 2147483648) (hm : m < 2147483648) : (nI a ≤ fI m) = (a + 1 ≤ m) := by
  rcases m with _ | m
  · refine propext ⟨fun h => ?_, fun h => by omega⟩
    rw [fI_0, fa_le, nI_toInt ha] at h
    have : (-1 : Int32).toInt = -1 := by decide
    omega
  · rw [fI_s, nI_le2 ha (by omega)]
    exact propext ⟨fun h => by omega, fun h => by omega⟩
section MP
variable {σ : Hp} {g : Gm} {post : Int32 → Hp → Prop}
theorem MIn.ss (hM : MIn σ g) {i j v : Nat} {σ' : Hp} (hj : j < 3) (hF : Fr (Fr1 MF 80 (3 * i + j)) σ σ') : MIn (wI σ' 80 (3 * i + j) (nI v)) (gSs g i j v) := by
  obtain ⟨m1, m2, m3, m4, m5, m6, m7, m8, m9, m10⟩ := hM
  refine ⟨?_, ?_, ?_, fun k hk j' hj' => ?_, fun c hc => ?_, fun a ha b hb => ?_, ?_, ?_, fun e he b hb => ?_, fun e he => ?_⟩
  · rw [wI_ne (by decide), hF.i rfl]; exact m1
  · rw [wI_ne (by decide), hF.i rfl]; exact m2
  · rw [wI_ne (by decide), hF.i rfl]; exact m3
  · rw [wI_ne (by decide), hF.i rfl]; exact m4 k hk j' hj'
  · rw [wI_ne (by decide), hF.i rfl]; exact m5 c hc
  · show _ = nI (if a = i ∧ b = j then v else gS g a b)
    rw [wI_at]
    by_cases e : a = i ∧ b = j
    · rw [if_pos (by rw [e.1, e.2]), if_pos e]
    · have hne : ¬ 3 * a + b = 3 * i + j := fun h => e (by omega)
      rw [if_neg hne, if_neg e, hF.i (by
        show (MF 80 (3 * a + b) || (true && Nat.beq (3 * a + b) (3 * i + j))) = false
        rw [show MF 80 (3 * a + b) = false from rfl, Bool.false_or, Bool.true_and]
        cases h : Nat.beq (3 * a + b) (3 * i + j)
        · rfl
        · exact absurd (beq_t h) hne)]
      exact m6 a ha b hb
  · rw [wI_ne (by decide), hF.i rfl]; exact m7
  · rw [wI_ne (by decide), hF.i rfl]; exact m8
  · rw [wI_ne (by decide), hF.i rfl]; exact m9 e he b hb
  · rw [wI_ne (by decide), hF.i rfl]; exact m10 e he
theorem sX9_shotBetter (hM : MIn σ g) (hG : Gok g) {i j many w : Nat} {a b c : Int32} (hi : i < ns g) (hj : (j = 0 ∧ many = 24) ∨ (j = 2 ∧ many = 6)) (hw : w < 2) (ha : a = nI (3 * i + j)) (hb : b = nI many) (hc : c = nI w) (h : ∀ σ', Fr MF σ σ' → post (gpl (fun v => gscore (gSs g i j v)) many w) σ') : vX9_shotBetter a b c σ post := by
  subst ha hb hc
  have g5 := hG.2.2.2.2.1
  have hGv : ∀ v, v < many → Gok (gSs g i j v) := fun v hv => hG.ss (by omega)
  suffices L : ∀ (d v : Nat) (σ1 : Hp), v + d = many → Fr (Fr1 MF 80 (3 * i + j)) σ σ1 → vX9_shotBetter_17 post (fun z5_3 z6_4 σ_5 => (vp_in (nI (3 * i + j)) 36 ∧ ∀ σ_7 : Hp, σ_7 = wI σ_5 80 (3 * i + j) (σ.1 80 (3 * i + j)) → ((nI w = 0 → post z5_3 σ_7) ∧ (¬ nI w = 0 → post z6_4 σ_7)))) (nI (3 * i + j)) (nI many) (nI w) (σ.1 80 (3 * i + j)) (d + 1) (fI (bst (fun v => gscore (gSs g i j v) + 1) v).1) (fI (bst (fun v => gscore (gSs g i j v) + 1) v).2) (nI v) σ1 by
    refine ⟨vp_in_nI (by omega) (by omega), ?_⟩
    rw [nI_c (by omega)]
    rintro _ rfl
    exact ⟨many + 1, L many 0 σ (by omega) Fr.rf⟩
  intro d
  induction d with
  | zero =>
    intro v σ1 hd hF
    rw [vX9_shotBetter_17]; dsimp only
    refine ⟨fun _ => ⟨vp_in_nI (by omega) (by omega), ?_⟩, fun c => absurd (nI_le (by omega) (by omega)) c⟩
    rintro _ rfl
    have hv : v = many := by omega
    subst hv
    have hend := h _ (fr_back hF rfl)
    rw [k0, nI_eq2 (by omega) (by omega)]
    unfold gpl at hend
    refine ⟨fun q => ?_, fun q => ?_⟩
    · rw [if_pos q] at hend; exact hend
    · rw [if_neg q] at hend; exact hend
  | succ d ih =>
    intro v σ1 hd hF
    have hsc := gscore_le (hGv v (by omega))
    have hbl : (bst (fun v => gscore (gSs g i j v) + 1) v).2 ≤ 325 := by
      have : ∀ n, n ≤ many → (bst (fun v => gscore (gSs g i j v) + 1) n).2 ≤ 325 := by
        intro n
        induction n with
        | zero => intro _; exact Nat.zero_le _
        | succ n ihn =>
          intro hn
          rw [bst]
          split
          · have := gscore_le (hGv n (by omega)); show gscore _ + 1 ≤ 325; omega
          · exact ihn (by omega)
      exact this v (by omega)
    rw [vX9_shotBetter_17]; dsimp only
    refine ⟨fun c => absurd c (nI_ge (by omega) (by omega)), fun _ => ⟨vp_in_nI (by omega) (by omega), ?_⟩⟩
    rw [nI_c (by omega)]
    rintro _ rfl
    have hM1 := MIn.ss hM (v := v) (by omega) hF
    refine sX9_lives hM1 (hGv v (by omega)) (fun σ2 hF2 hO2 => ?_)
    refine sX9_score (hM1.fr hF2).2.1 (hGv v (by omega)) hO2 ?_
    have hF3 : Fr (Fr1 MF 80 (3 * i + j)) σ σ2 := (hF.tr' Fr1_w).tr' (Fr1_up hF2)
    have ih := ih (v + 1) σ2 (by omega) hF3
    rw [bst] at ih
    rw [fI_le (by omega) (by omega)]
    refine ⟨fun q => sX9_greater ?_, fun q => sX9_greater ?_⟩
    · rw [if_pos (by rw [fI_le (by omega) (by omega)]; exact q)]
      rintro _ rfl
      rw [if_neg (by omega)] at ih
      rw [nI_1]; exact ih
    · rw [if_neg (by rw [fI_le (by omega) (by omega)]; exact q)]
      rintro _ rfl
      rw [if_pos (by omega), fI_s, fI_s] at ih
      rw [nI_1]; exact ih
end MP
