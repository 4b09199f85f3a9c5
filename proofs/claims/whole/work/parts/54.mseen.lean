/-- 0 ≤ x < n -/
def inb (x : Int32) (n : Nat) : Prop := 0 ≤ x.toInt ∧ x.toInt < n
theorem inb_nI {k n : Nat} (hk : k < n) (hn : n < 2147483648) : inb (nI k) n := by
  unfold inb
  rw [nI_toInt (by omega)]
  omega
theorem inb_of {x : Int32} {n : Nat} (h : inb x n) (hn : n < 2147483648) : ∃ k, k < n ∧ x = nI k := vp_in_of (vp_in_iff.mpr h) hn
theorem inb_n {k n : Nat} (hn : k < 2147483648) : inb (nI k) n ↔ k < n := by
  unfold inb
  rw [nI_toInt (by omega)]
  omega
/-- the reference's question 'from 0 to n - 1' -/
theorem sX9_in0 {x : Int32} {b c : Int64} {n : Nat} {σ : Hp} {post : Int32 → Hp → Prop} (hn : n < 2147483648) (hb : b.toInt = 0) (hc : c.toInt = (n : Int) - 1) (h1 : ∀ k, k < n → x = nI k → post 1 σ) (h0 : ¬ inb x n → post 0 σ) : vX9_in x.toInt64 b c σ post := by
  refine sX9_inB hb hc (fun q1 q2 => ?_) (fun q => h0 (fun h => ?_))
  · obtain ⟨k, hk, e⟩ := inb_of (x := x) (n := n) ⟨q1, by omega⟩ hn
    exact h1 k hk e
  · obtain ⟨a, b⟩ := h
    rcases q with q | q <;> omega
theorem sub1_toInt {n : Nat} (h : n < 1073741824) : ((nI n - 1).toInt64).toInt = (n : Int) - 1 := by
  rw [Int32.toInt_toInt64, k1, pk_sub_toInt (by omega) (by omega)]; rfl
theorem sX9_isDuck {x : Int32} {n : Nat} {σ : Hp} {post : Int32 → Hp → Prop} (h8 : σ.1 71 8 = nI n) (hn : n ≤ 12) (h1 : ∀ k, k < n → x = nI k → post 1 σ) (h0 : ¬ inb x n → post 0 σ) : vX9_isDuck x σ post := by
  unfold vX9_isDuck
  rw [h8]
  exact sX9_in0 (n := n) (by omega) rfl (sub1_toInt (by omega)) (fun k hk e => ⟨Or.inr rfl, h1 k hk e⟩) (fun q => ⟨Or.inl rfl, h0 q⟩)
/-- what was seen comes out so -/
def gsn (g : Gm) (Q : Nat → Nat → Nat) (n : Nat) : Bool := !anyb (fun j => !(decide (Q j 1 < nd g) && ((gst g (Q j 0 + 1) (Q j 1) == 2) == (Q j 2 == 1)))) n
/-- the reference's row of what was seen -/
def MSn (σ : Hp) (n : Nat) (Q : Nat → Nat → Nat) : Prop := σ.1 71 24 = nI n ∧ n ≤ 8 ∧ ∀ j, j < n → (∀ m, m < 3 → σ.1 91 (3 * j + m) = nI (Q j m)) ∧ Q j 0 < 24 ∧ Q j 1 < 12 ∧ Q j 2 < 2
theorem MSn.fr {σ σ' : Hp} {n : Nat} {Q : Nat → Nat → Nat} {A : Nat → Nat → Bool} (h : MSn σ n Q) (hF : Fr A σ σ') (h3 : A 71 24 = false := by rfl) (h4 : ∀ b, A 91 b = false := by exact fun _ => rfl) : MSn σ' n Q := by
  unfold MSn at h ⊢
  rw [hF.i h3, hF.r h4]
  exact h
section MQ
variable {σ : Hp} {g : Gm} {post : Int32 → Hp → Prop} {n : Nat} {Q : Nat → Nat → Nat}
theorem MIn.pu (hM : MIn σ g) {v : Nat} {σ' : Hp} (hF : Fr (Fr1 MF 81 0) σ σ') : MIn (wI σ' 81 0 (nI v)) (gPu g v) := by
  obtain ⟨m1, m2, m3, m4, m5, m6, m7, m8, m9, m10⟩ := hM
  refine ⟨?_, ?_, ?_, fun k hk j' hj' => ?_, fun c hc => ?_, fun a ha b hb => ?_, ?_, ?_, fun e he b hb => ?_, fun e he => ?_⟩
  · rw [wI_ne (by decide), hF.i rfl]; exact m1
  · rw [wI_ne (by decide), hF.i rfl]; exact m2
  · rw [wI_ne (by decide), hF.i rfl]; exact m3
  · rw [wI_ne (by decide), hF.i rfl]; exact m4 k hk j' hj'
  · rw [wI_ne (by decide), hF.i rfl]; exact m5 c hc
  · rw [wI_ne (by decide), hF.i rfl]; exact m6 a ha b hb
  · rw [wI_at, if_pos rfl]; rfl
  · rw [wI_nf (by decide), hF.i rfl]; exact m8
  · rw [wI_ne (by decide), hF.i rfl]; exact m9 e he b hb
  · rw [wI_ne (by decide), hF.i rfl]; exact m10 e he
theorem MIn.kd (hM : MIn σ g) {k v : Nat} {σ' : Hp} (hF : Fr (Fr1 MF 79 (4 * k + 2)) σ σ') : MIn (wI σ' 79 (4 * k + 2) (nI v)) (gKd g k v) := by
  obtain ⟨m1, m2, m3, m4, m5, m6, m7, m8, m9, m10⟩ := hM
  refine ⟨?_, ?_, ?_, fun a ha b hb => ?_, fun c hc => ?_, fun a ha b hb => ?_, ?_, ?_, fun e he b hb => ?_, fun e he => ?_⟩
  · rw [wI_ne (by decide), hF.i rfl]; exact m1
  · rw [wI_ne (by decide), hF.i rfl]; exact m2
  · rw [wI_ne (by decide), hF.i rfl]; exact m3
  · show _ = nI (if a = k ∧ b = 2 then v else gD g a b)
    rw [wI_at]
    by_cases e : a = k ∧ b = 2
    · rw [if_pos (by rw [e.1, e.2]), if_pos e]
    · have hne : ¬ 4 * a + b = 4 * k + 2 := fun h => e (by omega)
      rw [if_neg hne, if_neg e, hF.i (by
        show (MF 79 (4 * a + b) || (true && Nat.beq (4 * a + b) (4 * k + 2))) = false
        rw [show MF 79 (4 * a + b) = false from rfl, Bool.false_or, Bool.true_and]
        cases h : Nat.beq (4 * a + b) (4 * k + 2)
        · rfl
        · exact absurd (beq_t h) hne)]
      exact m4 a ha b hb
  · rw [wI_ne (by decide), hF.i rfl]; exact m5 c hc
  · rw [wI_ne (by decide), hF.i rfl]; exact m6 a ha b hb
  · rw [wI_ne (by decide), hF.i rfl]; exact m7
  · rw [wI_ne (by decide), hF.i rfl]; exact m8
  · rw [wI_ne (by decide), hF.i rfl]; exact m9 e he b hb
  · rw [wI_ne (by decide), hF.i rfl]; exact m10 e he
theorem MIn.ch (hM : MIn σ g) {x : Int32} {σ' : Hp} (hF : Fr (Fr1 MF 71 15) σ σ') : MIn (wI σ' 71 15 x) (gCh g (fun e => !bt x e)) := by
  obtain ⟨m1, m2, m3, m4, m5, m6, m7, m8, m9, m10⟩ := hM
  refine ⟨?_, ?_, ?_, fun k hk j' hj' => ?_, fun c hc => ?_, fun a ha b hb => ?_, ?_, ?_, fun e he b hb => ?_, fun e he => ?_⟩
  · rw [wI_nf (by decide), hF.i rfl]; exact m1
  · rw [wI_nf (by decide), hF.i rfl]; exact m2
  · rw [wI_nf (by decide), hF.i rfl]; exact m3
  · rw [wI_ne (by decide), hF.i rfl]; exact m4 k hk j' hj'
  · rw [wI_ne (by decide), hF.i rfl]; exact m5 c hc
  · rw [wI_ne (by decide), hF.i rfl]; exact m6 a ha b hb
  · rw [wI_ne (by decide), hF.i rfl]; exact m7
  · rw [wI_ne (by decide), hF.i rfl]; exact m8
  · rw [wI_ne (by decide), hF.i rfl]; exact m9 e he b hb
  · rw [wI_at, if_pos rfl]
    show _ = !(!bt x e)
    rw [Bool.not_not]
theorem sX9_mendBy (hM : MIn σ g) (hG : Gok g) {w : Nat} {c : Int32} (hw : w < 2) (hc : c = nI w) (h : ∀ σ', Fr MF σ σ' → post (gpl (fun v => gscore (gPu g v)) 5 w) σ') : vX9_mendBy c σ post := by
  subst hc
  have hGv : ∀ v, v < 5 → Gok (gPu g v) := fun v hv => hG.pu hv
  suffices L : ∀ (d v : Nat) (σ1 : Hp), v + d = 5 → Fr (Fr1 MF 81 0) σ σ1 → vX9_mendBy_15 post (fun z3_3 z4_4 σ_5 => (vp_in (0 : Int32) 2 ∧ ∀ σ_7 : Hp, σ_7 = wI σ_5 81 (0 : Int32).toNatClampNeg (σ.1 81 (0 : Int32).toNatClampNeg) → ((nI w = 0 → post z3_3 σ_7) ∧ (¬ nI w = 0 → post z4_4 σ_7)))) (nI w) (σ.1 81 (0 : Int32).toNatClampNeg) (d + 1) (fI (bst (fun v => gscore (gPu g v) + 1) v).1) (fI (bst (fun v => gscore (gPu g v) + 1) v).2) (nI v) σ1 by
    refine ⟨vp_in_nI (by omega : 0 < 2) (by omega), ?_⟩
    rintro _ rfl
    exact ⟨5 + 1, L 5 0 σ (by omega) Fr.rf⟩
  intro d
  induction d with
  | zero =>
    intro v σ1 hd hF
    rw [vX9_mendBy_15]; dsimp only; rw [k5]
    refine ⟨fun _ => ⟨vp_in_nI (by omega : 0 < 2) (by omega), ?_⟩, fun c => absurd (nI_le (by omega) (by omega)) c⟩
    rintro _ rfl
    have hv : v = 5 := by omega
    subst hv
    have hend := h _ (fr_back hF rfl)
    rw [k0, nI_c (by omega), nI_eq2 (by omega) (by omega)]
    unfold gpl at hend
    refine ⟨fun q => ?_, fun q => ?_⟩
    · rw [if_pos q] at hend; exact hend
    · rw [if_neg q] at hend; exact hend
  | succ d ih =>
    intro v σ1 hd hF
    have hsc := gscore_le (hGv v (by omega))
    have hbl : (bst (fun v => gscore (gPu g v) + 1) v).2 ≤ 325 := by
      have : ∀ n, n ≤ 5 → (bst (fun v => gscore (gPu g v) + 1) n).2 ≤ 325 := by
        intro n
        induction n with
        | zero => intro _; exact Nat.zero_le _
        | succ n ihn =>
          intro hn
          rw [bst]
          split
          · have := gscore_le (hGv n (by omega)); show gscore _ + 1 ≤ 325; omega
          · exact ihn (by omega)
      exact this v (by omega)
    rw [vX9_mendBy_15]; dsimp only; rw [k5]
    refine ⟨fun c => absurd c (nI_ge (by omega) (by omega)), fun _ => ⟨vp_in_nI (by omega : 0 < 2) (by omega), ?_⟩⟩
    rintro _ rfl
    have hM1 := MIn.pu hM (v := v) hF
    refine sX9_lives hM1 (hGv v (by omega)) (fun σ2 hF2 hO2 => ?_)
    refine sX9_score (hM1.fr hF2).2.1 (hGv v (by omega)) hO2 ?_
    have hF3 : Fr (Fr1 MF 81 0) σ σ2 := (hF.tr' Fr1_w).tr' (Fr1_up hF2)
    have ih := ih (v + 1) σ2 (by omega) hF3
    rw [bst] at ih
    rw [fI_le (by omega) (by omega)]
    refine ⟨fun q => sX9_greater ?_, fun q => sX9_greater ?_⟩
    · rw [if_pos (by rw [fI_le (by omega) (by omega)]; exact q)]
      rintro _ rfl
      rw [if_neg (by omega)] at ih
      rw [nI_1]; exact ih
    · rw [if_neg (by rw [fI_le (by omega) (by omega)]; exact q)]
      rintro _ rfl
      rw [if_pos (by omega), fI_s, fI_s] at ih
      rw [nI_1]; exact ih
/-- what was seen, on what the reference knows behind all ticks -/
theorem sX9_isSeen (hM : MIn σ g) (hG : Gok g) (hQ : MSn σ n Q) (h : ∀ σ', Fr MF σ σ' → MOut σ' g → post (if gsn g Q n = true then 1 else 0) σ') : vX9_isSeen σ post := by
  refine sX9_lives hM hG (fun σ1 hF1 hO1 => ?_)
  have hM1 := hM.fr hF1
  obtain ⟨q1, q2, q3⟩ := hQ.fr hF1
  have g1 := hG.1
  have hend := h σ1 hF1 hO1
  suffices L : ∀ (d j : Nat), j + d = n → vX9_isSeen_8 post (fun z1_3 σ_4 => ((z1_3 = 0 ∨ z1_3 = 1) ∧ post z1_3 σ_4)) (d + 1) (if gsn g Q j = true then 1 else 0) (nI j) σ1 from ⟨n + 1, L n 0 (by omega)⟩
  intro d
  induction d with
  | zero =>
    intro j hd
    rw [vX9_isSeen_8]; dsimp only; rw [q1]
    refine ⟨fun _ => ⟨by split <;> simp, ?_⟩, fun c => absurd (nI_le (by omega) (by omega)) c⟩
    rw [show j = n by omega]; exact hend
  | succ d ih =>
    intro j hd
    obtain ⟨p1, p2, p3, p4⟩ := q3 j (by omega)
    have e0 := p1 0 (by omega)
    have e1 := p1 1 (by omega)
    have e2 := p1 2 (by omega)
    simp only [Nat.add_zero] at e0
    have ih := ih (j + 1) (by omega)
    have hs : gsn g Q (j + 1) = (gsn g Q j && (decide (Q j 1 < nd g) && ((gst g (Q j 0 + 1) (Q j 1) == 2) == (Q j 2 == 1)))) := by
      unfold gsn; rw [anyb, Bool.not_or, Bool.not_not]
    rw [hs] at ih
    rw [vX9_isSeen_8]; dsimp only; rw [q1]
    refine ⟨fun c => absurd c (nI_ge (by omega) (by omega)), fun _ => ?_⟩
    rw [k3, k1, nI_mul, nI_add, nI_c (by omega), nI_c (by omega), e1]
    refine ⟨vp_in_nI (by omega) (by omega), ?_⟩
    rintro _ rfl
    cases hj : gsn g Q j
    · rw [hj, Bool.false_and] at ih
      refine ⟨fun _ => ?_, fun q => absurd rfl q⟩
      rintro _ rfl
      rw [nI_add]; exact ih
    · rw [hj, Bool.true_and] at ih
      refine ⟨fun q => absurd q (by decide), fun _ => ?_⟩
      refine sX9_isDuck hM1.1 g1 (fun k hk e => ?_) (fun hno => ?_)
      · have : Q j 1 = k := (nI_eq (by omega) (by omega)).mp e
        rw [this, decide_eq_true hk, Bool.true_and] at ih
        refine ⟨fun q => absurd q (by decide), fun _ => ⟨vp_in_nI (by omega) (by omega), ?_⟩⟩
        have s1 := (hO1.2 (Q j 0) p2 k hk).2.1
        have hg2 := gst_le g (Q j 0 + 1) k
        rw [e0, k12, nI_mul, nI_add, this, nI_c (by omega), s1, k2, nI_eq2 (by omega) (by omega)]
        refine ⟨vp_in_nI (by omega) (by omega), ?_⟩
        have tail : ∀ b : Bool, b = (gst g (Q j 0 + 1) k == 2) → vX9_isSeen_66 post (fun z1_3 σ_4 => ((z1_3 = 0 ∨ z1_3 = 1) ∧ post z1_3 σ_4)) (vX9_isSeen_8 post (fun z1_3 σ_4 => ((z1_3 = 0 ∨ z1_3 = 1) ∧ post z1_3 σ_4)) (d + 1)) (nI j) (if b then 1 else 0) σ1 := by
          intro b hb
          rw [← hb] at ih
          unfold vX9_isSeen_66
          rw [k3, k2, nI_mul, nI_add, nI_c (by omega), e2, k1, nI_eq2 (by omega) (by omega)]
          refine ⟨vp_in_nI (by omega) (by omega), fun c0 => ?_, fun c0 => ?_⟩
          · rw [show (Q j 2 == 1) = true by simp [c0]] at ih
            cases b
            · refine ⟨fun q => absurd q (by decide), fun _ => ?_⟩
              rintro _ rfl
              rw [nI_add]; exact ih
            · refine ⟨fun _ => ?_, fun q => absurd rfl q⟩
              rintro _ rfl
              rw [nI_add]; exact ih
          · rw [show (Q j 2 == 1) = false by simp [c0]] at ih
            cases b
            · refine ⟨fun _ => ?_, fun q => absurd rfl q⟩
              rintro _ rfl
              rw [nI_add]; exact ih
            · refine ⟨fun q => absurd q (by decide), fun _ => ?_⟩
              rintro _ rfl
              rw [nI_add]; exact ih
        refine ⟨fun c0 => tail true (by simp [c0]), fun c0 => tail false (by simp [c0])⟩
      · have : ¬ Q j 1 < nd g := fun h => hno (inb_nI h (by omega))
        rw [decide_eq_false this, Bool.false_and] at ih
        refine ⟨fun _ => ?_, fun q => absurd rfl q⟩
        rintro _ rfl
        rw [nI_add]; exact ih
/-- bit a alone -/
def on (a : Nat) : Int32 := (1 : Int32) <<< (nI a &&& 31)
theorem bt_on {a : Nat} (ha : a < 32) {i : Nat} (hi : i < 32) : bt (on a) i = decide (i = a) := bt_one ha hi
/-- which events never were, by what was seen -/
def gnv (g : Gm) (Q : Nat → Nat → Nat) (n : Nat) : Int32 := bm (fun e => gsn (gCh g (fun e' => !bt (on e) e')) Q n) (gne g)
theorem sX9_neverNow (hM : MIn σ g) (hG : Gok g) (hQ : MSn σ n Q) (h15 : σ.1 71 15 = 0) (h : ∀ σ', Fr MF σ σ' → post (gnv g Q n) σ') : vX9_neverNow σ post := by
  obtain ⟨-, -, -, -, -, -, -, -, g9, -⟩ := id hG
  suffices L : ∀ (d e : Nat) (σ1 : Hp), e + d = gne g → Fr (Fr1 MF 71 15) σ σ1 → vX9_neverNow_4 post (fun z1_1 σ_2 => (∀ σ_3 : Hp, σ_3 = wI σ_2 71 15 (0 : Int32) → post z1_1 σ_3)) (d + 1) (bm (fun e => gsn (gCh g (fun e' => !bt (on e) e')) Q n) e) (nI e) σ1 from ⟨gne g + 1, L (gne g) 0 σ (by omega) Fr.rf⟩
  intro d
  induction d with
  | zero =>
    intro e σ1 hd hF
    rw [vX9_neverNow_4]; dsimp only
    have h13 : σ1.1 71 13 = nI (gne g) := by rw [hF.i rfl]; exact hM.2.2.1
    rw [h13]
    refine ⟨fun _ => ?_, fun c => absurd (nI_le (by omega) (by omega)) c⟩
    rintro _ rfl
    rw [show e = gne g by omega]
    exact h _ (fr_back hF h15.symm)
  | succ d ih =>
    intro e σ1 hd hF
    rw [vX9_neverNow_4]; dsimp only
    have h13 : σ1.1 71 13 = nI (gne g) := by rw [hF.i rfl]; exact hM.2.2.1
    rw [h13]
    refine ⟨fun c => absurd c (nI_ge (by omega) (by omega)), fun _ => ?_⟩
    rintro _ rfl
    have hM1 := MIn.ch hM (x := on e) hF
    have hF1 : Fr (Fr1 MF 71 15) σ (wI σ1 71 15 (on e)) := hF.tr' Fr1_w
    refine sX9_isSeen hM1 (hG.ch _) (hQ.fr hF1) (fun σ2 hF2 hO2 => ?_)
    have ih := ih (e + 1) σ2 (by omega) (hF1.tr' (Fr1_up hF2))
    rw [bm] at ih
    cases hs : gsn (gCh g (fun e' => !bt (on e) e')) Q n
    · rw [hs] at ih
      refine ⟨fun _ => ?_, fun q => absurd rfl q⟩
      rintro _ rfl _ rfl
      rw [nI_1]; exact ih
    · rw [hs] at ih
      refine ⟨fun q => absurd q (by decide), fun _ => ?_⟩
      rintro _ rfl _ rfl
      rw [nI_1]; exact ih
/-- by which pulls it comes out so -/
def gpb (g : Gm) (Q : Nat → Nat → Nat) (n : Nat) : Int32 := bm (fun v => gsn (gPu g v) Q n) 5
def MFp : Nat → Nat → Bool := fun a _ => Nat.beq a 92 || (Nat.ble 83 a && Nat.ble a 90)
theorem MF_MFp : ∀ a b, MFp a b = false → MF a b = false := fun a b h => by
  unfold MFp at h
  cases h1 : Nat.beq a 92
  · rw [h1, Bool.false_or] at h; exact h
  · rw [h1] at h; cases h
theorem sX9_pullsNow (hM : MIn σ g) (hG : Gok g) (hQ : MSn σ n Q) (h : ∀ σ', Fr MFp σ σ' → (∀ v, v < 5 → ∀ t, t < 24 → σ'.1 92 (24 * v + t) = gdb (gPu g v) (t + 1)) → post (gpb g Q n) σ') : vX9_pullsNow σ post := by
  suffices L : ∀ (d v : Nat) (σ1 : Hp), v + d = 5 → Fr (Fr1 MFp 81 0) σ σ1 → (∀ v', v' < v → ∀ t, t < 24 → σ1.1 92 (24 * v' + t) = gdb (gPu g v') (t + 1)) → vX9_pullsNow_11 post (fun z2_3 σ_4 => (vp_in (0 : Int32) 2 ∧ ∀ σ_6 : Hp, σ_6 = wI σ_4 81 (0 : Int32).toNatClampNeg (σ.1 81 (0 : Int32).toNatClampNeg) → post z2_3 σ_6)) (σ.1 81 (0 : Int32).toNatClampNeg) (d + 1) (bm (fun v => gsn (gPu g v) Q n) v) (nI v) σ1 by
    refine ⟨vp_in_nI (by omega : 0 < 2) (by omega), ?_⟩
    rintro _ rfl
    exact ⟨5 + 1, L 5 0 σ (by omega) Fr.rf (fun v' hv => absurd hv (Nat.not_lt_zero v'))⟩
  intro d
  induction d with
  | zero =>
    intro v σ1 hd hF hD
    rw [vX9_pullsNow_11]; dsimp only; rw [k5]
    refine ⟨fun _ => ⟨vp_in_nI (by omega : 0 < 2) (by omega), ?_⟩, fun c => absurd (nI_le (by omega) (by omega)) c⟩
    rintro _ rfl
    have hv : v = 5 := by omega
    subst hv
    refine h _ (fr_back hF rfl) (fun v' hv' t ht => ?_)
    rw [wI_ne (by decide)]; exact hD v' hv' t ht
  | succ d ih =>
    intro v σ1 hd hF hD
    have hGv : Gok (gPu g v) := hG.pu (by omega)
    rw [vX9_pullsNow_11]; dsimp only; rw [k5]
    refine ⟨fun c => absurd c (nI_ge (by omega) (by omega)), fun _ => ⟨vp_in_nI (by omega : 0 < 2) (by omega), ?_⟩⟩
    rintro _ rfl
    have hM0 : MIn σ1 (gPu g v) → True := fun _ => trivial
    have hM1 : MIn (wI σ1 81 0 (nI v)) (gPu g v) := by
      have hm := hM
      obtain ⟨m1, m2, m3, m4, m5, m6, m7, m8, m9, m10⟩ := hm
      refine ⟨?_, ?_, ?_, fun k hk j' hj' => ?_, fun c hc => ?_, fun a ha b hb => ?_, ?_, ?_, fun e he b hb => ?_, fun e he => ?_⟩
      · rw [wI_ne (by decide), hF.i rfl]; exact m1
      · rw [wI_ne (by decide), hF.i rfl]; exact m2
      · rw [wI_ne (by decide), hF.i rfl]; exact m3
      · rw [wI_ne (by decide), hF.i rfl]; exact m4 k hk j' hj'
      · rw [wI_ne (by decide), hF.i rfl]; exact m5 c hc
      · rw [wI_ne (by decide), hF.i rfl]; exact m6 a ha b hb
      · rw [wI_at, if_pos rfl]; rfl
      · rw [wI_nf (by decide), hF.i rfl]; exact m8
      · rw [wI_ne (by decide), hF.i rfl]; exact m9 e he b hb
      · rw [wI_ne (by decide), hF.i rfl]; exact m10 e he
    have hF1 : Fr (Fr1 MFp 81 0) σ (wI σ1 81 0 (nI v)) := hF.tr' Fr1_w
    refine sX9_isSeen hM1 hGv (hQ.fr hF1) (fun σ2 hF2 hO2 => ?_)
    have hF3 : Fr (Fr1 MFp 81 0) σ σ2 := hF1.tr' (Fr1_up (hF2.up MF_MFp))
    have hM2 := hM1.fr hF2
    have inner : ∀ x2 : Int32, x2 = bm (fun v => gsn (gPu g v) Q n) (v + 1) → ∀ (d' t : Nat) (σ3 : Hp), t + d' = 24 → Fr (Fr1 MFp 81 0) σ σ3 → Fr (fun a _ => Nat.beq a 92) σ2 σ3 → (∀ v', v' < v → ∀ t, t < 24 → σ3.1 92 (24 * v' + t) = gdb (gPu g v') (t + 1)) → (∀ t', t' < t → σ3.1 92 (24 * v + t') = gdb (gPu g v) (t' + 1)) → vX9_pullsNow_43 post (fun σ_8 => (∀ x3_9 : Int32, x3_9 = nI v + (1 : Int32) → vX9_pullsNow_11 post (fun z2_3 σ_4 => (vp_in (0 : Int32) 2 ∧ ∀ σ_6 : Hp, σ_6 = wI σ_4 81 (0 : Int32).toNatClampNeg (σ.1 81 (0 : Int32).toNatClampNeg) → post z2_3 σ_6)) (σ.1 81 (0 : Int32).toNatClampNeg) (d + 1) x2 x3_9 σ_8)) (σ.1 81 (0 : Int32).toNatClampNeg) x2 (nI v) (d' + 1) (nI t) σ3 := by
      intro x2 hx2 d'
      induction d' with
      | zero =>
        intro t σ3 ht hF3 hF4 hD1 hD2
        rw [vX9_pullsNow_43]; dsimp only; rw [k24]
        refine ⟨fun _ => ?_, fun c => absurd (nI_le (by omega) (by omega)) c⟩
        rintro _ rfl
        rw [nI_1, hx2]
        refine ih (v + 1) σ3 (by omega) hF3 (fun v' hv' t' ht' => ?_)
        by_cases e : v' = v
        · subst e; exact hD2 t' (by omega)
        · exact hD1 v' (by omega) t' ht'
      | succ d' ih' =>
        intro t σ3 ht hF3 hF4 hD1 hD2
        rw [vX9_pullsNow_43]; dsimp only; rw [k24]
        refine ⟨fun c => absurd c (nI_ge (by omega) (by omega)), fun _ => ?_⟩
        refine sX9_downBits (hM2.fr hF4) hGv (hO2.2.fr hF4) (by omega) rfl ?_
        rw [nI_mul, nI_add, nI_c (by omega)]
        refine ⟨vp_in_nI (by omega) (by omega), ?_⟩
        rintro _ rfl _ rfl
        rw [nI_1 t]
        refine ih' (t + 1) _ (by omega) (hF3.tr' (Fr.wI (k := 92) rfl)) (hF4.tr' (Fr.wI (k := 92) rfl)) (fun v' hv' t' ht' => ?_) (fun t' ht' => ?_)
        · rw [wI_at, if_neg (by omega)]; exact hD1 v' hv' t' ht'
        · rw [wI_at]
          by_cases e : t' = t
          · subst e; rw [if_pos rfl]
          · rw [if_neg (by omega)]; exact hD2 t' (by omega)
    have hD3 : ∀ v', v' < v → ∀ t, t < 24 → σ2.1 92 (24 * v' + t) = gdb (gPu g v') (t + 1) := fun v' hv' t ht => by
      rw [hF2.i rfl, wI_ne (by decide)]; exact hD v' hv' t ht
    cases hs : gsn (gPu g v) Q n
    · refine ⟨fun _ => ?_, fun q => absurd rfl q⟩
      rintro _ rfl
      exact ⟨24 + 1, inner _ (by rw [bm, hs]; rfl) 24 0 σ2 (by omega) hF3 Fr.rf hD3 (fun t' ht' => absurd ht' (Nat.not_lt_zero t'))⟩
    · refine ⟨fun q => absurd q (by decide), fun _ => ?_⟩
      rintro _ rfl
      exact ⟨24 + 1, inner _ (by rw [bm, hs]; rfl) 24 0 σ2 (by omega) hF3 Fr.rf hD3 (fun t' ht' => absurd ht' (Nat.not_lt_zero t'))⟩
/-- of what a duck may be -/
def gkb (g : Gm) (Q : Nat → Nat → Nat) (n k : Nat) : Int32 := bm (fun v => gsn (gKd g k v) Q n) 3
theorem sX9_kindOf (hM : MIn σ g) (hG : Gok g) (hQ : MSn σ n Q) {k : Nat} {a : Int32} (hk : k < nd g) (ha : a = nI k) (h : ∀ σ', Fr MF σ σ' → post (gkb g Q n k) σ') : vX9_kindOf a σ post := by
  subst ha
  have g1 := hG.1
  unfold vX9_kindOf
  rw [k4, k2, nI_mul, nI_add]
  rintro _ rfl
  rw [nI_c (by omega)]
  refine ⟨vp_in_nI (by omega) (by omega), ?_⟩
  rintro _ rfl
  suffices L : ∀ (d v : Nat) (σ1 : Hp), v + d = 3 → Fr (Fr1 MF 79 (4 * k + 2)) σ σ1 → vX9_kindOf_19 post (fun z4_4 σ_5 => (vp_in (nI (4 * k + 2)) 48 ∧ ∀ σ_7 : Hp, σ_7 = wI σ_5 79 (4 * k + 2) (σ.1 79 (4 * k + 2)) → post z4_4 σ_7)) (nI (4 * k + 2)) (σ.1 79 (4 * k + 2)) (d + 1) (bm (fun v => gsn (gKd g k v) Q n) v) (nI v) σ1 from ⟨3 + 1, L 3 0 σ (by omega) Fr.rf⟩
  intro d
  induction d with
  | zero =>
    intro v σ1 hd hF
    rw [vX9_kindOf_19]; dsimp only; rw [k3]
    refine ⟨fun _ => ⟨vp_in_nI (by omega) (by omega), ?_⟩, fun c => absurd (nI_le (by omega) (by omega)) c⟩
    rintro _ rfl
    have hv : v = 3 := by omega
    subst hv
    exact h _ (fr_back hF rfl)
  | succ d ih =>
    intro v σ1 hd hF
    have hGv : Gok (gKd g k v) := hG.kd (by omega)
    rw [vX9_kindOf_19]; dsimp only; rw [k3]
    refine ⟨fun c => absurd c (nI_ge (by omega) (by omega)), fun _ => ⟨vp_in_nI (by omega) (by omega), ?_⟩⟩
    rw [nI_c (by omega)]
    rintro _ rfl
    have hM1 := MIn.kd hM (k := k) (v := v) hF
    have hF1 : Fr (Fr1 MF 79 (4 * k + 2)) σ (wI σ1 79 (4 * k + 2) (nI v)) := hF.tr' Fr1_w
    refine sX9_isSeen hM1 hGv (hQ.fr hF1) (fun σ2 hF2 hO2 => ?_)
    have ih := ih (v + 1) σ2 (by omega) (hF1.tr' (Fr1_up hF2))
    rw [bm] at ih
    cases hs : gsn (gKd g k v) Q n
    · rw [hs] at ih
      refine ⟨fun _ => ?_, fun q => absurd rfl q⟩
      rintro _ rfl _ rfl
      rw [nI_1]; exact ih
    · rw [hs] at ih
      refine ⟨fun q => absurd q (by decide), fun _ => ?_⟩
      rintro _ rfl _ rfl
      rw [nI_1]; exact ih
end MQ
