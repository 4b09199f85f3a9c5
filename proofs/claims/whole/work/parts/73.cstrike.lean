/-! ===== the class: a shot ===== -/
theorem pf_lI {a : Nat} (h : a < 2 ^ 63) : (lN a).toInt = (a : Int) := lg_ofNat_toInt h
theorem pf_shr {a d : Nat} {D : Int64} (hD : (D.toBitVec.smod 64).toNat = d) (h : a < 2 ^ 62) : lN a >>> D = lN (a / 2 ^ d) := by
  have hd : a / 2 ^ d ≤ a := Nat.div_le_self _ _
  apply Int64.toInt_inj.mp
  have e : (lN a >>> D).toInt = (lN a).toInt >>> d := by
    rw [← hD]
    exact BitVec.toInt_sshiftRight ..
  rw [e, Int.shiftRight_eq_div_pow, pf_lI (by omega), pf_lI (by omega)]
  rfl
/-- hits of each duck, four bits each -/
def nib (h : Nat → Nat) (n : Nat) : Nat := fb_sm (fun k => h k * 16 ^ k) n
theorem nib_lt {h : Nat → Nat} (hh : ∀ k, h k ≤ 15) : ∀ n, nib h n < 16 ^ n
  | 0 => by show 0 < 1; omega
  | n + 1 => by
    have ih := nib_lt hh n
    have h1 : nib h (n + 1) = nib h n + h n * 16 ^ n := rfl
    have h2 : h n * 16 ^ n ≤ 15 * 16 ^ n := Nat.mul_le_mul_right _ (hh n)
    rw [h1, Nat.pow_succ]; omega
theorem nib_get {h : Nat → Nat} (hh : ∀ k, h k ≤ 15) : ∀ {n k : Nat}, k < n → nib h n / 16 ^ k % 16 = h k
  | 0, k, hk => absurd hk (Nat.not_lt_zero k)
  | n + 1, k, hk => by
    have h1 : nib h (n + 1) = nib h n + h n * 16 ^ n := rfl
    rw [h1]
    by_cases e : k = n
    · subst e
      rw [Nat.add_mul_div_right _ _ (Nat.pow_pos (by omega)), Nat.div_eq_of_lt (nib_lt hh k), Nat.zero_add, Nat.mod_eq_of_lt (by have := hh k; omega)]
    · have hkn : k < n := by omega
      have e2 : h n * 16 ^ n = (h n * 16 ^ (n - k - 1) * 16) * 16 ^ k := by
        rw [Nat.mul_assoc, Nat.mul_assoc, ← Nat.pow_succ', ← Nat.pow_add, show n - k - 1 + (k + 1) = n by omega]
      rw [e2, Nat.add_mul_div_right _ _ (Nat.pow_pos (by omega)), Nat.add_mul_mod_self_right]
      exact nib_get hh hkn
theorem sh_fact : ∀ k, k < 12 → (((nI (4 * k)).toInt64 &&& 63).toBitVec.smod 64).toNat = 4 * k ∧ (1 : Int64) <<< ((nI (4 * k)).toInt64 &&& 63) = lN (16 ^ k) := by decide +kernel
theorem nib_read {h : Nat → Nat} (hh : ∀ k, h k ≤ 15) {n k : Nat} (hn : n ≤ 12) (hk : k < n) : ((lN (nib h n) >>> ((nI (4 * k)).toInt64 &&& 63)) &&& (15 : Int64)).toInt32 = nI (h k) := by
  have hl := nib_lt hh n
  have h2 : 16 ^ n ≤ 16 ^ 12 := Nat.pow_le_pow_right (by omega) hn
  have h3 : (16 : Nat) ^ 12 < 2 ^ 62 := by decide
  rw [pf_shr (sh_fact k (by omega)).1 (by omega), show (15 : Int64) = lN (2 ^ 4 - 1) from rfl, fb_maskL, lN_i]
  congr 1
  rw [Nat.pow_mul]
  exact nib_get hh hk
theorem nib_up {h : Nat → Nat} {n k : Nat} (hk : k < n) : nib (up h k (h k + 1)) n = nib h n + 16 ^ k := by
  have h1 := fb_sm_upd (fun j => h j * 16 ^ j) ((h k + 1) * 16 ^ k) hk
  have h2 : fb_sm (fun j => if j = k then (h k + 1) * 16 ^ k else h j * 16 ^ j) n = nib (up h k (h k + 1)) n := fb_sm_cong (fun j hj => by
    unfold up
    by_cases e : j = k
    · subst e; rw [if_pos rfl, if_pos rfl]
    · rw [if_neg e, if_neg e])
  rw [h2] at h1
  have h3 : (h k + 1) * 16 ^ k = h k * 16 ^ k + 16 ^ k := by rw [Nat.add_mul, Nat.one_mul]
  have h1 : nib (up h k (h k + 1)) n + h k * 16 ^ k = nib h n + (h k + 1) * 16 ^ k := h1
  omega
theorem sm_up {f : Nat → Nat} {n i w : Nat} (hi : i < n) : fb_sm (up f i (f i + w)) n = fb_sm f n + w := by
  have h1 := fb_sm_upd f (f i + w) hi
  have h2 : fb_sm (fun j => if j = i then f i + w else f j) n = fb_sm (up f i (f i + w)) n := fb_sm_cong (fun j _ => rfl)
  rw [h2] at h1
  omega
theorem and_on (x : Int32) {i : Nat} (hi : i < 32) : (x &&& on i = 0) = (bt x i = false) := by
  refine propext ⟨fun h => ?_, fun h => b_ext (fun j hj => ?_)⟩
  · have := congrArg (fun z => bt z i) h
    simp only [b_and, bt_on hi hi, bt_zero] at this
    simpa using this
  · rw [b_and, bt_on hi hj, bt_zero]
    by_cases e : j = i
    · subst e; rw [h]; rfl
    · rw [decide_eq_false e, Bool.and_false]
theorem b_not (x : Int32) {i : Nat} (hi : i < 32) : bt (x ^^^ (-1 : Int32)) i = !bt x i := by
  rw [b_xor, b_m1 i hi]; simp
def isRd (o : Nat) : Prop := o = 23 ∨ o = 35
theorem rd_fact {o : Nat} (h : isRd o) : kd o = 2 ∧ kd (o + 1) = 5 ∧ rt o 1 = o + 1 ∧ rt (o + 1) 0 = o + 2 ∧ rt (o + 1) 1 = o + 3 ∧ rt (o + 1) 2 = o + 4 ∧ rt o 2 = o + 5 ∧ rt o 6 = o + 6 ∧ rt o 7 = o + 7 ∧ rt o 8 = o + 8 ∧ rt o 9 = o + 9 ∧ rt o 10 = o + 10 ∧ rt o 13 = o + 11 ∧ iln (o + 2) = 12 ∧ iln (o + 3) = 12 ∧ iln (o + 4) = 12 ∧ iln (o + 5) = 12 ∧ iln (o + 6) = 24 ∧ iln (o + 7) = 24 ∧ lln (o + 8) = 24 ∧ iln (o + 9) = 12 ∧ iln (o + 10) = 12 ∧ iln (o + 11) = 24 ∧ kd (o + 11) = 10 ∧ ln (o + 11) = 24 := by
  rcases h with rfl | rfl <;> decide
/-- what 'play' writes of round o -/
def CFr (o : Nat) : Nat → Nat → Bool := fun a b => (Nat.ble (o + 6) a && Nat.ble a (o + 11)) || (Nat.beq a o && Nat.ble 11 b)
theorem CFr_t {o a b : Nat} (h : (o + 6 ≤ a ∧ a ≤ o + 11) ∨ (a = o ∧ 11 ≤ b)) : CFr o a b = true := by
  unfold CFr
  rcases h with ⟨h1, h2⟩ | ⟨rfl, h2⟩
  · rw [Nat.ble_eq_true_of_le h1, Nat.ble_eq_true_of_le h2]; rfl
  · rw [beq_s, Nat.ble_eq_true_of_le h2]; simp
theorem CFr_f {o a b : Nat} (h1 : a < o + 6 ∨ o + 11 < a) (h2 : a ≠ o ∨ b < 11) : CFr o a b = false := by
  unfold CFr
  rw [Bool.or_eq_false_iff]
  refine ⟨?_, ?_⟩
  · rcases h1 with h | h
    · rw [ble_f h]; rfl
    · rw [ble_f h, Bool.and_false]
  · rcases h2 with h | h
    · rw [beq_f h]; rfl
    · rw [ble_f h, Bool.and_false]
/-- what the round goes by -/
def CRi (σ : Hp) (o co : Nat) (g : Gm) : Prop :=
  σ.1 (o + 1) 3 = nI (ns g) ∧ (∀ i, i < ns g → σ.1 (o + 2) i = nI (gS g i 0) ∧ σ.1 (o + 3) i = nI (gS g i 1) ∧ σ.1 (o + 4) i = nI (gS g i 2)) ∧ (∀ k, k < nd g → σ.1 (o + 5) k = nI (gD g k 2)) ∧ σ.1 o 3 = nI (gpu g) ∧ σ.1 o 4 = nI (gfl g) ∧ σ.2.2 o 5 = co ∧ CCo σ co g 24 ∧ CFm σ g (nd g) ∧ (∀ k, k < nd g → σ.1 7 k = nI (gD g k 3))
/-- how it stands within the round -/
def CRs (σ : Hp) (o : Nat) (g : Gm) (x : Sx) : Prop :=
  (∀ k, k < 32 → bt (σ.1 o 14) k = (decide (k < nd g) && x.1 k == 2)) ∧ (∀ k, k < 32 → bt (σ.1 o 15) k = (decide (k < nd g) && x.1 k == 1)) ∧ σ.2.1 o 16 = lN (nib x.2.1 (nd g)) ∧ (∀ i, i < ns g → σ.1 (o + 9) i = fI (x.2.2.1 i) ∧ σ.1 (o + 10) i = nI (x.2.2.2 i)) ∧ σ.1 o 11 = nI (fb_sm x.2.2.2 (ns g)) ∧ (∀ i, i < 32 → bt (σ.1 o 12) i = (decide (i < ns g) && x.2.2.1 i != 0))
theorem CRi.fr {σ σ' : Hp} {o co : Nat} {g : Gm} (ho : isRd o) (hc : isCo co) (h : CRi σ o co g) (hF : Fr (CFr o) σ σ') : CRi σ' o co g := by
  have hoo : o = 23 ∨ o = 35 := ho
  have hcc : co = 15 ∨ co = 19 := hc
  obtain ⟨a1, a2, a3, a4, a5, a6, a7, a8, a9⟩ := h
  refine ⟨?_, ?_, ?_, ?_, ?_, ?_, a7.eq (hF.r (fun b => CFr_f (by omega) (by omega))) (hF.r (fun b => CFr_f (by omega) (by omega))) (hF.r (fun b => CFr_f (by omega) (by omega))), ?_, ?_⟩
  · rw [hF.i (CFr_f (by omega) (by omega))]; exact a1
  · rw [hF.r (fun b => CFr_f (by omega) (by omega)), hF.r (fun b => CFr_f (by omega) (by omega)), hF.r (fun b => CFr_f (by omega) (by omega))]; exact a2
  · rw [hF.r (fun b => CFr_f (by omega) (by omega))]; exact a3
  · rw [hF.i (CFr_f (by omega) (by omega))]; exact a4
  · rw [hF.i (CFr_f (by omega) (by omega))]; exact a5
  · rw [hF.n (CFr_f (by omega) (by omega)) (by rcases hoo with rfl | rfl <;> rfl)]; exact a6
  · unfold CFm at a8 ⊢
    rw [hF.r (fun b => CFr_f (by omega) (by omega))]; exact a8
  · rw [hF.r (fun b => CFr_f (by omega) (by omega))]; exact a9
/-- what 'shoot' writes -/
def CFq (o : Nat) : Nat → Nat → Bool := fun a b => (Nat.beq a (o + 9) || Nat.beq a (o + 10)) || (Nat.beq a o && Nat.ble 11 b)
theorem CFq_t {o a b : Nat} (h : a = o + 9 ∨ a = o + 10 ∨ (a = o ∧ 11 ≤ b)) : CFq o a b = true := by
  unfold CFq
  rcases h with rfl | rfl | ⟨rfl, h2⟩
  · rw [beq_s]; rfl
  · rw [beq_s]; simp
  · rw [beq_s, Nat.ble_eq_true_of_le h2]; simp
theorem CFq_f {o a b : Nat} (h1 : a ≠ o + 9) (h2 : a ≠ o + 10) (h3 : a ≠ o ∨ b < 11) : CFq o a b = false := by
  unfold CFq
  rw [beq_f h1, beq_f h2]
  rcases h3 with h | h
  · rw [beq_f h]; rfl
  · rw [ble_f h, Bool.and_false]; rfl
theorem CFq_CFr {o : Nat} : ∀ a b, CFr o a b = false → CFq o a b = false := fun a b h => by
  cases hq : CFq o a b
  · rfl
  · exfalso
    unfold CFq at hq
    rw [Bool.or_eq_true, Bool.or_eq_true, Bool.and_eq_true] at hq
    rcases hq with (q | q) | ⟨q, q2⟩
    · rw [beq_t q, CFr_t (by omega)] at h; cases h
    · rw [beq_t q, CFr_t (by omega)] at h; cases h
    · rw [beq_t q, CFr_t (Or.inr ⟨rfl, Nat.le_of_ble_eq_true q2⟩)] at h; cases h
theorem CRi.frq {σ σ' : Hp} {o co : Nat} {g : Gm} (ho : isRd o) (hc : isCo co) (h : CRi σ o co g) (hF : Fr (CFq o) σ σ') : CRi σ' o co g := h.fr ho hc (hF.up CFq_CFr)
section CS
variable {σ : Hp} {g : Gm} {post : Hp → Prop} {o co : Nat}
theorem sX2_strike_77 (ho : isRd o) (hI : CRi σ o co g) (hG : Gok g) {i k : Nat} {x : Sx} (hi : i < ns g) (hk : k < nd g) (hn : nst g k x = 2) (e14 : ∀ j, j < 32 → bt (σ.1 o 14) j = (decide (j < nd g) && x.1 j == 2)) (e15 : ∀ j, j < 32 → bt (σ.1 o 15) j = (decide (j < nd g) && x.1 j == 1)) (e16 : σ.2.1 o 16 = lN (nib (strk g i k x).2.1 (nd g))) (e9 : ∀ j, j < ns g → σ.1 (o + 9) j = fI ((strk g i k x).2.2.1 j) ∧ σ.1 (o + 10) j = nI (x.2.2.2 j)) (e11 : σ.1 o 11 = nI (fb_sm x.2.2.2 (ns g))) (e12 : ∀ j, j < 32 → bt (σ.1 o 12) j = (decide (j < ns g) && (strk g i k x).2.2.1 j != 0))
    (h : ∀ σ', Fr (CFq o) σ σ' → CRs σ' o g (strk g i k x) → post σ') : vX2_strike_77 post o (nI i) (nI k) (on k) σ := by
  obtain ⟨f1, f2, f3, f4, f5, f6, f7, f8, f9, f10, f11, f12, f13, l2, l3, l4, l5, l6, l7, l8, l9, l10, l11, -⟩ := rd_fact ho
  have hoo : o = 23 ∨ o = 35 := ho
  have g1 := hG.1
  have g5 := hG.2.2.2.2.1
  have w := hI.2.2.2.2.2.2.2.2 k hk
  unfold vX2_strike_77
  rw [f12, l10, nI_c (by omega), nI_c (by omega)]
  refine ⟨f1, ?_⟩
  rintro _ rfl _ rfl
  refine ⟨vp_in_nI (by omega) (by omega), vp_in_nI (by omega) (by omega), vp_in_nI (by omega) (by omega), ?_⟩
  rintro _ rfl
  refine ⟨vp_in_nI (by omega) (by omega), ?_⟩
  rintro _ rfl
  rw [wI_nf (by omega : (14 : Nat) ≠ 15)]
  generalize hS : wI (wI (wI (wI σ o 15 (σ.1 o 15 &&& (on k ^^^ -1))) o 14 (σ.1 o 14 ||| on k)) (o + 10) i ((wI (wI σ o 15 (σ.1 o 15 &&& (on k ^^^ -1))) o 14 (σ.1 o 14 ||| on k)).1 (o + 10) i + (wI (wI σ o 15 (σ.1 o 15 &&& (on k ^^^ -1))) o 14 (σ.1 o 14 ||| on k)).1 7 k)) o 11 ((wI (wI (wI σ o 15 (σ.1 o 15 &&& (on k ^^^ -1))) o 14 (σ.1 o 14 ||| on k)) (o + 10) i ((wI (wI σ o 15 (σ.1 o 15 &&& (on k ^^^ -1))) o 14 (σ.1 o 14 ||| on k)).1 (o + 10) i + (wI (wI σ o 15 (σ.1 o 15 &&& (on k ^^^ -1))) o 14 (σ.1 o 14 ||| on k)).1 7 k)).1 o 11 + (wI (wI (wI σ o 15 (σ.1 o 15 &&& (on k ^^^ -1))) o 14 (σ.1 o 14 ||| on k)) (o + 10) i ((wI (wI σ o 15 (σ.1 o 15 &&& (on k ^^^ -1))) o 14 (σ.1 o 14 ||| on k)).1 (o + 10) i + (wI (wI σ o 15 (σ.1 o 15 &&& (on k ^^^ -1))) o 14 (σ.1 o 14 ||| on k)).1 7 k)).1 7 k) = σ2
  have hF : Fr (CFq o) σ σ2 := by
    rw [← hS]
    exact (((Fr.wI (CFq_t (by omega))).tr' (Fr.wI (CFq_t (by omega)))).tr' (Fr.wI (CFq_t (by omega)))).tr' (Fr.wI (CFq_t (by omega)))
  have x15 : σ2.1 o 15 = σ.1 o 15 &&& (on k ^^^ -1) := by rw [← hS, wI_nf (by omega), wI_ne (by omega), wI_nf (by omega), wI_at, if_pos rfl]
  have x14 : σ2.1 o 14 = σ.1 o 14 ||| on k := by rw [← hS, wI_nf (by omega), wI_ne (by omega), wI_at, if_pos rfl]
  have x12 : σ2.1 o 12 = σ.1 o 12 := by rw [← hS, wI_nf (by omega), wI_ne (by omega), wI_nf (by omega), wI_nf (by omega)]
  have x11 : σ2.1 o 11 = σ.1 o 11 + nI (gD g k 3) := by
    rw [← hS, wI_at, if_pos rfl]
    rw [wI_ne (by omega), wI_nf (by omega), wI_nf (by omega), wI_ne (by omega), wI_ne (by omega), wI_ne (by omega), w]
  have x9 : σ2.1 (o + 9) = σ.1 (o + 9) := by rw [← hS, wI_ne (by omega), wI_ne (by omega), wI_ne (by omega), wI_ne (by omega)]
  have x10 : σ2.1 (o + 10) = fun b => if b = i then σ.1 (o + 10) i + nI (gD g k 3) else σ.1 (o + 10) b := by
    rw [← hS, wI_ne (by omega), wI_eq]
    funext b
    rw [wI_ne (by omega), wI_ne (by omega), wI_ne (by omega), wI_ne (by omega), w]
  have x16 : σ2.2.1 o 16 = σ.2.1 o 16 := by rw [← hS]; rfl
  refine h σ2 hF ⟨fun j hj => ?_, fun j hj => ?_, ?_, fun j hj => ?_, ?_, ?_⟩
  · rw [x14, b_or, e14 j hj, bt_on (by omega) hj]
    show _ = (decide (j < nd g) && up x.1 k (nst g k x) j == 2)
    by_cases e : j = k
    · subst e; rw [up_s, hn, decide_eq_true hk]; simp
    · rw [up_n e, decide_eq_false e, Bool.or_false]
  · rw [x15, b_and, b_not _ hj, e15 j hj, bt_on (by omega) hj]
    show _ = (decide (j < nd g) && up x.1 k (nst g k x) j == 1)
    by_cases e : j = k
    · subst e; rw [up_s, hn, decide_eq_true rfl]; simp
    · rw [up_n e, decide_eq_false e]; simp
  · rw [x16]; exact e16
  · rw [x9, x10]
    refine ⟨(e9 j hj).1, ?_⟩
    show _ = nI (up x.2.2.2 i (x.2.2.2 i + if nst g k x = 2 then gD g k 3 else 0) j)
    rw [if_pos hn]
    by_cases e : j = i
    · subst e; rw [up_s]; dsimp only; rw [if_pos rfl, (e9 j hj).2, nI_add]
    · rw [up_n e]; dsimp only; rw [if_neg e]; exact (e9 j hj).2
  · rw [x11, e11, nI_add]
    show _ = nI (fb_sm (up x.2.2.2 i (x.2.2.2 i + if nst g k x = 2 then gD g k 3 else 0)) (ns g))
    rw [if_pos hn, sm_up hi]
  · rw [x12]; exact e12
theorem sX2_strike (ho : isRd o) (hI : CRi σ o co g) (hc : isCo co) (hG : Gok g) {i k : Nat} {x : Sx} {a b : Int32} (hi : i < ns g) (hk : k < nd g) (ha : a = nI i) (hb : b = nI k) (hS : CRs σ o g x) (hx : x.1 k ≤ 2) (hnd : ¬ x.1 k = 2) (hfb : x.2.2.1 i ≤ 12) (h : ∀ σ', Fr (CFq o) σ σ' → CRs σ' o g (strk g i k x) → post σ') : vX2_strike o a b σ post := by
  subst ha hb
  obtain ⟨f1, f2, f3, f4, f5, f6, f7, f8, f9, f10, f11, f12, f13, l2, l3, l4, l5, l6, l7, l8, l9, l10, l11, -⟩ := rd_fact ho
  have hoo : o = 23 ∨ o = 35 := ho
  have g1 := hG.1
  have g5 := hG.2.2.2.2.1
  obtain ⟨d0, d1, d2, d3⟩ := hG.2.1 k hk
  obtain ⟨e14, e15, e16, e9, e11, e12⟩ := hS
  -- behind the first hit is noted
  have core : ∀ σ1 : Hp, Fr (CFq o) σ σ1 → σ1.1 o = σ.1 o → σ1.2.1 o = σ.2.1 o → σ1.1 (o + 10) = σ.1 (o + 10) → (∀ j, j < ns g → σ1.1 (o + 9) j = fI ((strk g i k x).2.2.1 j)) → vX2_strike_17 post o (nI i) (nI k) σ1 := by
    intro σ1 hF1 q1 q2 q3 q4
    have hI1 := hI.frq ho hc hF1
    unfold vX2_strike_17
    refine ⟨f1, ?_⟩
    rintro _ rfl σ2 hS2 _ rfl
    have hF2 : Fr (CFq o) σ σ2 := by
      rw [hS2]
      exact (hF1.tr' (Fr.wI (CFq_t (by omega)))).tr' (Fr.wL (CFq_t (by omega)))
    have y16 : σ2.2.1 o 16 = lN (nib (strk g i k x).2.1 (nd g)) := by
      rw [hS2, wL_at, if_pos rfl, wI_2, q2, e16, k4, nI_mul, (sh_fact k (by omega)).2, lN_add]
      show _ = lN (nib (up x.2.1 k (x.2.1 k + 1)) (nd g))
      rw [nib_up hk]
    have y1 : σ2.1 = (wI σ1 o 12 (σ1.1 o 12 ||| on i)).1 := by rw [hS2]; rfl
    have hI2 := hI.frq ho hc hF2
    have z12 : ∀ j, j < 32 → bt (σ2.1 o 12) j = (decide (j < ns g) && (strk g i k x).2.2.1 j != 0) := fun j hj => by
      rw [y1, wI_at, if_pos rfl, b_or, q1, e12 j hj, bt_on (by omega) hj]
      show _ = (decide (j < ns g) && up x.2.2.1 i (if x.2.2.1 i = 0 then k + 1 else x.2.2.1 i) j != 0)
      by_cases e : j = i
      · subst e
        have : (if x.2.2.1 j = 0 then k + 1 else x.2.2.1 j) ≠ 0 := by split <;> omega
        rw [up_s, decide_eq_true hi, decide_eq_true rfl, Bool.or_true]; simp [this]
      · rw [up_n e, decide_eq_false e, Bool.or_false]
    have z14 : σ2.1 o 14 = σ.1 o 14 := by rw [y1, wI_nf (by omega), q1]
    have z15 : σ2.1 o 15 = σ.1 o 15 := by rw [y1, wI_nf (by omega), q1]
    have z11 : σ2.1 o 11 = σ.1 o 11 := by rw [y1, wI_nf (by omega), q1]
    have z9 : ∀ j, j < ns g → σ2.1 (o + 9) j = fI ((strk g i k x).2.2.1 j) ∧ σ2.1 (o + 10) j = nI (x.2.2.2 j) := fun j hj => by
      rw [y1, wI_ne (by omega), wI_ne (by omega), q3]
      exact ⟨q4 j hj, (e9 j hj).2⟩
    have full : nst g k x = 2 → vX2_strike_77 post o (nI i) (nI k) (on k) σ2 := fun hn => sX2_strike_77 ho hI2 hG hi hk hn (fun j hj => by rw [z14]; exact e14 j hj) (fun j hj => by rw [z15]; exact e15 j hj) y16 z9 (by rw [z11]; exact e11) z12 (fun σ3 hF3 hS3 => h σ3 (hF2.tr' hF3) hS3)
    rw [f7, l5, nI_c (by omega), hI2.2.2.1 k hk, k1, nI_eq2 (by omega) (by omega)]
    refine ⟨vp_in_nI (by omega) (by omega), fun c1 => ?_, fun c1 => full (by unfold nst; rw [if_neg (fun h => c1 h.1)])⟩
    show ((σ2.1 o 15 &&& on k) = 0 → _) ∧ (¬ (σ2.1 o 15 &&& on k) = 0 → _)
    rw [and_on _ (by omega : k < 32), z15, e15 k (by omega), decide_eq_true hk, Bool.true_and]
    refine ⟨fun c2 => ?_, fun c2 => full (by unfold nst; rw [if_neg (fun h => c2 (by rw [h.2]; rfl))])⟩
    have hx0 : x.1 k = 0 := by
      have : ¬ x.1 k = 1 := by simpa using c2
      omega
    have hn : nst g k x = 1 := by unfold nst; rw [if_pos ⟨c1, hx0⟩]
    rintro _ rfl
    refine h _ (hF2.tr' (Fr.wI (CFq_t (by omega)))) ⟨fun j hj => ?_, fun j hj => ?_, ?_, fun j hj => ?_, ?_, fun j hj => ?_⟩
    · rw [wI_nf (by omega), z14, e14 j hj]
      show _ = (decide (j < nd g) && up x.1 k (nst g k x) j == 2)
      by_cases e : j = k
      · subst e; rw [up_s, hn, hx0]; simp
      · rw [up_n e]
    · rw [wI_at, if_pos rfl, b_or, e15 j hj]
      show (_ || bt (on k) j) = (decide (j < nd g) && up x.1 k (nst g k x) j == 1)
      rw [bt_on (by omega) hj]
      by_cases e : j = k
      · subst e; rw [up_s, hn, decide_eq_true hk]; simp
      · rw [up_n e, decide_eq_false e, Bool.or_false]
    · exact y16
    · rw [wI_ne (by omega), wI_ne (by omega)]
      refine ⟨(z9 j hj).1, ?_⟩
      show _ = nI (up x.2.2.2 i (x.2.2.2 i + if nst g k x = 2 then gD g k 3 else 0) j)
      rw [hn, if_neg (by omega), Nat.add_zero]
      by_cases e : j = i
      · subst e; rw [up_s]; exact (z9 j hj).2
      · rw [up_n e]; exact (z9 j hj).2
    · rw [wI_nf (by omega), z11, e11]
      show _ = nI (fb_sm (up x.2.2.2 i (x.2.2.2 i + if nst g k x = 2 then gD g k 3 else 0)) (ns g))
      rw [hn, if_neg (by omega), sm_up hi, Nat.add_zero]
    · rw [wI_nf (by omega)]; exact z12 j hj
  unfold vX2_strike
  rw [f11, l9, nI_c (by omega), (e9 i hi).1, fI_m1 (by omega)]
  refine ⟨f1, vp_in_nI (by omega) (by omega), fun q => ⟨vp_in_nI (by omega) (by omega), ?_⟩, fun q => ?_⟩
  · rintro _ rfl
    refine core _ (Fr.wI (CFq_t (by omega))) (wI_ne (by omega)) rfl (wI_ne (by omega)) (fun j hj => ?_)
    rw [wI_at]
    show _ = fI (up x.2.2.1 i (if x.2.2.1 i = 0 then k + 1 else x.2.2.1 i) j)
    by_cases e : j = i
    · subst e; rw [if_pos rfl, up_s, if_pos q, fI_s]
    · rw [if_neg e, up_n e]; exact (e9 j hj).1
  · refine core σ Fr.rf rfl rfl rfl (fun j hj => ?_)
    show _ = fI (up x.2.2.1 i (if x.2.2.1 i = 0 then k + 1 else x.2.2.1 i) j)
    by_cases e : j = i
    · subst e; rw [up_s, if_neg q]; exact (e9 j hj).1
    · rw [up_n e]; exact (e9 j hj).1
end CS
