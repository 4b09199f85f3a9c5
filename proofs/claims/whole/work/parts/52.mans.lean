/-! ===== answers of the picture; the reference's by what it knows behind all ticks ===== -/
/-- bits of those k < n that have p -/
def bm (p : Nat → Bool) : Nat → Int32
  | 0 => 0
  | n + 1 => bm p n ||| (if p n then (1 : Int32) <<< (nI n &&& 31) else 0)
theorem bm_bt (p : Nat → Bool) : ∀ {n : Nat}, n ≤ 32 → ∀ {i : Nat}, i < 32 → bt (bm p n) i = (decide (i < n) && p i)
  | 0, _, i, _ => by rw [bm, bt_zero]; simp
  | n + 1, hn, i, hi => by
    rw [bm, b_or, bm_bt p (by omega) hi]
    cases hp : p n
    · rw [if_neg (by decide), bt_zero, Bool.or_false]
      by_cases e : i = n
      · subst e; simp [hp]
      · have : (i < n) = (i < n + 1) := propext ⟨fun h => by omega, fun h => by omega⟩
        rw [decide_eq_decide.mpr (iff_of_eq this)]
    · rw [if_pos rfl, bt_one (by omega) hi]
      by_cases e : i = n
      · subst e; simp [hp]
      · have : (i < n) = (i < n + 1) := propext ⟨fun h => by omega, fun h => by omega⟩
        rw [decide_eq_false e, Bool.or_false, decide_eq_decide.mpr (iff_of_eq this)]
theorem bm_cong {p q : Nat → Bool} : ∀ {n : Nat}, (∀ k, k < n → p k = q k) → bm p n = bm q n
  | 0, _ => rfl
  | n + 1, h => by rw [bm, bm, bm_cong (fun k hk => h k (by omega)), h n (by omega)]
/-- the best so far: which, and one more; how much -/
def bst (f : Nat → Nat) : Nat → Nat × Nat
  | 0 => (0, 0)
  | n + 1 => if (bst f n).2 < f n then (n + 1, f n) else bst f n
theorem bst_le {f : Nat → Nat} {M : Nat} (h : ∀ k, f k ≤ M) : ∀ n, (bst f n).1 ≤ n ∧ (bst f n).2 ≤ M
  | 0 => ⟨Nat.le_refl 0, Nat.zero_le M⟩
  | n + 1 => by
    have := bst_le h n
    rw [bst]
    split
    · exact ⟨Nat.le_refl _, h n⟩
    · exact ⟨by omega, this.2⟩
theorem bst_cong {f f' : Nat → Nat} : ∀ {n : Nat}, (∀ k, k < n → f k = f' k) → bst f n = bst f' n
  | 0, _ => rfl
  | n + 1, h => by rw [bst, bst, bst_cong (fun k hk => h k (by omega)), h n (by omega)]
/-- the longest run among the first n: how long, its first and one more, how long now -/
def rnb (p : Nat → Bool) : Nat → Nat × Nat × Nat
  | 0 => (0, 0, 0)
  | n + 1 => (if (rnb p n).1 < (if p n then (rnb p n).2.2 + 1 else 0) then (if p n then (rnb p n).2.2 + 1 else 0) else (rnb p n).1, if (rnb p n).1 < (if p n then (rnb p n).2.2 + 1 else 0) then n + 1 - (if p n then (rnb p n).2.2 + 1 else 0) + 1 else (rnb p n).2.1, if p n then (rnb p n).2.2 + 1 else 0)
theorem rnb_le (p : Nat → Bool) : ∀ n, (rnb p n).1 ≤ n ∧ (rnb p n).2.1 ≤ n ∧ (rnb p n).2.2 ≤ n
  | 0 => ⟨Nat.le_refl 0, Nat.le_refl 0, Nat.le_refl 0⟩
  | n + 1 => by
    have := rnb_le p n
    rw [rnb]
    dsimp only
    cases p n
    · simp only [Bool.false_eq_true, if_false]
      refine ⟨?_, ?_, ?_⟩
      · split <;> omega
      · split <;> omega
      · omega
    · simp only [if_true]
      refine ⟨?_, ?_, ?_⟩
      · split <;> omega
      · split <;> omega
      · omega
theorem fI_m1 {n : Nat} (h : n < 2147483648) : (fI n = (-1 : Int32)) = (n = 0) := by
  rcases n with _ | n
  · exact propext ⟨fun _ => rfl, fun _ => rfl⟩
  · rw [fI_s, nI_m1 (by omega)]
    exact propext ⟨False.elim, fun h => by omega⟩
theorem sX9_greater {a b : Int32} {σ : Hp} {post : Int32 → Hp → Prop} (h : post (if a ≤ b then b else a) σ) : vX9_greater a b σ post := by
  unfold vX9_greater
  refine ⟨fun q => ?_, fun q => ?_⟩
  · rw [if_pos q] at h; exact h
  · rw [if_neg q] at h; exact h
section MA
variable {σ : Hp} {g : Gm} {post : Int32 → Hp → Prop} {ex : Int32 → Hp → Prop}
theorem sX9_seesBy (hM : MIn σ g) (hG : Gok g) (hB : MBy σ g 24) {t c p : Nat} {a b d : Int32} (ht : t < 24) (hc : c < 3) (hp : p < 12) (ha : a = nI t) (hb : b = nI c) (hd : d = nI p) (h : post (fI (who g (t + 1) c p)) σ) : vX9_seesBy a b d σ post := by
  subst ha hb hd
  obtain ⟨m1, m2, m3, m4, -⟩ := id hM
  obtain ⟨g1, g2, -⟩ := id hG
  suffices L : ∀ (d k : Nat), k + d = nd g → vX9_seesBy_6 post (fun z4_1 σ_2 => post z4_1 σ_2) (nI t) (nI c) (nI p) (d + 1) (fI (lastk (fun k => gD g k 0 == c && pl g (t + 1) k == p) k)) (nI k) σ from ⟨nd g + 1, L (nd g) 0 (by omega)⟩
  intro d
  induction d with
  | zero =>
    intro k hd
    rw [vX9_seesBy_6]; dsimp only; rw [m1]
    refine ⟨fun _ => ?_, fun c => absurd (nI_le (by omega) (by omega)) c⟩
    rw [show k = nd g by omega]; exact h
  | succ d ih =>
    intro k hd
    have hk : k < nd g := by omega
    obtain ⟨d0, d1, -⟩ := g2 k hk
    have e0 := m4 k hk 0 (by omega)
    simp only [Nat.add_zero] at e0
    have s1 := (hB t ht k hk).1
    have hp := pl_lt g (t + 1) k
    have ih := ih (k + 1) (by omega)
    rw [lastk] at ih
    rw [vX9_seesBy_6]; dsimp only; rw [m1]
    refine ⟨fun c => absurd c (nI_ge (by omega) (by omega)), fun _ => ?_⟩
    simp (disch := omega) only [k4, k12, k1, nI_mul, nI_add, nI_in2, nI_c, e0, s1, nI_eq2]
    refine ⟨by omega, fun c0 => ⟨by omega, fun c1 => ?_, fun c1 => ?_⟩, fun c0 => ?_⟩
    · rintro _ rfl
      rw [if_pos (by simp [c0, c1])] at ih; exact ih
    · rintro _ rfl
      rw [if_neg (by simp [c1])] at ih; exact ih
    · rintro _ rfl
      rw [if_neg (by simp [c0])] at ih; exact ih
theorem gst_le (g : Gm) (T k : Nat) : gst g T k ≤ 2 := sim_le g T k
/-- who is down behind T ticks, as bits -/
def gdb (g : Gm) (T : Nat) : Int32 := bm (fun k => gst g T k == 2) (nd g)
def gdn (g : Gm) (T : Nat) : Nat := fb_ct (fun k => gst g T k == 2) (nd g)
theorem sX9_downBits (hM : MIn σ g) (hG : Gok g) (hB : MBy σ g 24) {t : Nat} {a : Int32} (ht : t < 24) (ha : a = nI t) (h : post (gdb g (t + 1)) σ) : vX9_downBits a σ post := by
  subst ha
  obtain ⟨m1, -⟩ := id hM
  obtain ⟨g1, g2, -⟩ := id hG
  suffices L : ∀ (d k : Nat), k + d = nd g → vX9_downBits_4 post (fun z4_1 σ_2 => post z4_1 σ_2) (nI t) (d + 1) (bm (fun k => gst g (t + 1) k == 2) k) (nI k) σ from ⟨nd g + 1, L (nd g) 0 (by omega)⟩
  intro d
  induction d with
  | zero =>
    intro k hd
    rw [vX9_downBits_4]; dsimp only; rw [m1]
    refine ⟨fun _ => ?_, fun c => absurd (nI_le (by omega) (by omega)) c⟩
    rw [show k = nd g by omega]; exact h
  | succ d ih =>
    intro k hd
    have hk : k < nd g := by omega
    have s1 := (hB t ht k hk).2.1
    have hp := gst_le g (t + 1) k
    have ih := ih (k + 1) (by omega)
    rw [bm] at ih
    rw [vX9_downBits_4]; dsimp only; rw [m1]
    refine ⟨fun c => absurd c (nI_ge (by omega) (by omega)), fun _ => ?_⟩
    rw [k12, nI_mul, nI_add, nI_c (by omega), s1, k2, nI_eq2 (by omega) (by omega)]
    refine ⟨vp_in_nI (by omega) (by omega), fun c0 => ?_, fun c0 => ?_⟩
    · rintro _ rfl _ rfl
      rw [if_pos (by simp [c0])] at ih; rw [nI_1]; exact ih
    · rintro _ rfl _ rfl
      rw [if_neg (by simp [c0])] at ih; rw [nI_1]; exact ih
theorem sX9_downBy (hM : MIn σ g) (hG : Gok g) (hB : MBy σ g 24) {t : Nat} {a : Int32} (ht : t < 24) (ha : a = nI t) (h : post (nI (gdn g (t + 1))) σ) : vX9_downBy a σ post := by
  subst ha
  obtain ⟨m1, -⟩ := id hM
  obtain ⟨g1, g2, -⟩ := id hG
  suffices L : ∀ (d k : Nat), k + d = nd g → vX9_downBy_4 post (fun z4_1 σ_2 => post z4_1 σ_2) (nI t) (d + 1) (nI (fb_ct (fun k => gst g (t + 1) k == 2) k)) (nI k) σ from ⟨nd g + 1, L (nd g) 0 (by omega)⟩
  intro d
  induction d with
  | zero =>
    intro k hd
    rw [vX9_downBy_4]; dsimp only; rw [m1]
    refine ⟨fun _ => ?_, fun c => absurd (nI_le (by omega) (by omega)) c⟩
    rw [show k = nd g by omega]; exact h
  | succ d ih =>
    intro k hd
    have hk : k < nd g := by omega
    have s1 := (hB t ht k hk).2.1
    have hp := gst_le g (t + 1) k
    have ih := ih (k + 1) (by omega)
    rw [fb_ct_succ] at ih
    rw [vX9_downBy_4]; dsimp only; rw [m1]
    refine ⟨fun c => absurd c (nI_ge (by omega) (by omega)), fun _ => ?_⟩
    rw [k12, nI_mul, nI_add, nI_c (by omega), s1, k2, nI_eq2 (by omega) (by omega)]
    refine ⟨vp_in_nI (by omega) (by omega), fun c0 => ?_, fun c0 => ?_⟩
    · rintro _ rfl _ rfl
      rw [if_pos (by simp [c0])] at ih; rw [nI_1, nI_1]; exact ih
    · rintro _ rfl _ rfl
      rw [if_neg (by simp [c0])] at ih; rw [nI_1, k0, nI_add]; exact ih
theorem sX9_score (m2 : σ.1 71 10 = nI (ns g)) (hG : Gok g) (hO : MOut σ g) (h : post (nI (gscore g)) σ) : vX9_score σ post := by
  have g5 := hG.2.2.2.2.1
  suffices L : ∀ (d k : Nat), k + d = ns g → vX9_score_4 post (fun z4_1 σ_2 => post z4_1 σ_2) (d + 1) (nI (fb_sm (gbr g) k)) (nI k) σ from ⟨ns g + 1, L (ns g) 0 (by omega)⟩
  intro d
  induction d with
  | zero =>
    intro k hd
    rw [vX9_score_4]; dsimp only; rw [m2]
    refine ⟨fun _ => ?_, fun c => absurd (nI_le (by omega) (by omega)) c⟩
    rw [show k = ns g by omega]; exact h
  | succ d ih =>
    intro k hd
    have s1 := (hO.1.2 k (by omega)).2
    have ih := ih (k + 1) (by omega)
    rw [fb_sm_succ] at ih
    rw [vX9_score_4]; dsimp only; rw [m2]
    refine ⟨fun c => absurd c (nI_ge (by omega) (by omega)), fun _ => ?_⟩
    rw [nI_c (by omega), s1]
    refine ⟨vp_in_nI (by omega) (by omega), ?_⟩
    rintro _ rfl _ rfl
    rw [nI_1, nI_add]; exact ih
theorem gfi_lt {g : Gm} (hG : Gok g) (i : Nat) : gfi g i < 2147483648 := by
  have h1 := gfi_le g 24 i
  have := hG.1
  show (sim g 24).2.2.1 i < _
  omega
theorem sX9_manyHit (m2 : σ.1 71 10 = nI (ns g)) (hG : Gok g) (hO : MOut σ g) (h : post (nI (gmany g)) σ) : vX9_manyHit σ post := by
  have g5 := hG.2.2.2.2.1
  suffices L : ∀ (d k : Nat), k + d = ns g → vX9_manyHit_4 post (fun z4_1 σ_2 => post z4_1 σ_2) (d + 1) (nI (fb_ct (fun i => gfi g i != 0) k)) (nI k) σ from ⟨ns g + 1, L (ns g) 0 (by omega)⟩
  intro d
  induction d with
  | zero =>
    intro k hd
    rw [vX9_manyHit_4]; dsimp only; rw [m2]
    refine ⟨fun _ => ?_, fun c => absurd (nI_le (by omega) (by omega)) c⟩
    rw [show k = ns g by omega]; exact h
  | succ d ih =>
    intro k hd
    have s1 : σ.1 86 k = fI (gfi g k) := (hO.1.2 k (by omega)).1
    have hf := gfi_lt hG k
    have ih := ih (k + 1) (by omega)
    rw [fb_ct_succ] at ih
    rw [vX9_manyHit_4]; dsimp only; rw [m2]
    refine ⟨fun c => absurd c (nI_ge (by omega) (by omega)), fun _ => ?_⟩
    rw [nI_c (by omega), s1, fI_m1 hf]
    refine ⟨vp_in_nI (by omega) (by omega), fun c0 => ?_, fun c0 => ?_⟩
    · rintro _ rfl _ rfl
      rw [if_neg (by simp [c0])] at ih; rw [nI_1, k0, nI_add]; exact ih
    · rintro _ rfl _ rfl
      rw [if_pos (by simp [c0])] at ih; rw [nI_1, nI_1]; exact ih
/-- score, how many hit, how many miss -/
def gsum (g : Gm) (w : Nat) : Nat := if w = 0 then gscore g else if w = 1 then gmany g else ns g - gmany g
theorem sX9_sumBy (hM : MIn σ g) (hG : Gok g) (hO : MOut σ g) {w : Nat} {a : Int32} (hw : w < 3) (ha : a = nI w) (h : post (nI (gsum g w)) σ) : vX9_sumBy a σ post := by
  subst ha
  unfold vX9_sumBy
  rcases (by omega : w = 0 ∨ w = 1 ∨ w = 2) with rfl | rfl | rfl
  · exact ⟨fun _ => sX9_score hM.2.1 hG hO h, fun q => absurd rfl q⟩
  · exact ⟨fun q => absurd q (by decide), fun _ => ⟨fun _ => sX9_manyHit hM.2.1 hG hO h, fun q => absurd rfl q⟩⟩
  · refine ⟨fun q => absurd q (by decide), fun _ => ⟨fun q => absurd q (by decide), fun _ => sX9_manyHit hM.2.1 hG hO ?_⟩⟩
    rw [hM.2.1, pk_sub (gmany_le g)]; exact h
def grn (g : Gm) : Nat × Nat × Nat := rnb (fun i => gfi g i != 0) (ns g)
def grnI (g : Gm) (w : Nat) : Int32 := if w = 0 then nI (grn g).1 else fI (grn g).2.1
theorem sX9_runBy (hM : MIn σ g) (hG : Gok g) (hO : MOut σ g) {w : Nat} {a : Int32} (hw : w < 2) (ha : a = nI w) (h : post (grnI g w) σ) : vX9_runBy a σ post := by
  subst ha
  obtain ⟨m1, m2, -⟩ := id hM
  have g5 := hG.2.2.2.2.1
  suffices L : ∀ (d k : Nat), k + d = ns g → vX9_runBy_10 post (fun z2_1 z3_2 σ_3 => ((nI w = 0 → post z2_1 σ_3) ∧ (¬ nI w = 0 → post z3_2 σ_3))) (nI w) (d + 1) (nI (rnb (fun i => gfi g i != 0) k).1) (fI (rnb (fun i => gfi g i != 0) k).2.1) (nI (rnb (fun i => gfi g i != 0) k).2.2) (nI k) σ from ⟨ns g + 1, L (ns g) 0 (by omega)⟩
  intro d
  induction d with
  | zero =>
    intro k hd
    rw [vX9_runBy_10]; dsimp only; rw [m2]
    refine ⟨fun _ => ?_, fun c => absurd (nI_le (by omega) (by omega)) c⟩
    rw [show k = ns g by omega, k0, nI_eq2 (by omega) (by omega)]
    unfold grnI at h
    refine ⟨fun q => ?_, fun q => ?_⟩
    · rw [if_pos q] at h; exact h
    · rw [if_neg q] at h; exact h
  | succ d ih =>
    intro k hd
    have s1 : σ.1 86 k = fI (gfi g k) := (hO.1.2 k (by omega)).1
    have hf := gfi_lt hG k
    have ih := ih (k + 1) (by omega)
    obtain ⟨l1, l2, l3⟩ := rnb_le (fun i => gfi g i != 0) k
    rw [rnb] at ih
    dsimp only at ih
    rw [vX9_runBy_10]; dsimp only; rw [m2]
    refine ⟨fun c => absurd c (nI_ge (by omega) (by omega)), fun _ => ?_⟩
    rw [nI_c (by omega), s1, fI_m1 hf]
    generalize rnb (fun i => gfi g i != 0) k = R at *
    have body : ∀ y : Nat, y ≤ k + 1 → y = (if (gfi g k != 0) = true then R.2.2 + 1 else 0) → vX9_runBy_38 post (fun z2_1 z3_2 σ_3 => ((nI w = 0 → post z2_1 σ_3) ∧ (¬ nI w = 0 → post z3_2 σ_3))) (vX9_runBy_10 post (fun z2_1 z3_2 σ_3 => ((nI w = 0 → post z2_1 σ_3) ∧ (¬ nI w = 0 → post z3_2 σ_3))) (nI w) (d + 1)) (nI w) (nI R.1) (fI R.2.1) (nI k) (nI y) σ := by
      intro y hy he
      rw [← he] at ih
      unfold vX9_runBy_38
      rw [nI_le2 (by omega) (by omega)]
      refine ⟨fun q => ?_, fun q => ?_⟩
      · refine sX9_greater ?_
        rw [if_pos (nI_le q (by omega))]
        rintro _ rfl
        rw [if_neg (by omega), if_neg (by omega)] at ih
        rw [nI_1]; exact ih
      · rintro _ rfl
        refine sX9_greater ?_
        rw [if_neg (nI_ge (by omega) (by omega))]
        rintro _ rfl
        rw [if_pos (by omega), if_pos (by omega), fI_s] at ih
        have e : nI k - nI y + 1 = nI (k + 1 - y) := by
          rw [← pk_sub (by omega), ← nI_1]
          simp only [Int32.sub_eq_add_neg]
          ac_rfl
        rw [nI_1, e]; exact ih
    refine ⟨vp_in_nI (by omega) (by omega), fun c0 => ?_, fun c0 => ?_⟩
    · exact body 0 (by omega) (by rw [if_neg (by simp [c0])])
    · rw [nI_1]; exact body (R.2.2 + 1) (by omega) (by rw [if_pos (by simp [c0])])
def gez (g : Gm) : Int32 := fI (bst (ghi g 24) (nd g)).1
theorem sX9_easyNow (hM : MIn σ g) (hG : Gok g) (hO : MOut σ g) (h : post (gez g) σ) : vX9_easyNow σ post := by
  obtain ⟨m1, -⟩ := id hM
  have g5 := hG.1
  suffices L : ∀ (d k : Nat), k + d = nd g → vX9_easyNow_6 post (fun z4_1 σ_2 => post z4_1 σ_2) (d + 1) (fI (bst (ghi g 24) k).1) (nI (bst (ghi g 24) k).2) (nI k) σ from ⟨nd g + 1, L (nd g) 0 (by omega)⟩
  intro d
  induction d with
  | zero =>
    intro k hd
    rw [vX9_easyNow_6]; dsimp only; rw [m1]
    refine ⟨fun _ => ?_, fun c => absurd (nI_le (by omega) (by omega)) c⟩
    rw [show k = nd g by omega]; exact h
  | succ d ih =>
    intro k hd
    have s1 : σ.1 85 k = nI (ghi g 24 k) := (hO.1.1 k (by omega)).2.2
    have hh := ghi_le hG 24 k
    have hl := (bst_le (ghi_le hG 24) k).2
    have ih := ih (k + 1) (by omega)
    rw [bst] at ih
    rw [vX9_easyNow_6]; dsimp only; rw [m1]
    refine ⟨fun c => absurd c (nI_ge (by omega) (by omega)), fun _ => ?_⟩
    rw [nI_c (by omega), s1, nI_le2 (by omega) (by omega)]
    refine ⟨vp_in_nI (by omega) (by omega), fun c0 => ⟨vp_in_nI (by omega) (by omega), sX9_greater ?_⟩, fun c0 => ⟨vp_in_nI (by omega) (by omega), sX9_greater ?_⟩⟩
    · rintro _ rfl
      rw [if_neg (by omega)] at ih
      rw [if_pos (nI_le c0 (by omega)), nI_1]; exact ih
    · rintro _ rfl
      rw [if_pos (by omega), fI_s] at ih
      rw [if_neg (nI_ge (by omega) (by omega)), nI_1]; exact ih
def gsf (g : Gm) : Int32 := bm (fun k => ghi g 24 k == 0) (nd g)
theorem sX9_safeNow (hM : MIn σ g) (hG : Gok g) (hO : MOut σ g) (h : post (gsf g) σ) : vX9_safeNow σ post := by
  obtain ⟨m1, -⟩ := id hM
  have g5 := hG.1
  suffices L : ∀ (d k : Nat), k + d = nd g → vX9_safeNow_4 post (fun z4_1 σ_2 => post z4_1 σ_2) (d + 1) (bm (fun k => ghi g 24 k == 0) k) (nI k) σ from ⟨nd g + 1, L (nd g) 0 (by omega)⟩
  intro d
  induction d with
  | zero =>
    intro k hd
    rw [vX9_safeNow_4]; dsimp only; rw [m1]
    refine ⟨fun _ => ?_, fun c => absurd (nI_le (by omega) (by omega)) c⟩
    rw [show k = nd g by omega]; exact h
  | succ d ih =>
    intro k hd
    have s1 : σ.1 85 k = nI (ghi g 24 k) := (hO.1.1 k (by omega)).2.2
    have hh := ghi_le hG 24 k
    have ih := ih (k + 1) (by omega)
    rw [bm] at ih
    rw [vX9_safeNow_4]; dsimp only; rw [m1]
    refine ⟨fun c => absurd c (nI_ge (by omega) (by omega)), fun _ => ?_⟩
    rw [nI_c (by omega), s1, k0, nI_eq2 (by omega) (by omega)]
    refine ⟨vp_in_nI (by omega) (by omega), fun c0 => ?_, fun c0 => ?_⟩
    · rintro _ rfl _ rfl
      rw [if_pos (by simp [c0])] at ih; rw [nI_1]; exact ih
    · rintro _ rfl _ rfl
      rw [if_neg (by simp [c0])] at ih; rw [nI_1]; exact ih
/-- of a duck behind a tick: its place, what it is, how often it was hit -/
def gat (g : Gm) (t k w : Nat) : Nat := if w = 0 then pl g (t + 1) k else if w = 1 then gst g (t + 1) k else ghi g (t + 1) k
theorem sX9_atBy (hG : Gok g) (hB : MBy σ g 24) {t k w : Nat} {a b c : Int32} (ht : t < 24) (hk : k < nd g) (hw : w < 3) (ha : a = nI t) (hb : b = nI k) (hc : c = nI w) (h : post (nI (gat g t k w)) σ) : vX9_atBy a b c σ post := by
  subst ha hb hc
  have g1 := hG.1
  obtain ⟨s1, s2, s3⟩ := hB t ht k hk
  unfold vX9_atBy
  rw [k12, nI_mul, nI_add]
  rintro _ rfl
  rw [nI_c (by omega), s1, s2, s3]
  rcases (by omega : w = 0 ∨ w = 1 ∨ w = 2) with rfl | rfl | rfl
  · exact ⟨fun _ => ⟨vp_in_nI (by omega) (by omega), h⟩, fun q => absurd rfl q⟩
  · exact ⟨fun q => absurd q (by decide), fun _ => ⟨fun _ => ⟨vp_in_nI (by omega) (by omega), h⟩, fun q => absurd rfl q⟩⟩
  · exact ⟨fun q => absurd q (by decide), fun _ => ⟨fun q => absurd q (by decide), fun _ => ⟨vp_in_nI (by omega) (by omega), h⟩⟩⟩
/-- of a shot: when it comes, whom it hits first, what it brings -/
def ghs (g : Gm) (i w : Nat) : Int32 := if w = 0 then (if gS g i 0 + gfl g ≤ 23 then nI (gS g i 0 + gfl g) else -1) else if w = 1 then fI (gfi g i) else nI (gbr g i)
theorem sX9_hitsBy (hM : MIn σ g) (hG : Gok g) (hO : MOut σ g) {i w : Nat} {a b : Int32} (hi : i < ns g) (hw : w < 3) (ha : a = nI i) (hb : b = nI w) (h : post (ghs g i w) σ) : vX9_hitsBy a b σ post := by
  subst ha hb
  have g5 := hG.2.2.2.2.1
  have r0 := (hG.2.2.2.2.2.1 i hi).1
  have r8 := hG.2.2.2.2.2.2.2.1
  obtain ⟨m1, m2, m3, m4, m5, m6, m7, m8, -⟩ := id hM
  have e0 := m6 i hi 0 (by omega)
  simp only [Nat.add_zero] at e0
  obtain ⟨s1, s2⟩ := hO.1.2 i (by omega)
  unfold vX9_hitsBy
  rw [k3, k1, nI_mul, nI_c (by omega), nI_c (by omega), nI_c (by omega), e0, m8, nI_add, s1, s2]
  refine ⟨vp_in_nI (by omega) (by omega), vp_in_nI (by omega) (by omega), ?_⟩
  rintro _ rfl
  rw [k23, nI_le2 (by omega) (by omega)]
  rcases (by omega : w = 0 ∨ w = 1 ∨ w = 2) with rfl | rfl | rfl
  · refine ⟨fun _ => ⟨fun q => ?_, fun q => ?_⟩, fun q => absurd rfl q⟩
    · unfold ghs at h; rw [if_pos rfl, if_pos q] at h; exact h
    · unfold ghs at h; rw [if_pos rfl, if_neg q] at h; exact h
  · exact ⟨fun q => absurd q (by decide), fun _ => ⟨fun _ => ⟨vp_in_nI (by omega) (by omega), h⟩, fun q => absurd rfl q⟩⟩
  · exact ⟨fun q => absurd q (by decide), fun _ => ⟨fun q => absurd q (by decide), fun _ => ⟨vp_in_nI (by omega) (by omega), h⟩⟩⟩
end MA
