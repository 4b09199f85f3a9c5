/-! ===== the class: chances ===== -/
theorem fb_sm_point {W : Nat → Nat} {c : Nat} : ∀ {M : Nat}, fb_sm (fun m => (if c == m then 1 else 0) * W m) M = if c < M then W c else 0
  | 0 => rfl
  | M + 1 => by
    rw [fb_sm_succ, fb_sm_point]
    by_cases e : c = M
    · subst e
      rw [if_neg (Nat.lt_irrefl c), if_pos (beq_self_eq_true c), Nat.one_mul, if_pos (Nat.lt_succ_self c), Nat.zero_add]
    · rw [if_neg (show ¬ (c == M) = true from fun h => e (eq_of_beq h)), Nat.zero_mul, Nat.add_zero]
      by_cases h : c < M
      · rw [if_pos h, if_pos (by omega)]
      · rw [if_neg h, if_neg (by omega)]
/-- by how many there are -/
theorem sm_group {A : Nat → Bool} {k W : Nat → Nat} {M : Nat} : ∀ {N : Nat}, (∀ s, s < N → k s < M) → fb_sm (fun s => (if A s then 1 else 0) * W (k s)) N = fb_sm (fun m => fb_ct (fun s => A s && k s == m) N * W m) M
  | 0, _ => by
    have : ∀ M, fb_sm (fun m => fb_ct (fun s => A s && k s == m) 0 * W m) M = 0 := fun M => by
      induction M with
      | zero => rfl
      | succ M ih => rw [fb_sm_succ, ih]; show 0 + 0 * W M = 0; omega
    rw [this]; rfl
  | N + 1, h => by
    rw [fb_sm_succ, sm_group (fun s hs => h s (by omega))]
    have e : ∀ m, fb_ct (fun s => A s && k s == m) (N + 1) * W m = fb_ct (fun s => A s && k s == m) N * W m + (if (A N && k N == m) = true then 1 else 0) * W m := fun m => by
      rw [fb_ct_succ, Nat.add_mul]
    rw [fb_sm_cong (fun m _ => e m), fb_sm_add]
    congr 1
    cases hA : A N
    · have : ∀ M, fb_sm (fun m => (if (false && k N == m) = true then 1 else 0) * W m) M = 0 := fun M => by
        induction M with
        | zero => rfl
        | succ M ih => rw [fb_sm_succ, ih]; show 0 + 0 * W M = 0; omega
      rw [this]
      show 0 * W (k N) = 0
      omega
    · rw [if_pos rfl, Nat.one_mul]
      have : fb_sm (fun m => (if (true && k N == m) = true then 1 else 0) * W m) M = fb_sm (fun m => (if k N == m then 1 else 0) * W m) M := fb_sm_cong (fun m _ => by rw [Bool.true_and])
      rw [this, fb_sm_point, if_pos (h N (by omega))]
theorem sm_rev {f : Nat → Nat} : ∀ N, fb_sm f N = fb_sm (fun k => f (N - (k + 1))) N := by
  have key : ∀ N m, m ≤ N → fb_sm f N = fb_sm f (N - m) + fb_sm (fun k => f (N - (k + 1))) m := by
    intro N m
    induction m with
    | zero => intro _; rfl
    | succ m ih =>
      intro hm
      rw [ih (by omega), fb_sm_succ, show N - m = N - (m + 1) + 1 by omega, fb_sm_succ]
      omega
  intro N
  have := key N N (Nat.le_refl N)
  rw [Nat.sub_self] at this
  rw [this]
  show 0 + _ = _
  omega
theorem wtp_ct {c : Nat} (p : Nat → Bool) : ∀ n, wtp c p n = (16 - c) ^ fb_ct p n * c ^ (n - fb_ct p n)
  | 0 => rfl
  | n + 1 => by
    have hl := fb_ct_le p n
    rw [wtp, wtp_ct p n, fb_ct_succ]
    cases p n
    · rw [if_neg (by decide), if_neg (by decide), Nat.add_zero, show n + 1 - fb_ct p n = n - fb_ct p n + 1 by omega, Nat.pow_succ, Nat.mul_assoc]
    · rw [if_pos rfl, if_pos rfl, show n + 1 - (fb_ct p n + 1) = n - fb_ct p n by omega, Nat.pow_succ, Nat.mul_assoc, Nat.mul_assoc, Nat.mul_comm (c ^ _)]
theorem bt_cpl {n s e : Nat} (hn : n ≤ 32) (hs : s < 2 ^ n) (he : e < n) : bt (nI (2 ^ n - (s + 1))) e = !bt (nI s) e := by
  rw [bt_nI _ (by omega), bt_nI _ (by omega), Nat.testBit_two_pow_sub_succ hs, decide_eq_true he, Bool.true_and]
theorem gab_cls {g : Gm} (h8 : gne g ≤ 8) {c i : Nat} : gab g c i = fb_sm (fun m => hcN g i m (2 ^ gne g) * (c ^ m * (16 - c) ^ (gne g - m))) (gne g + 1) := by
  unfold gab
  rw [sm_rev]
  have e : ∀ s, s < 2 ^ gne g → (if gfi (gCh g (fun e => !bt (nI (2 ^ gne g - (s + 1))) e)) i = 0 then 0 else 1) * wtp c (bt (nI (2 ^ gne g - (s + 1)))) (gne g) = (if hcA g i s then 1 else 0) * (c ^ fb_ct (bt (nI s)) (gne g) * (16 - c) ^ (gne g - fb_ct (bt (nI s)) (gne g))) := fun s hs => by
    have hct : fb_ct (bt (nI (2 ^ gne g - (s + 1)))) (gne g) = gne g - fb_ct (bt (nI s)) (gne g) := by
      have h1 := fb_ct_not (bt (nI s)) (gne g)
      rw [fb_ct_cong (fun e he => bt_cpl (by omega) hs he)]
      omega
    have hl := fb_ct_le (bt (nI s)) (gne g)
    rw [wtp_ct, hct, show gne g - (gne g - fb_ct (bt (nI s)) (gne g)) = fb_ct (bt (nI s)) (gne g) by omega, Nat.mul_comm (c ^ _)]
    congr 1
    unfold hcA
    by_cases h0 : gfi (gCh g (fun e => !bt (nI (2 ^ gne g - (s + 1))) e)) i = 0
    · rw [if_pos h0, h0]; rfl
    · rw [if_neg h0, if_pos (bne_iff_ne.mpr h0)]
  rw [fb_sm_cong e]
  exact sm_group (A := hcA g i) (k := fun s => fb_ct (bt (nI s)) (gne g)) (W := fun m => c ^ m * (16 - c) ^ (gne g - m)) (fun s _ => by have := fb_ct_le (bt (nI s)) (gne g); omega)
theorem hcN_le (g : Gm) (i m s : Nat) : hcN g i m s ≤ s := fb_ct_le _ s
section CH
variable {σ : Hp} {T : Td} {post : Int64 → Hp → Prop} {postv : Hp → Prop}
theorem sX8_power {c n : Nat} {a b : Int32} (hc : c ≤ 16) (hn : n ≤ 8) (ha : a = nI c) (hb : b = nI n) (h : post (lN (c ^ n)) σ) : vX8_power a b σ post := by
  subst ha hb
  suffices L : ∀ (d k : Nat), k + d = n → vX8_power_5 post (fun z2_1 σ_2 => post z2_1 σ_2) (nI c) (nI n) (d + 1) (lN (c ^ k)) (nI k) σ from ⟨n + 1, L n 0 (by omega)⟩
  intro d
  induction d with
  | zero =>
    intro k hd
    rw [vX8_power_5]; dsimp only
    refine ⟨fun _ => ?_, fun q => absurd (nI_le (by omega) (by omega)) q⟩
    rw [show k = n by omega]; exact h
  | succ d ih =>
    intro k hd
    rw [vX8_power_5]; dsimp only
    refine ⟨fun q => absurd q (nI_ge (by omega) (by omega)), fun _ => ?_⟩
    rintro _ rfl _ rfl
    rw [nI_1, nI_l (by omega), lN_mul, ← Nat.pow_succ]
    exact ih (k + 1) (by omega)
theorem sX8_weightOfHits {g : Gm} (h8 : gne g ≤ 8) (hn : σ.1 10 4 = nI (gne g)) (hc : CHc σ g) {c i : Nat} {a b : Int32} (hc16 : c ≤ 16) (hi : i < ns g) (hi12 : ns g ≤ 12) (ha : a = nI c) (hb : b = nI i) (h : post (lN (gab g c i)) σ) : vX8_weightOfHits a b σ post := by
  subst ha hb
  rw [gab_cls h8] at h
  have hpw : 2 ^ gne g ≤ 256 := Nat.pow_le_pow_right (n := 2) (by omega) h8
  suffices L : ∀ (d m : Nat), m + d = gne g + 1 → vX8_weightOfHits_5 post (fun z3_1 σ_2 => post z3_1 σ_2) (nI c) (nI i) (d + 1) (lN (fb_sm (fun m => hcN g i m (2 ^ gne g) * (c ^ m * (16 - c) ^ (gne g - m))) m)) (nI m) σ from ⟨gne g + 1 + 1, L (gne g + 1) 0 (by omega)⟩
  intro d
  induction d with
  | zero =>
    intro m hd
    rw [vX8_weightOfHits_5]; dsimp only; rw [hn, nI_lt2 (by omega) (by omega)]
    refine ⟨fun _ => ?_, fun q => absurd (by omega) q⟩
    rw [show m = gne g + 1 by omega]; exact h
  | succ d ih =>
    intro m hd
    have ih := ih (m + 1) (by omega)
    rw [fb_sm_succ] at ih
    have hl := hcN_le g i m (2 ^ gne g)
    rw [vX8_weightOfHits_5]; dsimp only; rw [hn, nI_lt2 (by omega) (by omega)]
    refine ⟨fun q => absurd q (by omega), fun _ => ?_⟩
    refine sX8_power hc16 (by omega) rfl rfl ?_
    rw [hn]
    refine sX8_power (c := 16 - c) (n := gne g - m) (by omega) (by omega) (by rw [k16, pk_sub hc16]) (by rw [pk_sub (by omega)]) ?_
    rintro _ rfl
    rw [k9, nI_mul, nI_add, nI_c (by omega), hc i hi m (by omega), nI_l (by omega), lN_mul, lN_mul, lN_add]
    refine ⟨vp_in_nI (by omega) (by omega), ?_⟩
    rintro _ rfl _ rfl
    rw [nI_1 m]; exact ih
theorem half_p : ∀ j, j < 33 → lN (2 ^ (j + 1)) >>> ((1 : Int32).toInt64 &&& 63) = lN (2 ^ j) := by decide +kernel
theorem gcd_half {a j : Nat} (h : ¬ 2 ^ (j + 1) ∣ a) : Nat.gcd a (2 ^ (j + 1)) = Nat.gcd a (2 ^ j) := by
  refine Nat.dvd_antisymm ?_ (Nat.gcd_dvd_gcd_of_dvd_right a (Nat.pow_dvd_pow 2 (by omega)))
  refine Nat.dvd_gcd (Nat.gcd_dvd_left _ _) ?_
  obtain ⟨e, he⟩ := Nat.gcd_dvd_right a (2 ^ (j + 1))
  rcases Nat.mod_two_eq_zero_or_one e with h0 | h1
  · refine ⟨e / 2, ?_⟩
    have h2 : e = e / 2 * 2 := by omega
    rw [Nat.pow_succ, h2, ← Nat.mul_assoc] at he
    have := Nat.eq_of_mul_eq_mul_right (by decide : 0 < 2) he
    rw [← Nat.pow_succ] at this
    exact this
  · exfalso
    have hc : Nat.Coprime e 2 := by
      show Nat.gcd e 2 = 1
      rw [Nat.gcd_comm, Nat.gcd_rec, h1]; decide
    have h1 : e = 1 := Nat.Coprime.eq_one_of_dvd (hc.pow_right (j + 1)) ⟨Nat.gcd a (2 ^ (j + 1)), he.trans (Nat.mul_comm _ _)⟩
    rw [h1, Nat.mul_one] at he
    exact h (he ▸ Nat.gcd_dvd_left a (2 ^ (j + 1)))
theorem sX8_commonDivisor {a n : Nat} {x y : Int64} (ha : a < 2 ^ 63) (hn : n ≤ 32) (hx : x = lN a) (hy : y = lN (2 ^ n)) (h : post (lN (Nat.gcd a (2 ^ n))) σ) : vX8_commonDivisor x y σ post := by
  subst hx hy
  have hpw : ∀ j, j ≤ 32 → 2 ^ j ≤ 2 ^ 32 := fun j hj => Nat.pow_le_pow_right (by omega) hj
  have hp0 : ∀ j, 0 < 2 ^ j := fun j => Nat.pow_pos (by omega)
  have fin : ∀ j, j ≤ 32 → Nat.gcd a (2 ^ n) = 2 ^ j → vJ9_max_f86c9 (lN (2 ^ j)) (1 : Int64) σ (fun r_4 σ_3 => post r_4 σ_3) := fun j hj e => by
    have := hpw j hj
    have := hp0 j
    rw [e] at h
    unfold vJ9_max_f86c9
    rw [lg_cmp_lt, show (1 : Int64) = lN 1 from rfl, pk_lLT (by omega) (by omega)]
    exact ⟨fun q => absurd q (by omega), fun _ => h⟩
  suffices L : ∀ (j d : Nat), j + d = n → Nat.gcd a (2 ^ n) = Nat.gcd a (2 ^ j) → vX8_commonDivisor_6 post (fun z4_1 σ_2 => (vJ9_max_f86c9 z4_1 (1 : Int64) σ_2 (fun r_4 σ_3 => post r_4 σ_3))) (lN a) (j + 1) (lN (2 ^ j)) (nI d) σ from ⟨n + 1, L n 0 (by omega) rfl⟩
  intro j
  induction j with
  | zero =>
    intro d hd e
    rw [vX8_commonDivisor_6]; dsimp only
    have hf := fin 0 (by omega) (by rw [e]; exact Nat.gcd_one_right a)
    refine ⟨fun _ => hf, fun _ => ⟨fun _ => hf, fun q => absurd ?_ q⟩⟩
    decide
  | succ j ih =>
    intro d hd e
    have h1 := hpw (j + 1) (by omega)
    have h0 := hp0 j
    have h2 : 2 ^ (j + 1) = 2 ^ j * 2 := Nat.pow_succ 2 j
    have hm := Nat.mod_lt a (hp0 (j + 1))
    rw [vX8_commonDivisor_6]; dsimp only
    refine ⟨fun q => absurd q (nI_ge (b := 64) (by omega) (by omega)), fun _ => ?_⟩
    rw [lg_cmp_le, show (1 : Int64) = lN 1 from rfl, pk_lLE (by omega) (by omega), lN_sub (by omega), wb_mask (by omega) (by omega), lg_cmp_eq, show (0 : Int64) = lN 0 from rfl, pk_lEQ (by omega) (by omega)]
    refine ⟨fun q => absurd q (by omega), fun _ => ⟨fun q => ?_, fun q => ?_⟩⟩
    · refine fin (j + 1) (by omega) ?_
      rw [e]
      exact Nat.gcd_eq_right (Nat.dvd_of_mod_eq_zero q)
    · rintro _ rfl _ rfl
      rw [half_p j (by omega), nI_1 d]
      refine ih (d + 1) (by omega) ?_
      rw [e]
      exact gcd_half (fun q2 => q (Nat.mod_eq_zero_of_dvd q2))
theorem sX8_chanceLearned (hS : Cst σ T) (hO : Tok T) (hc : CHc σ (gmT T)) {c i w : Nat} {a b d : Int32} (hc16 : c ≤ 16) (hi : i < ns (gmT T)) (hw : w < 2) (ha : a = nI c) (hb : b = nI i) (hd : d = nI w) (h : post (gchI (gmT T) c i w) σ) : vX8_chanceLearned a b d σ post := by
  subst hd
  have hG := gmT_ok hO
  have g5 := hG.2.2.2.2.1
  have h8 : gne (gmT T) ≤ 8 := hS.ev.2.1
  have hn : σ.1 10 4 = nI (gne (gmT T)) := hS.ev.1
  generalize gmT T = g at *
  have h16 : 16 ^ gne g ≤ 16 ^ 8 := Nat.pow_le_pow_right (by omega) h8
  have h63 : 16 ^ 8 < 2 ^ 63 := by decide
  have hp0 : 0 < 16 ^ gne g := Nat.pow_pos (by omega)
  have e2 : 16 ^ gne g = 2 ^ (4 * gne g) := by rw [Nat.pow_mul]
  have hgl := gab_lt hG hc16 i
  have hg0 : 0 < Nat.gcd (gab g c i) (16 ^ gne g) := Nat.gcd_pos_of_pos_right _ hp0
  have hgb : Nat.gcd (gab g c i) (16 ^ gne g) < 2 ^ 63 := Nat.lt_of_le_of_lt (Nat.gcd_le_right _ hp0) (by omega)
  have hne : ¬ lN (Nat.gcd (gab g c i) (16 ^ gne g)) = 0 := fun e => by
    have : Nat.gcd (gab g c i) (16 ^ gne g) = 0 := (pk_lEQ hgb (by decide)).mp e
    omega
  unfold vX8_chanceLearned
  refine sX8_weightOfHits h8 hn hc hc16 hi g5 ha hb ?_
  rw [hn]
  refine sX8_power (c := 16) (by omega) h8 rfl rfl ?_
  refine sX8_commonDivisor (n := 4 * gne g) hgl (by omega) rfl (by rw [e2]) ?_
  rw [← e2, k0, nI_eq2 (by omega) (by omega)]
  unfold gchI at h
  refine ⟨fun q => ⟨hne, ?_⟩, fun q => ⟨hne, ?_⟩⟩
  · rw [if_pos q] at h; rw [pk_lDiv hgl hg0 hgb]; exact h
  · rw [if_neg q] at h; rw [pk_lDiv (by omega) hg0 hgb]; exact h
/-- what a try writes, and the choices -/
def CFc : Nat → Nat → Bool := fun a b => CFx a b || Nat.beq a 52
theorem CFc_x : ∀ a b, CFc a b = false → CFx a b = false := fun a b h => by
  unfold CFc at h; rw [Bool.or_eq_false_iff] at h; exact h.1
theorem CFc_f {a b : Nat} (h1 : CFx a b = false) (h2 : a ≠ 52) : CFc a b = false := by
  unfold CFc; rw [h1, beq_f h2]; rfl
theorem Cst.fc (hS : Cst σ T) {σ' : Hp} (h10 : σ.1 0 10 = 0) (hF : Fr CFc σ σ') : Cst σ' T :=
  ⟨hS.1.fr hF (fun a b hk => CFc_f (CFx_f (by unfold KS at hk; omega) (by unfold KS at hk; omega) (by unfold KS at hk; omega) (by unfold KS at hk; omega)) (by unfold KS at hk; omega)), Or.inl (by rw [hF.i rfl]; exact h10)⟩
theorem bt_in {n s : Nat} (hs : s < 2 ^ n) : ∀ k, k < 32 → bt (nI s) k = (decide (k < n) && bt (nI s) k) := fun k hk => by
  by_cases h : k < n
  · rw [decide_eq_true h, Bool.true_and]
  · rw [decide_eq_false h, Bool.false_and, bt_nI _ hk]
    exact Nat.testBit_lt_two_pow (Nat.lt_of_lt_of_le hs (Nat.pow_le_pow_right (by omega) (by omega)))
theorem sX8_learnChances (hS : Cst σ T) (hO : Tok T) (h : ∀ σ', Cls σ σ' → Cst σ' T → CHc σ' (gmT T) → postv σ') : vX8_learnChances σ postv := by
  have hG := gmT_ok hO
  have g5 := hG.2.2.2.2.1
  have h8 : gne (gmT T) ≤ 8 := hS.ev.2.1
  have hpw : 2 ^ gne (gmT T) ≤ 256 := Nat.pow_le_pow_right (n := 2) (by omega) h8
  have hp0 : 0 < 2 ^ gne (gmT T) := Nat.pow_pos (by omega)
  have hall : ((1 : Int32) <<< (nI (gne (gmT T)) &&& 31)) - (1 : Int32) = nI (2 ^ gne (gmT T) - 1) := by rw [shl_ne _ h8]; exact pk_sub (a := 2 ^ gne (gmT T)) (b := 1) (by omega)
  rcases hS.2 with h10 | ⟨h10, hc⟩
  · refine ⟨fun _ => ?_, fun q => absurd h10 q⟩
    refine sJ7_fill (by decide) (by decide) (fun σ0 hF0 hz => ?_)
    have hF0 : Fr CFc σ σ0 := hF0.up (fun a b hab => by unfold CFc at hab; rw [Bool.or_eq_false_iff] at hab; exact hab.2)
    have hcls : ∀ σ', Fr CFc σ σ' → Cls σ σ' := fun σ' hF => Cls.of hF (fun a b h => CFc_f (CFx_f (by omega) (by omega) (by omega) (by omega)) (by omega))
    suffices L : ∀ (d s : Nat) (σ1 : Hp), s + d = 2 ^ gne (gmT T) → Fr CFc σ σ1 → (∀ i, i < ns (gmT T) → ∀ m, m ≤ gne (gmT T) → σ1.1 52 (i * 9 + m) = nI (hcN (gmT T) i m s)) → vX8_learnChances_18 postv (fun σ_4 => (∀ σ_5 : Hp, σ_5 = wI σ_4 0 10 (1 : Int32) → postv σ_5)) (d + 1) (nI s) σ1 from ⟨2 ^ gne (gmT T) + 1, L _ 0 σ0 (by omega) hF0 (fun i hi m hm => hz _ (by show _ < 108; omega))⟩
    intro d
    induction d with
    | zero =>
      intro s σ1 hd hF hv
      have hS1 := hS.fc h10 hF
      have hev : σ1.1 10 4 = nI (gne (gmT T)) := hS1.ev.1
      rw [vX8_learnChances_18]; dsimp only
      unfold vX1_all
      rw [hev, hall]
      dsimp only
      rw [nI_lt2 (by omega) (by omega)]
      refine ⟨fun _ => ?_, fun q => absurd (by omega) q⟩
      rintro σ2 hS2
      have e2 : s = 2 ^ gne (gmT T) := by omega
      subst e2
      have hF2 : Fr (fun a b => Nat.beq a 0 && Nat.beq b 10) σ1 σ2 := by rw [hS2]; exact Fr.wI rfl
      have hc2 : CHc σ2 (gmT T) := fun i hi m hm => by rw [hF2.i rfl]; exact hv i hi m hm
      refine h σ2 ((hcls σ1 hF).tr (Cls.of hF2 (fun a b hab => by rw [beq_f (by omega)]; rfl))) ⟨hS1.1.fr hF2 (fun a b hk => ?_), Or.inr ⟨by rw [hS2, wI_at, if_pos rfl], hc2⟩⟩ hc2
      unfold KS at hk
      by_cases ha : a = 0
      · rw [beq_f (a := b) (by omega), Bool.and_false]
      · rw [beq_f (a := a) ha]; rfl
    | succ d ih =>
      intro s σ1 hd hF hv
      have hS1 := hS.fc h10 hF
      have hev : σ1.1 10 4 = nI (gne (gmT T)) := hS1.ev.1
      rw [vX8_learnChances_18]; dsimp only
      unfold vX1_all
      rw [hev, hall]
      dsimp only
      rw [nI_lt2 (by omega) (by omega)]
      refine ⟨fun q => absurd q (by omega), fun _ => ?_⟩
      refine sX8_tryEvents hS1 hO (ch := fun e => !bt (nI (2 ^ gne (gmT T) - (s + 1))) e) (fun e he => by rw [bt_cpl (n := gne (gmT T)) (by omega) (by omega) he, Bool.not_not]) (fun σ2 hF2 _ hR _ => ?_)
      refine sJ6_bitCount (p := bt (nI s)) (n := gne (gmT T)) (bt_in (by omega)) (by omega) ?_
      have hml := fb_ct_le (bt (nI s)) (gne (gmT T))
      have hbit : ∀ i, i < 32 → bt (σ2.1 35 12) i = (decide (i < ns (gmT T)) && hcA (gmT T) i s) := hR.2.2.2.2.2
      have hFa : Fr CFc σ σ2 := hF.tr' (hF2.up CFc_x)
      have e52 : σ2.1 52 = σ1.1 52 := hF2.r (fun b => rfl)
      suffices L2 : ∀ (d' i : Nat) (σ3 : Hp), i + d' = ns (gmT T) → Fr (fun a _ => Nat.beq a 52) σ2 σ3 → (∀ j, j < ns (gmT T) → ∀ m, m ≤ gne (gmT T) → σ3.1 52 (j * 9 + m) = nI (hcN (gmT T) j m (if j < i then s + 1 else s))) → vX8_learnChances_41 postv (fun σ_8 => (∀ x1_9 : Int32, x1_9 = nI s + (1 : Int32) → vX8_learnChances_18 postv (fun σ_4 => (∀ σ_5 : Hp, σ_5 = wI σ_4 0 10 (1 : Int32) → postv σ_5)) (d + 1) x1_9 σ_8)) (nI s) (nI (fb_ct (bt (nI s)) (gne (gmT T)))) (d' + 1) (nI i) σ3 from ⟨ns (gmT T) + 1, L2 _ 0 σ2 (by omega) Fr.rf (fun j hj m hm => by rw [if_neg (Nat.not_lt_zero j), e52]; exact hv j hj m hm)⟩
      intro d'
      induction d' with
      | zero =>
        intro i σ3 hd' hF3 hv3
        have hF3' : Fr CFc σ2 σ3 := hF3.up (fun a b hab => by unfold CFc at hab; rw [Bool.or_eq_false_iff] at hab; exact hab.2)
        have hsh : σ3.1 24 3 = nI (ns (gmT T)) := (hS.fc h10 (hFa.tr' hF3')).sh
        rw [vX8_learnChances_41]; dsimp only; rw [hsh]
        refine ⟨fun _ => ?_, fun q => absurd (nI_le (by omega) (by omega)) q⟩
        rintro _ rfl
        rw [nI_1 s]
        refine ih (s + 1) σ3 (by omega) (hFa.tr' hF3') (fun j hj m hm => ?_)
        rw [hv3 j hj m hm, if_pos (by omega)]
      | succ d' ih' =>
        intro i σ3 hd' hF3 hv3
        have hF3' : Fr CFc σ2 σ3 := hF3.up (fun a b hab => by unfold CFc at hab; rw [Bool.or_eq_false_iff] at hab; exact hab.2)
        have hsh : σ3.1 24 3 = nI (ns (gmT T)) := (hS.fc h10 (hFa.tr' hF3')).sh
        have hb3 : bt (σ3.1 35 12) i = hcA (gmT T) i s := by rw [hF3.i rfl, hbit i (by omega), decide_eq_true (by omega), Bool.true_and]
        have hsucc : ∀ j m, hcN (gmT T) j m (s + 1) = hcN (gmT T) j m s + (if (hcA (gmT T) j s && fb_ct (bt (nI s)) (gne (gmT T)) == m) = true then 1 else 0) := fun j m => fb_ct_succ _ s
        have hle := hcN_le (gmT T) i (fb_ct (bt (nI s)) (gne (gmT T))) s
        rw [vX8_learnChances_41]; dsimp only; rw [hsh]
        refine ⟨fun q => absurd q (nI_ge (by omega) (by omega)), fun _ => ?_⟩
        refine sX8_isSet rfl (by omega) (fun q => ?_) (fun q => ?_) <;> rw [hb3] at q
        · refine ⟨fun q => absurd q (by decide), fun _ => ?_⟩
          rw [k9, nI_mul, nI_add, nI_c (by omega)]
          refine ⟨vp_in_nI (by omega) (by omega), vp_in_nI (by omega) (by omega), ?_⟩
          rintro σ4 hS4
          rintro _ rfl
          rw [nI_1 i]
          refine ih' (i + 1) σ4 (by omega) (hF3.tr' (by rw [hS4]; exact Fr.wI rfl)) (fun j hj m hm => ?_)
          rw [hS4, wI_at]
          by_cases e : j * 9 + m = i * 9 + fb_ct (bt (nI s)) (gne (gmT T))
          · have ej : j = i := by omega
            have em : m = fb_ct (bt (nI s)) (gne (gmT T)) := by omega
            rw [if_pos e, hv3 i (by omega) _ hml, if_neg (Nat.lt_irrefl i), ej, if_pos (by omega), hsucc, q, em, beq_self_eq_true, nI_1]
            rfl
          · rw [if_neg e, hv3 j hj m hm]
            by_cases ej : j = i
            · subst ej
              rw [if_neg (Nat.lt_irrefl j), if_pos (by omega), hsucc, show (fb_ct (bt (nI s)) (gne (gmT T)) == m) = false from beq_eq_false_iff_ne.mpr (fun h => e (by omega)), Bool.and_false]
              rfl
            · by_cases h1 : j < i
              · rw [if_pos h1, if_pos (by omega)]
              · rw [if_neg h1, if_neg (by omega)]
        · refine ⟨fun _ => ?_, fun q => absurd rfl q⟩
          rintro _ rfl
          rw [nI_1 i]
          refine ih' (i + 1) σ3 (by omega) hF3 (fun j hj m hm => ?_)
          rw [hv3 j hj m hm]
          by_cases ej : j = i
          · subst ej
            rw [if_neg (Nat.lt_irrefl j), if_pos (by omega), hsucc, q, Bool.false_and]
            rfl
          · by_cases h1 : j < i
            · rw [if_pos h1, if_pos (by omega)]
            · rw [if_neg h1, if_neg (by omega)]
  · refine ⟨fun q => absurd (h10.symm.trans q) (by decide), fun _ => h σ Cls.rf hS hc⟩
theorem sC_chance (hI : CI σ T) (hO : Tok T) {p q r : Int32} (h : ∀ σ', Cls σ σ' → CI σ' T → post (a_chance T p q r) σ') : vX8_chance p q r σ post := by
  have hG := gmT_ok hO
  have g5 := hG.2.2.2.2.1
  refine sC_settle hI hO (fun σ1 hF hS => ?_)
  have hb := h σ1 hF hS.ci
  have hbad : (-9223372036854775808 : Int64) - (-2 : Int32).toInt64 = (-9223372036854775806 : Int64) := by decide
  refine gW (n := 17) (by omega) rfl (fun q => ?_) (fun c hc e => gWS g5 hS.sh (fun q => ?_) (fun i hi e2 => gW (n := 2) (by omega) rfl (fun q => ?_) (fun w hw e3 => ?_)))
  · rw [a_chance, iff_f (by rw [q]; rfl), hbad] at hb; exact hb
  · rw [a_chance, iff_f (by rw [q]; simp), hbad] at hb; exact hb
  · rw [a_chance, iff_f (by rw [q]; simp), hbad] at hb; exact hb
  · subst e e2 e3
    refine sX8_learnChances hS hO (fun σ2 hF2 hS2 hc2 => ?_)
    have hb := h σ2 (hF.tr hF2) hS2.ci
    rw [a_chance, iff_t (by rw [ib_t hc (by omega), ib_t hi (by omega), ib_t hw (by omega)]; rfl), Nn_nI (by omega), Nn_nI (by omega), Nn_nI (by omega)] at hb
    exact sX8_chanceLearned hS2 hO hc2 (by omega) hi hw rfl rfl rfl hb
end CH
