/-! ===== chances, fairs ===== -/
/-- the weight of a choice of events: c for each that is, 16 - c for each that is not (p: it is not) -/
def wtp (c : Nat) (p : Nat → Bool) : Nat → Nat
  | 0 => 1
  | n + 1 => wtp c p n * (if p n then 16 - c else c)
theorem wtp_le {c : Nat} (hc : c ≤ 16) (p : Nat → Bool) : ∀ n, wtp c p n ≤ 16 ^ n
  | 0 => by simp [wtp]
  | n + 1 => by
    rw [wtp, Nat.pow_succ]
    refine Nat.mul_le_mul (wtp_le hc p n) ?_
    split <;> omega
/-- shot i's part of 16 ^ ne -/
def gab (g : Gm) (c i : Nat) : Nat := fb_sm (fun s => (if gfi (gCh g (fun e => !bt (nI s) e)) i = 0 then 0 else 1) * wtp c (bt (nI s)) (gne g)) (2 ^ gne g)
theorem gab_lt {g : Gm} (hG : Gok g) {c : Nat} (hc : c ≤ 16) (i : Nat) : gab g c i < 2 ^ 63 := by
  obtain ⟨-, -, -, -, -, -, -, -, g9, -⟩ := id hG
  have h1 : gab g c i ≤ 2 ^ gne g * 16 ^ gne g := by
    refine fb_sm_bound (fun k _ => ?_)
    have := wtp_le hc (bt (nI k)) (gne g)
    split
    · rw [Nat.zero_mul]; exact Nat.zero_le _
    · rw [Nat.one_mul]; exact this
  have h2 : 2 ^ gne g ≤ 2 ^ 8 := Nat.pow_le_pow_right (by omega) g9
  have h3 : 16 ^ gne g ≤ 16 ^ 8 := Nat.pow_le_pow_right (by omega) g9
  have h4 := Nat.mul_le_mul h2 h3
  have : 2 ^ 8 * 16 ^ 8 < 2 ^ 63 := by decide
  omega
def gchI (g : Gm) (c i w : Nat) : Int64 := lN ((if w = 0 then gab g c i else 16 ^ gne g) / Nat.gcd (gab g c i) (16 ^ gne g))
theorem shl_ne : ∀ n, n ≤ 8 → (1 : Int32) <<< (nI n &&& 31) = nI (2 ^ n) := by decide +kernel
theorem shl_nl {n : Nat} (h : n ≤ 8) : (1 : Int64) <<< ((nI (4 * n)).toInt64 &&& 63) = lN (16 ^ n) := by
  have := wb_shl 1 (k := 4 * n) (by omega)
  rw [show (1 : Int64) = lN 1 from rfl, this, Nat.one_mul, Nat.pow_mul]
section MC
variable {σ : Hp} {g : Gm} {post : Int64 → Hp → Prop} {posti : Int32 → Hp → Prop}
theorem sX9_part {a b w : Nat} {x y : Int64} {z : Int32} (ha : a < 2 ^ 63) (hb : b < 2 ^ 63) (hb0 : 0 < b) (hx : x = lN a) (hy : y = lN b) (hz : z = nI w) (hw : w < 2) (h : post (lN ((if w = 0 then a else b) / Nat.gcd a b)) σ) : vX9_part x y z σ post := by
  subst hx hy hz
  have L : ∀ (fuel p q : Nat) (ex : Int64 → Hp → Prop), q < fuel → p < 2 ^ 63 → q < 2 ^ 63 → ex (lN (Nat.gcd p q)) σ → vX9_part_6 post ex (lN a) (lN b) (nI w) fuel (lN p) (lN q) σ := by
    intro fuel
    induction fuel with
    | zero => intro p q ex hf; omega
    | succ fuel ih =>
      intro p q ex hf hp hq hex
      rw [vX9_part_6]; dsimp only
      rw [lg_cmp_eq]
      refine ⟨fun c => ?_, fun c => ?_⟩
      · have : q = 0 := (pk_lEQ hq (by decide)).mp c
        subst this
        rw [Nat.gcd_zero_right] at hex; exact hex
      · have hq0 : q ≠ 0 := fun e => c (by rw [e]; rfl)
        refine ⟨c, ?_⟩
        rintro _ rfl
        rw [pk_lRem hp (by omega) hq]
        have hlt := Nat.mod_lt p (by omega : 0 < q)
        refine ih q (p % q) ex (by omega) hq (by omega) ?_
        rw [Nat.gcd_comm, ← Nat.gcd_rec, Nat.gcd_comm]; exact hex
  have hg0 : 0 < Nat.gcd a b := Nat.gcd_pos_of_pos_right a hb0
  have hgb : Nat.gcd a b < 2 ^ 63 := Nat.lt_of_le_of_lt (Nat.gcd_le_right a hb0) hb
  have hne : ¬ lN (Nat.gcd a b) = 0 := fun e => by
    have : Nat.gcd a b = 0 := (pk_lEQ hgb (by decide)).mp e
    omega
  refine ⟨b + 1, L (b + 1) a b _ (by omega) ha hb ?_⟩
  rw [k0, nI_eq2 (by omega) (by omega)]
  refine ⟨fun q => ⟨hne, ?_⟩, fun q => ⟨hne, ?_⟩⟩
  · rw [if_pos q] at h; rw [pk_lDiv ha hg0 hgb]; exact h
  · rw [if_neg q] at h; rw [pk_lDiv hb hg0 hgb]; exact h
theorem sX9_chanceOf (hM : MIn σ g) (hG : Gok g) (h15 : σ.1 71 15 = 0) {c i w : Nat} {a b d : Int32} (hc : c ≤ 16) (hi : i < ns g) (hw : w < 2) (ha : a = nI c) (hb : b = nI i) (hd : d = nI w) (h : ∀ σ', Fr MF σ σ' → post (gchI g c i w) σ') : vX9_chanceOf a b d σ post := by
  subst ha hb hd
  obtain ⟨-, -, -, -, g5, -, -, -, g9, -⟩ := id hG
  have hpw : 2 ^ gne g ≤ 256 := Nat.pow_le_pow_right (n := 2) (by omega) g9
  suffices L : ∀ (d s : Nat) (σ1 : Hp), s + d = 2 ^ gne g → Fr (Fr1 MF 71 15) σ σ1 → vX9_chanceOf_6 post (fun z4_1 σ_2 => (∀ σ_3 : Hp, σ_3 = wI σ_2 71 15 (0 : Int32) → (vX9_part z4_1 ((1 : Int64) <<< ((((4 : Int32) * (σ_3.1 71 13))).toInt64 &&& 63)) (nI w) σ_3 (fun r_5 σ_4 => post r_5 σ_4)))) (nI c) (nI i) (nI w) (d + 1) (lN (fb_sm (fun s => (if gfi (gCh g (fun e => !bt (nI s) e)) i = 0 then 0 else 1) * wtp c (bt (nI s)) (gne g)) s)) (nI s) σ1 from ⟨2 ^ gne g + 1, L (2 ^ gne g) 0 σ (by omega) Fr.rf⟩
  intro d
  induction d with
  | zero =>
    intro s σ1 hd hF
    have h13 : σ1.1 71 13 = nI (gne g) := by rw [hF.i rfl]; exact hM.2.2.1
    rw [vX9_chanceOf_6]; dsimp only
    rw [h13, shl_ne _ g9]
    refine ⟨fun _ => ?_, fun c => absurd (nI_le (by omega) (by omega)) c⟩
    rintro _ rfl
    have hF3 : Fr MF σ (wI σ1 71 15 0) := fr_back hF h15.symm
    have h133 : (wI σ1 71 15 0).1 71 13 = nI (gne g) := by rw [hF3.i rfl]; exact hM.2.2.1
    rw [h133, k4, nI_mul, shl_nl g9, show s = 2 ^ gne g by omega]
    have h16 : 16 ^ gne g ≤ 16 ^ 8 := Nat.pow_le_pow_right (by omega) g9
    have h63 : 16 ^ 8 < 2 ^ 63 := by decide
    exact sX9_part (gab_lt hG hc i) (by omega) (Nat.pow_pos (by omega)) rfl rfl rfl hw (h _ hF3)
  | succ d ih =>
    intro s σ1 hd hF
    have h13 : σ1.1 71 13 = nI (gne g) := by rw [hF.i rfl]; exact hM.2.2.1
    rw [vX9_chanceOf_6]; dsimp only
    rw [h13, shl_ne _ g9]
    refine ⟨fun c => absurd c (nI_ge (by omega) (by omega)), fun _ => ?_⟩
    rintro _ rfl
    have hM1 := MIn.ch hM (x := nI s) hF
    refine sX9_lives hM1 (hG.ch _) (fun σ2 hF2 hO2 => ?_)
    have hM2 := hM1.fr hF2
    have hF3 : Fr (Fr1 MF 71 15) σ σ2 := (hF.tr' Fr1_w).tr' (Fr1_up hF2)
    have ih := ih (s + 1) σ2 (by omega) hF3
    rw [fb_sm_succ] at ih
    have s1 : σ2.1 86 i = fI (gfi (gCh g (fun e => !bt (nI s) e)) i) := (hO2.1.2 i (by omega)).1
    have hf := gfi_lt (hG.ch (fun e => !bt (nI s) e)) i
    have h132 : σ2.1 71 13 = nI (gne g) := hM2.2.2.1
    rw [nI_c (by omega), s1, fI_m1 hf]
    have inner : ∀ (w0 : Nat) (ex : Int64 → Hp → Prop), ex (lN (w0 * wtp c (bt (nI s)) (gne g))) σ2 → ∀ (d' j : Nat), j + d' = gne g → vX9_chanceOf_47 post ex (nI c) (nI i) (nI w) (lN (fb_sm (fun s => (if gfi (gCh g (fun e => !bt (nI s) e)) i = 0 then 0 else 1) * wtp c (bt (nI s)) (gne g)) s)) (nI s) (d' + 1) (lN (w0 * wtp c (bt (nI s)) j)) (nI j) σ2 := by
      intro w0 ex hex d'
      induction d' with
      | zero =>
        intro j hj
        rw [vX9_chanceOf_47]; dsimp only; rw [h132]
        refine ⟨fun _ => ?_, fun c => absurd (nI_le (by omega) (by omega)) c⟩
        rw [show j = gne g by omega]; exact hex
      | succ d' ih' =>
        intro j hj
        have ih' := ih' (j + 1) (by omega)
        rw [wtp, ← Nat.mul_assoc, ← lN_mul] at ih'
        rw [vX9_chanceOf_47]; dsimp only; rw [h132]
        refine ⟨fun c => absurd c (nI_ge (by omega) (by omega)), fun _ => ?_⟩
        refine sX9_isInB rfl (by omega) (fun c1 => ?_) (fun c1 => ?_)
        · refine ⟨fun q => absurd q (by decide), fun _ => ?_⟩
          rintro _ rfl _ rfl
          rw [c1, if_pos rfl] at ih'
          rw [nI_1, k16, pk_sub hc, nI_l (by omega)]; exact ih'
        · refine ⟨fun _ => ?_, fun q => absurd rfl q⟩
          rintro _ rfl _ rfl
          rw [c1, if_neg (by decide)] at ih'
          rw [nI_1, nI_l (by omega)]; exact ih'
    refine ⟨vp_in_nI (by omega) (by omega), fun q => ?_, fun q => ?_⟩
    · rw [if_pos q] at ih
      refine ⟨gne g + 1, inner 0 _ ?_ (gne g) 0 (by omega)⟩
      rintro _ rfl _ rfl
      rw [nI_1, lN_add]; exact ih
    · rw [if_neg q] at ih
      refine ⟨gne g + 1, inner 1 _ ?_ (gne g) 0 (by omega)⟩
      rintro _ rfl _ rfl
      rw [nI_1, lN_add]; exact ih
-- lots
def nxs (s : Int32) : Int32 := (1103515245 : Int32) * s + (12345 : Int32)
def seqs (s : Int32) : Nat → Int32
  | 0 => s
  | n + 1 => nxs (seqs s n)
def lotv (x : Int32) (m : Nat) : Nat := x.toBitVec.toNat / 65536 % m
theorem lot_eq (x : Int32) {m : Nat} (hm : 0 < m) (hm2 : m < 100) : ((x).toUInt32 >>> (((16 : Int32)).toUInt32 &&& Int32.toUInt32 31)).toInt32 - ((x).toUInt32 >>> (((16 : Int32)).toUInt32 &&& Int32.toUInt32 31)).toInt32 / nI m * nI m = nI (lotv x m) := by
  obtain ⟨n, hn, rfl⟩ := wb_of32 x
  have e := pk_ushrN hn (16 : Int32) 16 (by decide)
  rw [e]
  have h16 : n / 2 ^ 16 < 65536 := by omega
  rw [nI_rem (by omega) hm (by omega)]
  unfold lotv
  rw [pk_tn hn]
theorem lotv_lt (x : Int32) {m : Nat} (hm : 0 < m) : lotv x m < m := Nat.mod_lt _ hm
/-- n shots by lots -/
def frS (seed : Int32) (i j : Nat) : Nat := lotv (seqs seed (3 * i + j + 1)) (if j = 0 then 24 else if j = 1 then 3 else 6)
theorem Gok.sh {g : Gm} (h : Gok g) {n : Nat} {S : Nat → Nat → Nat} (hn : n ≤ 12) (hS : ∀ i, i < n → S i 0 < 24 ∧ S i 1 < 3 ∧ S i 2 < 6) : Gok (gSh g n S) := by
  obtain ⟨g1, g2, g3, g4, g5, g6, g7, g8, g9, g10⟩ := h
  exact ⟨g1, g2, g3, g4, hn, hS, g7, g8, g9, g10⟩
theorem Gok.fr {g : Gm} (h : Gok g) {n : Nat} (hn : n ≤ 12) (seed : Int32) : Gok (gSh g n (frS seed)) := h.sh hn (fun _ _ => ⟨lotv_lt _ (by decide), lotv_lt _ (by decide), lotv_lt _ (by decide)⟩)
def MFf : Nat → Nat → Bool := fun a b => Nat.beq a 80 || ((Nat.ble 83 a && Nat.ble a 90) || (Nat.beq a 71 && (Nat.beq b 10 || Nat.beq b 27)))
theorem MF_MFf : ∀ a b, MFf a b = false → MF a b = false := fun a b h => by
  unfold MFf at h
  rw [Bool.or_eq_false_iff, Bool.or_eq_false_iff] at h
  exact h.2.1
theorem MFs_MFf : ∀ a b, MFf a b = false → MFs a b = false := fun a b h => by
  unfold MFf at h
  rw [Bool.or_eq_false_iff, Bool.or_eq_false_iff] at h
  obtain ⟨h1, h2, h3⟩ := h
  unfold MFs
  rw [h1, Bool.false_or]
  cases h4 : Nat.beq a 71
  · rfl
  · rw [h4, Bool.true_and, Bool.or_eq_false_iff] at h3
    rw [h3.1]; rfl
theorem sX9_lot {x : Int32} {m : Nat} {s : Int32} (hs : σ.1 71 27 = s) (hx : x = nI m) (hm : 0 < m) (hm2 : m < 100) (h : posti (nI (lotv (nxs s) m)) (wI σ 71 27 (nxs s))) : vX9_lot x σ posti := by
  subst hx
  unfold vX9_lot
  rintro _ rfl
  rw [hs]
  refine ⟨fun q => by rw [k0, nI_eq2 (by omega) (by omega)] at q; omega, ?_⟩
  rw [wI_at, if_pos rfl]
  rw [lot_eq ((1103515245 : Int32) * s + (12345 : Int32)) hm hm2]
  exact h
theorem sX9_fairsOf (hM : MIn σ g) (hG : Gok g) {n2 : Nat} {B : Nat → Nat} (hT : MTx σ 2 n2 B) {n w : Nat} {seed b c : Int32} (hn : n ≤ 12) (hw : w < 3) (hb : b = nI n) (hc : c = nI w) (h : ∀ σ', Fr MFf σ σ' → MSh σ' n2 B → posti (nI (gsum (gSh g n (frS seed)) w)) σ') : vX9_fairsOf seed b c σ posti := by
  subst hb hc
  have hGf := hG.fr hn seed
  unfold vX9_fairsOf
  rintro _ rfl _ rfl
  have hF0 : Fr MFf σ (wI (wI σ 71 27 seed) 71 10 (nI n)) := (Fr.wI rfl).tr' (Fr.wI rfl)
  suffices L : ∀ (d i : Nat) (σ1 : Hp), i + d = n → Fr MFf σ σ1 → σ1.1 71 10 = nI n → σ1.1 71 27 = seqs seed (3 * i) → (∀ a, a < i → ∀ j, j < 3 → σ1.1 80 (3 * a + j) = nI (frS seed a j)) → vX9_fairsOf_13 posti (fun σ_3 => (vX9_lives σ_3 (fun σ_4 => (vX9_sumBy (nI w) σ_4 (fun r_7 σ_6 => (vX9_readsShots σ_6 (fun r_9 σ_8 => posti r_7 σ_8))))))) (nI n) (nI w) (d + 1) (nI i) σ1 from ⟨n + 1, L n 0 _ (by omega) hF0 (by rw [wI_at, if_pos rfl]) (by rw [wI_nf (by decide), wI_at, if_pos rfl]; rfl) (fun a ha => absurd ha (Nat.not_lt_zero a))⟩
  intro d
  induction d with
  | zero =>
    intro i σ1 hd hF h10 h27 h80
    have : i = n := by omega
    subst this
    rw [vX9_fairsOf_13]; dsimp only
    refine ⟨fun _ => ?_, fun c => absurd (nI_le (by omega) (by omega)) c⟩
    have hM1 : MIn σ1 (gSh g i (frS seed)) := by
      obtain ⟨m1, m2, m3, m4, m5, m6, m7, m8, m9, m10⟩ := hM
      refine ⟨?_, h10, ?_, fun k hk j' hj' => ?_, fun c hc => ?_, fun a ha b hb => h80 a ha b hb, ?_, ?_, fun e he b hb => ?_, fun e he => ?_⟩
      · rw [hF.i rfl]; exact m1
      · rw [hF.i rfl]; exact m3
      · rw [hF.i rfl]; exact m4 k hk j' hj'
      · rw [hF.i rfl]; exact m5 c hc
      · rw [hF.i rfl]; exact m7
      · rw [hF.i rfl]; exact m8
      · rw [hF.i rfl]; exact m9 e he b hb
      · rw [hF.i rfl]; exact m10 e he
    refine sX9_lives hM1 hGf (fun σ2 hF2 hO2 => ?_)
    refine sX9_sumBy (hM1.fr hF2) hGf hO2 hw rfl ?_
    have hF3 : Fr MFf σ σ2 := hF.tr' (hF2.up MF_MFf)
    refine sX9_readsShots (hT.fr hF3) (fun σ3 hF4 hS3 => h σ3 (hF3.tr' (hF4.up MFs_MFf)) hS3)
  | succ d ih =>
    intro i σ1 hd hF h10 h27 h80
    rw [vX9_fairsOf_13]; dsimp only
    refine ⟨fun c => absurd c (nI_ge (by omega) (by omega)), fun _ => ?_⟩
    rw [k3, k2, k1, nI_mul, nI_add, nI_add, nI_add, nI_c (by omega), nI_c (by omega), nI_c (by omega)]
    refine sX9_lot (m := 24) h27 rfl (by omega) (by omega) ?_
    refine ⟨vp_in_nI (by omega) (by omega), ?_⟩
    rintro _ rfl
    refine sX9_lot (m := 3) (s := seqs seed (3 * i + 1)) (by rw [wI_ne (by decide), wI_at, if_pos rfl]; rfl) rfl (by omega) (by omega) ?_
    refine ⟨vp_in_nI (by omega) (by omega), ?_⟩
    rintro _ rfl
    refine sX9_lot (m := 6) (s := seqs seed (3 * i + 2)) (by rw [wI_ne (by decide), wI_at, if_pos rfl]; rfl) rfl (by omega) (by omega) ?_
    refine ⟨vp_in_nI (by omega) (by omega), ?_⟩
    rintro _ rfl _ rfl
    refine ih (i + 1) _ (by omega) ((((((hF.tr' (Fr.wI rfl)).tr' (Fr.wI rfl)).tr' (Fr.wI rfl)).tr' (Fr.wI rfl)).tr' (Fr.wI rfl)).tr' (Fr.wI rfl)) ?_ ?_ (fun a ha j hj => ?_)
    · rw [wI_ne (by decide), wI_nf (by decide), wI_ne (by decide), wI_nf (by decide), wI_ne (by decide), wI_nf (by decide)]; exact h10
    · rw [wI_ne (by decide), wI_at, if_pos rfl]; rfl
    · rw [wI_at]
      by_cases e2 : 3 * a + j = 3 * i + 2
      · rw [if_pos e2, show a = i by omega, show j = 2 by omega]; rfl
      · rw [if_neg e2, wI_ne (by decide), wI_at]
        by_cases e1 : 3 * a + j = 3 * i + 1
        · rw [if_pos e1, show a = i by omega, show j = 1 by omega]; rfl
        · rw [if_neg e1, wI_ne (by decide), wI_at]
          by_cases e0 : 3 * a + j = 3 * i
          · rw [if_pos e0, show a = i by omega, show j = 0 by omega]; rfl
          · rw [if_neg e0, wI_ne (by decide)]
            exact h80 a (by omega) j hj
end MC
