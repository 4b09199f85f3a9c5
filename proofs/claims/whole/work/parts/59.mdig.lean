/-! ===== digest ===== -/
def mx (h v : Int64) : Int64 := (31 : Int64) * h + v
def foldk (F : Nat → Int64 → Int64) : Nat → Int64 → Int64
  | 0, h => h
  | n + 1, h => F n (foldk F n h)
theorem foldk_cong {F F' : Nat → Int64 → Int64} : ∀ {n : Nat} {h : Int64}, (∀ k, k < n → ∀ h, F k h = F' k h) → foldk F n h = foldk F' n h
  | 0, _, _ => rfl
  | n + 1, h, hc => by rw [foldk, foldk, foldk_cong (fun k hk => hc k (by omega)), hc n (by omega)]
def d_count (T : Td) (h : Int64) : Int64 := foldk (fun k h => mx h (a_count T (nI k)).toInt64) 8 h
def d_fault (T : Td) (h : Int64) : Int64 := foldk (fun t h => mx h (fltI (tB T t) t (tn T t)).toInt64) 3 h
def d_sees (g : Gm) (c : Nat) (h : Int64) : Int64 := foldk (fun p h => mx h (fI (who g 11 c p)).toInt64) 12 h
def d_chain (g : Gm) (h : Int64) : Int64 := foldk (fun c h => d_sees g c (mx h (gsp g c).toInt64)) 3 h
def d_down (g : Gm) (h : Int64) : Int64 := foldk (fun t h => mx h (nI (gdn g (t + 1))).toInt64) 24 h
def d_tick (g : Gm) (t k : Nat) (h : Int64) : Int64 := foldk (fun j h => mx h (nI (gat g t k j)).toInt64) 3 h
def d_duck (g : Gm) (Q : Nat → Nat → Nat) (n k : Nat) (h : Int64) : Int64 := mx (d_tick g 23 k (d_tick g 13 k (d_tick g 6 k (d_tick g 0 k (foldk (fun j h => mx h (nI (gD g k j)).toInt64) 4 h))))) (gkb g Q n k).toInt64
def d_shot (g : Gm) (i : Nat) (h : Int64) : Int64 :=
  mx (mx (mx (mx (mx (mx (foldk (fun j h => mx h (ghs g i j).toInt64) 3 (foldk (fun j h => mx h (nI (gS g i j)).toInt64) 3 h)) (gpl (fun v => gscore (gSs g i 2 v)) 6 0).toInt64) (gpl (fun v => gscore (gSs g i 2 v)) 6 1).toInt64) (gpl (fun v => gscore (gSs g i 0 v)) 24 0).toInt64) (gpl (fun v => gscore (gSs g i 0 v)) 24 1).toInt64) (gchI g 5 i 0)) (gchI g 5 i 1)
def d_sums (g : Gm) (h : Int64) : Int64 := mx (mx (mx (mx (foldk (fun j h => mx h (nI (gsum g j)).toInt64) 3 h) (grnI g 0).toInt64) (grnI g 1).toInt64) (gez g).toInt64) (gsf g).toInt64
def d_plans (g : Gm) (Q : Nat → Nat → Nat) (n : Nat) (h : Int64) : Int64 :=
  mx (mx (mx (mx (mx (mx (mx (mx (mx h (gpl (fun v => gscore (gPu g v)) 5 0).toInt64) (gpl (fun v => gscore (gPu g v)) 5 1).toInt64) (gspa g (-1)).toInt64) (gspa g 0).toInt64) (gnv g Q n).toInt64) (gpb g Q n).toInt64) (nI (gask g Q n)).toInt64) (nI (gsum (gSh g 9 (frS 7)) 0)).toInt64) (nI (gsum (gSh g 9 (frS 7)) 1)).toInt64
def a_digest (T : Td) : Int64 := d_plans (gmT T) (tQ T) (tnq T) (d_sums (gmT T) (foldk (d_shot (gmT T)) (ns (gmT T)) (foldk (d_duck (gmT T) (tQ T) (tnq T)) (nd (gmT T)) (d_down (gmT T) (d_chain (gmT T) (d_fault T (d_count T 17)))))))
section MD
variable {σ : Hp} {g : Gm} {T : Td} {post : Int64 → Hp → Prop} {posti : Int32 → Hp → Prop} {n : Nat} {Q : Nat → Nat → Nat}
theorem sX9_tellsTick (hG : Gok g) (hB : MBy σ g 24) {t k : Nat} {a b : Int32} {h0 : Int64} (ht : t < 24) (hk : k < nd g) (ha : a = nI t) (hb : b = nI k) (h : post (d_tick g t k h0) σ) : vX9_tellsTick h0 a b σ post := by
  subst ha hb
  suffices L : ∀ (d j : Nat), j + d = 3 → vX9_tellsTick_6 post (fun z5_1 σ_2 => post z5_1 σ_2) (nI t) (nI k) (d + 1) (foldk (fun j h => mx h (nI (gat g t k j)).toInt64) j h0) (nI j) σ from ⟨3 + 1, L 3 0 (by omega)⟩
  intro d
  induction d with
  | zero =>
    intro j hd
    rw [vX9_tellsTick_6]; dsimp only; rw [k3]
    refine ⟨fun _ => ?_, fun c => absurd (nI_le (by omega) (by omega)) c⟩
    rw [show j = 3 by omega]; exact h
  | succ d ih =>
    intro j hd
    have ih := ih (j + 1) (by omega)
    rw [foldk] at ih
    rw [vX9_tellsTick_6]; dsimp only; rw [k3]
    refine ⟨fun c => absurd c (nI_ge (by omega) (by omega)), fun _ => ?_⟩
    refine sX9_atBy hG hB ht hk (by omega) rfl rfl rfl ?_
    rintro _ rfl _ rfl
    rw [nI_1]; exact ih
theorem sX9_tellsDuck (hM : MIn σ g) (hG : Gok g) (hQ : MSn σ n Q) {k : Nat} {a : Int32} {h0 : Int64} (hk : k < nd g) (ha : a = nI k) (h : ∀ σ', Fr MF σ σ' → post (d_duck g Q n k h0) σ') : vX9_tellsDuck h0 a σ post := by
  subst ha
  have g1 := hG.1
  refine sX9_lives hM hG (fun σ1 hF1 hO1 => ?_)
  have hM1 := hM.fr hF1
  obtain ⟨m1, m2, m3, m4, -⟩ := id hM1
  have hfin : ∀ z : Int64, z = foldk (fun j h => mx h (nI (gD g k j)).toInt64) 4 h0 → vX9_tellsTick z (0 : Int32) (nI k) σ1 (fun r_6 σ_5 => (vX9_tellsTick r_6 (6 : Int32) (nI k) σ_5 (fun r_8 σ_7 => (vX9_tellsTick r_8 (13 : Int32) (nI k) σ_7 (fun r_10 σ_9 => (vX9_tellsTick r_10 (23 : Int32) (nI k) σ_9 (fun r_12 σ_11 => (vX9_kindOf (nI k) σ_11 (fun r_14 σ_13 => post (((31 : Int64) * r_12) + r_14.toInt64) σ_13))))))))) := by
    rintro _ rfl
    refine sX9_tellsTick hG hO1.2 (by omega : 0 < 24) hk rfl rfl ?_
    refine sX9_tellsTick hG hO1.2 (by omega : 6 < 24) hk rfl rfl ?_
    refine sX9_tellsTick hG hO1.2 (by omega : 13 < 24) hk rfl rfl ?_
    refine sX9_tellsTick hG hO1.2 (by omega : 23 < 24) hk rfl rfl ?_
    exact sX9_kindOf hM1 hG (hQ.fr hF1) hk rfl (fun σ2 hF2 => h σ2 (hF1.tr' hF2))
  suffices L : ∀ (d j : Nat), j + d = 4 → vX9_tellsDuck_10 post (fun z4_3 σ_4 => (vX9_tellsTick z4_3 (0 : Int32) (nI k) σ_4 (fun r_6 σ_5 => (vX9_tellsTick r_6 (6 : Int32) (nI k) σ_5 (fun r_8 σ_7 => (vX9_tellsTick r_8 (13 : Int32) (nI k) σ_7 (fun r_10 σ_9 => (vX9_tellsTick r_10 (23 : Int32) (nI k) σ_9 (fun r_12 σ_11 => (vX9_kindOf (nI k) σ_11 (fun r_14 σ_13 => post (((31 : Int64) * r_12) + r_14.toInt64) σ_13))))))))))) (nI k) (d + 1) (foldk (fun j h => mx h (nI (gD g k j)).toInt64) j h0) (nI j) σ1 from ⟨4 + 1, L 4 0 (by omega)⟩
  intro d
  induction d with
  | zero =>
    intro j hd
    rw [vX9_tellsDuck_10]; dsimp only
    refine ⟨fun _ => ?_, fun c => absurd (by rw [k4]; exact nI_le (by omega) (by omega)) c⟩
    exact hfin _ (by rw [show j = 4 by omega])
  | succ d ih =>
    intro j hd
    have ih := ih (j + 1) (by omega)
    rw [foldk] at ih
    rw [vX9_tellsDuck_10]; dsimp only
    refine ⟨fun c => absurd c (by rw [k4]; exact nI_ge (by omega) (by omega)), fun _ => ?_⟩
    rw [k4, nI_mul, nI_add, nI_c (by omega), m4 k hk j (by omega)]
    refine ⟨vp_in_nI (by omega) (by omega), ?_⟩
    rintro _ rfl _ rfl
    rw [nI_1]; exact ih
theorem sX9_tellsShot (hM : MIn σ g) (hG : Gok g) (h15 : σ.1 71 15 = 0) {i : Nat} {a : Int32} {h0 : Int64} (hi : i < ns g) (ha : a = nI i) (h : ∀ σ', Fr MF σ σ' → post (d_shot g i h0) σ') : vX9_tellsShot h0 a σ post := by
  subst ha
  have g5 := hG.2.2.2.2.1
  refine sX9_lives hM hG (fun σ1 hF1 hO1 => ?_)
  have hM1 := hM.fr hF1
  obtain ⟨m1, m2, m3, m4, m5, m6, -⟩ := id hM1
  unfold d_shot at h
  generalize hE2 : (fun z4_5 σ_6 => (vX9_shotBetter (((3 : Int32) * nI i) + (2 : Int32)) (6 : Int32) (0 : Int32) σ_6 (fun r_8 σ_7 => (∀ x4_9 : Int64, x4_9 = (((31 : Int64) * z4_5) + r_8.toInt64) → (vX9_shotBetter (((3 : Int32) * nI i) + (2 : Int32)) (6 : Int32) (1 : Int32) σ_7 (fun r_11 σ_10 => (∀ x4_12 : Int64, x4_12 = (((31 : Int64) * x4_9) + r_11.toInt64) → (vX9_shotBetter ((3 : Int32) * nI i) (24 : Int32) (0 : Int32) σ_10 (fun r_14 σ_13 => (∀ x4_15 : Int64, x4_15 = (((31 : Int64) * x4_12) + r_14.toInt64) → (vX9_shotBetter ((3 : Int32) * nI i) (24 : Int32) (1 : Int32) σ_13 (fun r_17 σ_16 => (∀ x4_18 : Int64, x4_18 = (((31 : Int64) * x4_15) + r_17.toInt64) → (vX9_chanceOf (5 : Int32) (nI i) (0 : Int32) σ_16 (fun r_20 σ_19 => (∀ x4_21 : Int64, x4_21 = (((31 : Int64) * x4_18) + r_20) → (vX9_chanceOf (5 : Int32) (nI i) (1 : Int32) σ_19 (fun r_23 σ_22 => post (((31 : Int64) * x4_21) + r_23) σ_22)))))))))))))))))) = E2
  have hE : E2 (foldk (fun j h => mx h (ghs g i j).toInt64) 3 (foldk (fun j h => mx h (nI (gS g i j)).toInt64) 3 h0)) σ1 := by
    subst hE2
    refine sX9_shotBetter (j := 2) (many := 6) (w := 0) hM1 hG hi (Or.inr ⟨rfl, rfl⟩) (by omega) (by rw [k3, k2, nI_mul, nI_add]) rfl rfl (fun σ2 hF2 => ?_)
    rintro _ rfl
    have hM2 := hM1.fr hF2
    refine sX9_shotBetter (j := 2) (many := 6) (w := 1) hM2 hG hi (Or.inr ⟨rfl, rfl⟩) (by omega) (by rw [k3, k2, nI_mul, nI_add]) rfl rfl (fun σ3 hF3 => ?_)
    rintro _ rfl
    have hM3 := hM2.fr hF3
    refine sX9_shotBetter (j := 0) (many := 24) (w := 0) hM3 hG hi (Or.inl ⟨rfl, rfl⟩) (by omega) (by rw [k3, nI_mul]; rfl) rfl rfl (fun σ4 hF4 => ?_)
    rintro _ rfl
    have hM4 := hM3.fr hF4
    refine sX9_shotBetter (j := 0) (many := 24) (w := 1) hM4 hG hi (Or.inl ⟨rfl, rfl⟩) (by omega) (by rw [k3, nI_mul]; rfl) rfl rfl (fun σ5 hF5 => ?_)
    rintro _ rfl
    have hM5 := hM4.fr hF5
    have hF15 : Fr MF σ σ5 := (((hF1.tr' hF2).tr' hF3).tr' hF4).tr' hF5
    refine sX9_chanceOf (c := 5) (w := 0) hM5 hG (by rw [hF15.i rfl]; exact h15) (by omega) hi (by omega) rfl rfl rfl (fun σ6 hF6 => ?_)
    rintro _ rfl
    have hM6 := hM5.fr hF6
    have hF16 : Fr MF σ σ6 := hF15.tr' hF6
    refine sX9_chanceOf (c := 5) (w := 1) hM6 hG (by rw [hF16.i rfl]; exact h15) (by omega) hi (by omega) rfl rfl rfl (fun σ7 hF7 => ?_)
    exact h σ7 (hF16.tr' hF7)
  have L2 : ∀ (d j : Nat), j + d = 3 → vX9_tellsShot_46 post E2 (nI i) (d + 1) (foldk (fun j h => mx h (ghs g i j).toInt64) j (foldk (fun j h => mx h (nI (gS g i j)).toInt64) 3 h0)) (nI j) σ1 := by
    intro d
    induction d with
    | zero =>
      intro j hd
      rw [vX9_tellsShot_46]; dsimp only; rw [k3]
      refine ⟨fun _ => ?_, fun c => absurd (nI_le (by omega) (by omega)) c⟩
      rw [show j = 3 by omega]; exact hE
    | succ d ih =>
      intro j hd
      have ih := ih (j + 1) (by omega)
      rw [foldk] at ih
      rw [vX9_tellsShot_46]; dsimp only; rw [k3]
      refine ⟨fun c => absurd c (nI_ge (by omega) (by omega)), fun _ => ?_⟩
      refine sX9_hitsBy hM1 hG hO1 hi (by omega) rfl rfl ?_
      rintro _ rfl _ rfl
      rw [nI_1]; exact ih
  suffices L : ∀ (d j : Nat), j + d = 3 → vX9_tellsShot_10 post (fun z4_3 σ_4 => (∃ fu : Nat, vX9_tellsShot_46 post E2 (nI i) fu z4_3 (0 : Int32) σ_4)) (nI i) (d + 1) (foldk (fun j h => mx h (nI (gS g i j)).toInt64) j h0) (nI j) σ1 by
    have := L 3 0 (by omega)
    subst hE2
    exact ⟨3 + 1, this⟩
  intro d
  induction d with
  | zero =>
    intro j hd
    rw [vX9_tellsShot_10]; dsimp only
    refine ⟨fun _ => ?_, fun c => absurd (by rw [k3]; exact nI_le (by omega) (by omega)) c⟩
    rw [show j = 3 by omega]; exact ⟨3 + 1, L2 3 0 (by omega)⟩
  | succ d ih =>
    intro j hd
    have ih := ih (j + 1) (by omega)
    rw [foldk] at ih
    rw [vX9_tellsShot_10]; dsimp only
    refine ⟨fun c => absurd c (by rw [k3]; exact nI_ge (by omega) (by omega)), fun _ => ?_⟩
    rw [k3, nI_mul, nI_add, nI_c (by omega), m6 i hi j (by omega)]
    refine ⟨vp_in_nI (by omega) (by omega), ?_⟩
    rintro _ rfl _ rfl
    rw [nI_1]; exact ih
/-- texts read anew -/
theorem sX9_readsTextP (hP : MP σ T) {t : Nat} {p : Int32} (ht : t < 3) (hp : p = nI t) (h : ∀ σ', Fr FM σ σ' → MP σ' T → posti (fltI (tB T t) t (tn T t)) σ') : vX9_readsText p σ posti := by
  subst hp
  obtain ⟨hT, h78, hD, hS⟩ := hP
  unfold vX9_readsText
  rcases (by omega : t = 0 ∨ t = 1 ∨ t = 2) with rfl | rfl | rfl
  · exact ⟨fun _ => sX9_readsChains (hT.1 0 (by omega)) (fun σ' hF h1 => h σ' (MFh_FM hF) ⟨hT.fr hF, h1, hD.fr hF, hS.fr hF⟩), fun q => absurd rfl q⟩
  · exact ⟨fun q => absurd q (by decide), fun _ => ⟨fun _ => sX9_readsDucks (hT.1 1 (by omega)) (fun σ' hF h1 => h σ' (MFk_FM hF) ⟨hT.fr hF, fun c hc => by rw [hF.i rfl]; exact h78 c hc, h1, hS.fr hF⟩), fun q => absurd rfl q⟩⟩
  · exact ⟨fun q => absurd q (by decide), fun _ => ⟨fun q => absurd q (by decide), fun _ => sX9_readsShots (hT.1 2 (by omega)) (fun σ' hF h1 => h σ' (MFs_FM hF) ⟨hT.fr hF, fun c hc => by rw [hF.i rfl]; exact h78 c hc, hD.fr hF, h1⟩)⟩⟩
end MD
