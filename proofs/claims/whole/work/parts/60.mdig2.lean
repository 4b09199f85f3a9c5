section ME
variable {σ : Hp} {g : Gm} {T : Td} {post : Int64 → Hp → Prop} {ex : Int64 → Hp → Prop} {n : Nat} {Q : Nat → Nat → Nat} {h0 : Int64}
theorem lD_6 (hT : MTd σ T) (hO : Tok T) (h : ∀ σ', Fr FM σ σ' → MP σ' T → ex (d_count T h0) σ') : ∃ fu : Nat, vX9_digest_6 post ex fu h0 (0 : Int32) σ := by
  suffices L : ∀ (d j : Nat) (σ1 : Hp), j + d = 8 → Fr FM σ σ1 → MTd σ1 T → (0 < j → MP σ1 T) → vX9_digest_6 post ex (d + 1) (foldk (fun k h => mx h (a_count T (nI k)).toInt64) j h0) (nI j) σ1 from ⟨8 + 1, L 8 0 σ (by omega) Fr.rf hT (fun q => absurd q (by omega))⟩
  intro d
  induction d with
  | zero =>
    intro j σ1 hd hF hT1 hP1
    rw [vX9_digest_6]; dsimp only; rw [k8]
    refine ⟨fun _ => ?_, fun c => absurd (nI_le (by omega) (by omega)) c⟩
    have hj : j = 8 := by omega
    subst hj
    exact h σ1 hF (hP1 (by omega))
  | succ d ih =>
    intro j σ1 hd hF hT1 hP1
    rw [vX9_digest_6]; dsimp only; rw [k8]
    refine ⟨fun c => absurd c (nI_ge (by omega) (by omega)), fun _ => ?_⟩
    refine sM_countP hT1 hO (fun σ2 hF2 hP2 => ?_)
    rintro _ rfl _ rfl
    have ih := ih (j + 1) σ2 (by omega) (hF.tr' hF2) hP2.1 (fun _ => hP2)
    rw [foldk] at ih
    rw [nI_1]; exact ih
theorem lD_33 (hP : MP σ T) (h : ∀ σ', Fr FM σ σ' → MP σ' T → ex (d_fault T h0) σ') : ∃ fu : Nat, vX9_digest_33 post ex fu h0 (0 : Int32) σ := by
  suffices L : ∀ (d j : Nat) (σ1 : Hp), j + d = 3 → Fr FM σ σ1 → MP σ1 T → vX9_digest_33 post ex (d + 1) (foldk (fun t h => mx h (fltI (tB T t) t (tn T t)).toInt64) j h0) (nI j) σ1 from ⟨3 + 1, L 3 0 σ (by omega) Fr.rf hP⟩
  intro d
  induction d with
  | zero =>
    intro j σ1 hd hF hP1
    rw [vX9_digest_33]; dsimp only; rw [k3]
    refine ⟨fun _ => ?_, fun c => absurd (nI_le (by omega) (by omega)) c⟩
    have hj : j = 3 := by omega
    subst hj
    exact h σ1 hF hP1
  | succ d ih =>
    intro j σ1 hd hF hP1
    rw [vX9_digest_33]; dsimp only; rw [k3]
    refine ⟨fun c => absurd c (nI_ge (by omega) (by omega)), fun _ => ?_⟩
    refine sX9_readsTextP hP1 (by omega) rfl (fun σ2 hF2 hP2 => ?_)
    rintro _ rfl _ rfl
    have ih := ih (j + 1) σ2 (by omega) (hF.tr' hF2) hP2
    rw [foldk] at ih
    rw [nI_1]; exact ih
theorem lD_85 (hM : MIn σ g) (hG : Gok g) (hB : MBy σ g 24) {c : Nat} (hc : c < 3) (h : ex (d_sees g c h0) σ) : ∃ fu : Nat, vX9_digest_85 post ex (nI c) fu h0 (0 : Int32) σ := by
  suffices L : ∀ (d j : Nat), j + d = 12 → vX9_digest_85 post ex (nI c) (d + 1) (foldk (fun p h => mx h (fI (who g 11 c p)).toInt64) j h0) (nI j) σ from ⟨12 + 1, L 12 0 (by omega)⟩
  intro d
  induction d with
  | zero =>
    intro j hd
    rw [vX9_digest_85]; dsimp only; rw [k12]
    refine ⟨fun _ => ?_, fun c => absurd (nI_le (by omega) (by omega)) c⟩
    rw [show j = 12 by omega]; exact h
  | succ d ih =>
    intro j hd
    rw [vX9_digest_85]; dsimp only; rw [k12]
    refine ⟨fun c => absurd c (nI_ge (by omega) (by omega)), fun _ => ?_⟩
    refine sX9_seesBy hM hG hB (by omega : 10 < 24) hc (by omega) rfl rfl rfl ?_
    rintro _ rfl _ rfl
    have ih := ih (j + 1) (by omega)
    rw [foldk] at ih
    rw [nI_1]; exact ih
theorem lD_63 (hM : MIn σ g) (hG : Gok g) (hB : MBy σ g 24) (h : ex (d_chain g h0) σ) : ∃ fu : Nat, vX9_digest_63 post ex fu h0 (0 : Int32) σ := by
  suffices L : ∀ (d j : Nat), j + d = 3 → vX9_digest_63 post ex (d + 1) (foldk (fun c h => d_sees g c (mx h (gsp g c).toInt64)) j h0) (nI j) σ from ⟨3 + 1, L 3 0 (by omega)⟩
  intro d
  induction d with
  | zero =>
    intro j hd
    rw [vX9_digest_63]; dsimp only; rw [k3]
    refine ⟨fun _ => ?_, fun c => absurd (nI_le (by omega) (by omega)) c⟩
    rw [show j = 3 by omega]; exact h
  | succ d ih =>
    intro j hd
    rw [vX9_digest_63]; dsimp only; rw [k3]
    refine ⟨fun c => absurd c (nI_ge (by omega) (by omega)), fun _ => ?_⟩
    rw [nI_c (by omega), hM.2.2.2.2.1 j (by omega)]
    refine ⟨vp_in_nI (by omega) (by omega), ?_⟩
    rintro _ rfl
    refine lD_85 hM hG hB (by omega) ?_
    rintro _ rfl
    have ih := ih (j + 1) (by omega)
    rw [foldk] at ih
    rw [nI_1]; exact ih
theorem lD_123 (hM : MIn σ g) (hG : Gok g) (hB : MBy σ g 24) (h : ex (d_down g h0) σ) : ∃ fu : Nat, vX9_digest_123 post ex fu h0 (0 : Int32) σ := by
  suffices L : ∀ (d j : Nat), j + d = 24 → vX9_digest_123 post ex (d + 1) (foldk (fun t h => mx h (nI (gdn g (t + 1))).toInt64) j h0) (nI j) σ from ⟨24 + 1, L 24 0 (by omega)⟩
  intro d
  induction d with
  | zero =>
    intro j hd
    rw [vX9_digest_123]; dsimp only; rw [k24]
    refine ⟨fun _ => ?_, fun c => absurd (nI_le (by omega) (by omega)) c⟩
    rw [show j = 24 by omega]; exact h
  | succ d ih =>
    intro j hd
    rw [vX9_digest_123]; dsimp only; rw [k24]
    refine ⟨fun c => absurd c (nI_ge (by omega) (by omega)), fun _ => ?_⟩
    refine sX9_downBy hM hG hB (by omega) rfl ?_
    rintro _ rfl _ rfl
    have ih := ih (j + 1) (by omega)
    rw [foldk] at ih
    rw [nI_1]; exact ih
theorem lD_150 (hM : MIn σ g) (hG : Gok g) (hQ : MSn σ n Q) (h : ∀ σ', Fr MF σ σ' → ex (foldk (d_duck g Q n) (nd g) h0) σ') : ∃ fu : Nat, vX9_digest_150 post ex fu h0 (0 : Int32) σ := by
  have g1 := hG.1
  suffices L : ∀ (d j : Nat) (σ1 : Hp), j + d = nd g → Fr MF σ σ1 → vX9_digest_150 post ex (d + 1) (foldk (d_duck g Q n) j h0) (nI j) σ1 from ⟨nd g + 1, L (nd g) 0 σ (by omega) Fr.rf⟩
  intro d
  induction d with
  | zero =>
    intro j σ1 hd hF
    rw [vX9_digest_150]; dsimp only; rw [(hM.fr hF).1]
    refine ⟨fun _ => ?_, fun c => absurd (nI_le (by omega) (by omega)) c⟩
    rw [show j = nd g by omega]; exact h σ1 hF
  | succ d ih =>
    intro j σ1 hd hF
    rw [vX9_digest_150]; dsimp only; rw [(hM.fr hF).1]
    refine ⟨fun c => absurd c (nI_ge (by omega) (by omega)), fun _ => ?_⟩
    refine sX9_tellsDuck (hM.fr hF) hG (hQ.fr hF) (by omega) rfl (fun σ2 hF2 => ?_)
    rintro _ rfl
    have ih := ih (j + 1) σ2 (by omega) (hF.tr' hF2)
    rw [foldk] at ih
    rw [nI_1]; exact ih
theorem lD_173 (hM : MIn σ g) (hG : Gok g) (h15 : σ.1 71 15 = 0) (h : ∀ σ', Fr MF σ σ' → ex (foldk (d_shot g) (ns g) h0) σ') : ∃ fu : Nat, vX9_digest_173 post ex fu h0 (0 : Int32) σ := by
  have g1 := hG.2.2.2.2.1
  suffices L : ∀ (d j : Nat) (σ1 : Hp), j + d = ns g → Fr MF σ σ1 → vX9_digest_173 post ex (d + 1) (foldk (d_shot g) j h0) (nI j) σ1 from ⟨ns g + 1, L (ns g) 0 σ (by omega) Fr.rf⟩
  intro d
  induction d with
  | zero =>
    intro j σ1 hd hF
    rw [vX9_digest_173]; dsimp only; rw [(hM.fr hF).2.1]
    refine ⟨fun _ => ?_, fun c => absurd (nI_le (by omega) (by omega)) c⟩
    rw [show j = ns g by omega]; exact h σ1 hF
  | succ d ih =>
    intro j σ1 hd hF
    rw [vX9_digest_173]; dsimp only; rw [(hM.fr hF).2.1]
    refine ⟨fun c => absurd c (nI_ge (by omega) (by omega)), fun _ => ?_⟩
    refine sX9_tellsShot (hM.fr hF) hG (by rw [hF.i rfl]; exact h15) (by omega) rfl (fun σ2 hF2 => ?_)
    rintro _ rfl
    have ih := ih (j + 1) σ2 (by omega) (hF.tr' hF2)
    rw [foldk] at ih
    rw [nI_1]; exact ih
theorem lD_200 (hM : MIn σ g) (hG : Gok g) (hO : MOut σ g) (h : ex (foldk (fun j h => mx h (nI (gsum g j)).toInt64) 3 h0) σ) : ∃ fu : Nat, vX9_digest_200 post ex fu h0 (0 : Int32) σ := by
  suffices L : ∀ (d j : Nat), j + d = 3 → vX9_digest_200 post ex (d + 1) (foldk (fun j h => mx h (nI (gsum g j)).toInt64) j h0) (nI j) σ from ⟨3 + 1, L 3 0 (by omega)⟩
  intro d
  induction d with
  | zero =>
    intro j hd
    rw [vX9_digest_200]; dsimp only; rw [k3]
    refine ⟨fun _ => ?_, fun c => absurd (nI_le (by omega) (by omega)) c⟩
    rw [show j = 3 by omega]; exact h
  | succ d ih =>
    intro j hd
    rw [vX9_digest_200]; dsimp only; rw [k3]
    refine ⟨fun c => absurd c (nI_ge (by omega) (by omega)), fun _ => ?_⟩
    refine sX9_sumBy hM hG hO (by omega) rfl ?_
    rintro _ rfl _ rfl
    have ih := ih (j + 1) (by omega)
    rw [foldk] at ih
    rw [nI_1]; exact ih
theorem sM_digest (hT : MTd σ T) (hO : Tok T) (h : ∀ σ', Fr FM σ σ' → MTd σ' T → post (a_digest T) σ') : vX9_digest σ post := by
  have hG := gmT_ok hO
  refine lD_6 hT hO (fun σ1 hF1 hP1 => ?_)
  refine lD_33 hP1 (fun σ2 hF2 hP2 => ?_)
  refine sX9_lives hP2.min hG (fun σ3 hF3 hO3 => ?_)
  have hP3 := hP2.fr hF3
  refine lD_63 hP3.min hG hO3.2 ?_
  refine lD_123 hP3.min hG hO3.2 ?_
  refine lD_150 hP3.min hG hP3.1.2.2.2.2.2.1 (fun σ4 hF4 => ?_)
  have hP4 := hP3.fr hF4
  refine lD_173 hP4.min hG hP4.1.h15 (fun σ5 hF5 => ?_)
  have hP5 := hP4.fr hF5
  refine sX9_lives hP5.min hG (fun σ6 hF6 hO6 => ?_)
  have hP6 := hP5.fr hF6
  refine lD_200 hP6.min hG hO6 ?_
  refine sX9_runBy (w := 0) hP6.min hG hO6 (by omega) rfl ?_
  rintro _ rfl
  refine sX9_runBy (w := 1) hP6.min hG hO6 (by omega) rfl ?_
  rintro _ rfl
  refine sX9_easyNow hP6.min hG hO6 ?_
  rintro _ rfl
  refine sX9_safeNow hP6.min hG hO6 ?_
  rintro _ rfl
  refine sX9_mendBy (w := 0) hP6.min hG (by omega) rfl (fun σ7 hF7 => ?_)
  have hP7 := hP6.fr hF7
  rintro _ rfl
  refine sX9_mendBy (w := 1) hP7.min hG (by omega) rfl (fun σ8 hF8 => ?_)
  have hP8 := hP7.fr hF8
  rintro _ rfl
  refine sX9_spareBy hP8.min hG hP8.1.h15 (fun σ9 hF9 => ?_)
  have hP9 := hP8.fr hF9
  rintro _ rfl
  refine sX9_spareBy hP9.min hG hP9.1.h15 (fun σ10 hF10 => ?_)
  have hP10 := hP9.fr hF10
  rintro _ rfl
  refine sX9_neverNow hP10.min hG hP10.1.2.2.2.2.2.1 hP10.1.h15 (fun σ11 hF11 => ?_)
  have hP11 := hP10.fr hF11
  rintro _ rfl
  refine sX9_pullsNow hP11.min hG hP11.1.2.2.2.2.2.1 (fun σ12 hF12 _ => ?_)
  have hP12 := hP11.frp hF12
  rintro _ rfl
  refine sX9_askNow hP12.min hG hP12.1.2.2.2.2.2.1 (fun σ13 hF13 => ?_)
  have hP13 := hP12.frp hF13
  rintro _ rfl
  refine sX9_fairsOf (n := 9) (w := 0) hP13.min hG (hP13.1.1 2 (by omega)) (by omega) (by omega) rfl rfl (fun σ14 hF14 hS14 => ?_)
  have hP14 := hP13.frf hF14 hS14
  rintro _ rfl
  refine sX9_fairsOf (n := 9) (w := 1) hP14.min hG (hP14.1.1 2 (by omega)) (by omega) (by omega) rfl rfl (fun σ15 hF15 hS15 => ?_)
  have hP15 := hP14.frf hF15 hS15
  have hFM : Fr FM σ σ15 := (((((((((((((hF1.tr' hF2).tr' (MF_FM hF3)).tr' (MF_FM hF4)).tr' (MF_FM hF5)).tr' (MF_FM hF6)).tr' (MF_FM hF7)).tr' (MF_FM hF8)).tr' (MF_FM hF9)).tr' (MF_FM hF10)).tr' (MF_FM hF11)).tr' (MFp_FM hF12)).tr' (MFp_FM hF13)).tr' (MFf_FM hF14)).tr' (MFf_FM hF15)
  exact h σ15 hFM hP15.1
end ME
