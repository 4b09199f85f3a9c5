/-! ===== the class: the digest ===== -/
section CD
variable {σ : Hp} {T : Td} {post ex : Int64 → Hp → Prop} {h0 : Int64}
theorem sX8_mix {a b : Int64} (h : post (mx a b) σ) : vX8_mix a b σ post := h
theorem foldk4 (F : Nat → Int64 → Int64) (h : Int64) : foldk F 4 h = F 3 (F 2 (F 1 (F 0 h))) := rfl
theorem lC_digestTold_5 (hS : Cst σ T) (hO : Tok T) (h : ex (foldk (fun k h => mx h (a_count T (nI k)).toInt64) 8 h0) σ) : ∃ fu : Nat, vX8_digestTold_5 post ex fu h0 (0 : Int32) σ := by
  suffices L : ∀ (d j : Nat), j + d = 8 → vX8_digestTold_5 post ex (d + 1) (foldk (fun k h => mx h (a_count T (nI k)).toInt64) j h0) (nI j) σ from ⟨8 + 1, L 8 0 (by omega)⟩
  intro d
  induction d with
  | zero =>
    intro j hd
    have hj : j = 8 := by omega
    subst hj
    rw [vX8_digestTold_5]; dsimp only
    exact ⟨fun _ => h, fun c => absurd (show (7 : Int32) < nI 8 by decide) c⟩
  | succ d ih =>
    intro j hd
    have ih := ih (j + 1) (by omega)
    rw [foldk] at ih
    rw [vX8_digestTold_5]; dsimp only
    refine ⟨fun c => absurd c (by rw [k7, nI_lt2 (by omega) (by omega)]; omega), fun _ => ?_⟩
    refine sX8_tellCount hS hO ?_
    rintro _ rfl
    rw [nI_1 j]; exact ih
theorem lC_digestTold_33 (hS : Cst σ T) (h : ex (foldk (fun t h => mx h (fltI (tB T t) t (tn T t)).toInt64) 3 h0) σ) : ∃ fu : Nat, vX8_digestTold_33 post ex fu h0 (0 : Int32) σ := by
  suffices L : ∀ (d j : Nat), j + d = 3 → vX8_digestTold_33 post ex (d + 1) (foldk (fun t h => mx h (fltI (tB T t) t (tn T t)).toInt64) j h0) (nI j) σ from ⟨3 + 1, L 3 0 (by omega)⟩
  intro d
  induction d with
  | zero =>
    intro j hd
    have hj : j = 3 := by omega
    subst hj
    rw [vX8_digestTold_33]; dsimp only
    exact ⟨fun _ => h, fun c => absurd (show (3 : Int32) ≤ nI 3 by decide) c⟩
  | succ d ih =>
    intro j hd
    have ih := ih (j + 1) (by omega)
    rw [foldk] at ih
    rw [vX8_digestTold_33]; dsimp only
    refine ⟨fun c => absurd c (nI_ge (b := 3) (by omega) (by omega)), fun _ => ?_⟩
    rw [rt_tx j (by omega), (hS.1.2.2.1 j (by omega)).2.1]
    refine ⟨vp_in_nI (by omega) (by omega), (tx_fact j (by omega)).1, ?_⟩
    rintro _ rfl
    rw [nI_1 j]; exact ih
theorem lC_digestTold_89 (hS : Cst σ T) (hO : Tok T) {c : Nat} (hc : c < 3) (h : ex (foldk (fun p h => mx h (fI (who (gmT T) 11 c p)).toInt64) 12 h0) σ) : ∃ fu : Nat, vX8_digestTold_89 post ex (nI c) fu h0 (0 : Int32) σ := by
  suffices L : ∀ (d j : Nat), j + d = 12 → vX8_digestTold_89 post ex (nI c) (d + 1) (foldk (fun p h => mx h (fI (who (gmT T) 11 c p)).toInt64) j h0) (nI j) σ from ⟨12 + 1, L 12 0 (by omega)⟩
  intro d
  induction d with
  | zero =>
    intro j hd
    have hj : j = 12 := by omega
    subst hj
    rw [vX8_digestTold_89]; dsimp only
    exact ⟨fun _ => h, fun c => absurd (show (12 : Int32) ≤ nI 12 by decide) c⟩
  | succ d ih =>
    intro j hd
    have ih := ih (j + 1) (by omega)
    rw [foldk] at ih
    rw [vX8_digestTold_89]; dsimp only
    refine ⟨fun c => absurd c (nI_ge (b := 12) (by omega) (by omega)), fun _ => ?_⟩
    refine sX0_duckAt (Or.inl rfl) hS.st.2.2.2.1 (gmT_ok hO) hS.ri.2.2.2.2.2.2.1 (t := 10) (by omega) hc (by omega) rfl rfl rfl ?_
    rintro _ rfl
    rw [nI_1 j]; exact ih
theorem lC_digestTold_64 (hS : Cst σ T) (hO : Tok T) (h : ex (foldk (fun c h => d_sees (gmT T) c (mx h (gsp (gmT T) c).toInt64)) 3 h0) σ) : ∃ fu : Nat, vX8_digestTold_64 post ex fu h0 (0 : Int32) σ := by
  suffices L : ∀ (d j : Nat), j + d = 3 → vX8_digestTold_64 post ex (d + 1) (foldk (fun c h => d_sees (gmT T) c (mx h (gsp (gmT T) c).toInt64)) j h0) (nI j) σ from ⟨3 + 1, L 3 0 (by omega)⟩
  intro d
  induction d with
  | zero =>
    intro j hd
    have hj : j = 3 := by omega
    subst hj
    rw [vX8_digestTold_64]; dsimp only
    exact ⟨fun _ => h, fun c => absurd (show (3 : Int32) ≤ nI 3 by decide) c⟩
  | succ d ih =>
    intro j hd
    have ih := ih (j + 1) (by omega)
    rw [foldk] at ih
    rw [vX8_digestTold_64]; dsimp only
    refine ⟨fun c => absurd c (nI_ge (b := 3) (by omega) (by omega)), fun _ => ?_⟩
    rw [nI_c (by omega), hS.st.2.1 j (by omega)]
    refine ⟨vp_in_nI (by omega) (by omega), ?_⟩
    refine lC_digestTold_89 hS hO (by omega) ?_
    rintro _ rfl
    rw [nI_1 j]; exact ih
theorem lC_digestTold_130 (hS : Cst σ T) (hO : Tok T) (h : ex (foldk (fun t h => mx h (nI (gdn (gmT T) (t + 1))).toInt64) 24 h0) σ) : ∃ fu : Nat, vX8_digestTold_130 post ex fu h0 (0 : Int32) σ := by
  suffices L : ∀ (d j : Nat), j + d = 24 → vX8_digestTold_130 post ex (d + 1) (foldk (fun t h => mx h (nI (gdn (gmT T) (t + 1))).toInt64) j h0) (nI j) σ from ⟨24 + 1, L 24 0 (by omega)⟩
  intro d
  induction d with
  | zero =>
    intro j hd
    have hj : j = 24 := by omega
    subst hj
    rw [vX8_digestTold_130]; dsimp only
    exact ⟨fun _ => h, fun c => absurd (show (24 : Int32) ≤ nI 24 by decide) c⟩
  | succ d ih =>
    intro j hd
    have ih := ih (j + 1) (by omega)
    rw [foldk] at ih
    rw [vX8_digestTold_130]; dsimp only
    refine ⟨fun c => absurd c (nI_ge (b := 24) (by omega) (by omega)), fun _ => ?_⟩
    rw [nI_c (by omega)]
    refine ⟨vp_in_nI (by omega) (by omega), ?_⟩
    refine sJ6_bitCount (p := fun k => gst (gmT T) (j + 1) k == 2) (n := nd (gmT T)) (hS.rb j (by omega)).1 (gmT_ok hO).1 ?_
    rintro _ rfl
    rw [nI_1 j]; exact ih
theorem sX8_digestTold (hS : Cst σ T) (hO : Tok T) (h : post (d_down (gmT T) (d_chain (gmT T) (d_fault T (d_count T h0)))) σ) : vX8_digestTold h0 σ post :=
  lC_digestTold_5 hS hO (lC_digestTold_33 hS (lC_digestTold_64 hS hO (lC_digestTold_130 hS hO h)))
theorem lC_digestDuck_66 (hS : Cst σ T) (hO : Tok T) {k t : Nat} (hk : k < nd (gmT T)) (ht : t < 24) {x7 x8 : Int32} (h : ex (foldk (fun j h => mx h (nI (gat (gmT T) t k j)).toInt64) 3 h0) σ) : ∃ fu : Nat, vX8_digestDuck_66 post ex (nI k) x7 x8 (nI t) fu h0 (0 : Int32) σ := by
  suffices L : ∀ (d j : Nat), j + d = 3 → vX8_digestDuck_66 post ex (nI k) x7 x8 (nI t) (d + 1) (foldk (fun j h => mx h (nI (gat (gmT T) t k j)).toInt64) j h0) (nI j) σ from ⟨3 + 1, L 3 0 (by omega)⟩
  intro d
  induction d with
  | zero =>
    intro j hd
    have hj : j = 3 := by omega
    subst hj
    rw [vX8_digestDuck_66]; dsimp only
    exact ⟨fun _ => h, fun c => absurd (show (2 : Int32) < nI 3 by decide) c⟩
  | succ d ih =>
    intro j hd
    have ih := ih (j + 1) (by omega)
    rw [foldk] at ih
    rw [vX8_digestDuck_66]; dsimp only
    refine ⟨fun c => absurd c (by rw [k2, nI_lt2 (by omega) (by omega)]; omega), fun _ => ?_⟩
    refine sX2_tellDuckBehind (Or.inl rfl) (Or.inl rfl) (gmT_ok hO) hS.st hS.ri hS.rb ht hk (by omega : j < 3) rfl rfl rfl ?_
    rintro _ rfl
    rw [nI_1 j]; exact ih
theorem lC_digestDuck_6 (hS : Cst σ T) (hO : Tok T) {k : Nat} (hk : k < nd (gmT T)) (h : ex (foldk (fun j h => mx h (nI (gD (gmT T) k j)).toInt64) 4 h0) σ) : ∃ fu : Nat, vX8_digestDuck_6 post ex (nI k) fu h0 (0 : Int32) σ := by
  suffices L : ∀ (d j : Nat), j + d = 4 → vX8_digestDuck_6 post ex (nI k) (d + 1) (foldk (fun j h => mx h (nI (gD (gmT T) k j)).toInt64) j h0) (nI j) σ from ⟨4 + 1, L 4 0 (by omega)⟩
  intro d
  induction d with
  | zero =>
    intro j hd
    have hj : j = 4 := by omega
    subst hj
    rw [vX8_digestDuck_6]; dsimp only
    exact ⟨fun _ => h, fun c => absurd (show (3 : Int32) < nI 4 by decide) c⟩
  | succ d ih =>
    intro j hd
    have ih := ih (j + 1) (by omega)
    rw [foldk] at ih
    rw [vX8_digestDuck_6]; dsimp only
    refine ⟨fun c => absurd c (by rw [k3, nI_lt2 (by omega) (by omega)]; omega), fun _ => ?_⟩
    refine sX6_tellDuck hS.st (gmT_ok hO) hk (by omega : j < 4) rfl rfl ?_
    rintro _ rfl
    rw [nI_1 j]; exact ih
def dtN (j : Nat) : Nat := if j = 0 then 0 else if j = 1 then 6 else if j = 2 then 13 else 23
theorem dtk_N : ∀ j, j < 4 → dtk j = nI (dtN j) ∧ dtN j < 24 := by decide
theorem lC_digestDuck_49 (hS : Cst σ T) (hO : Tok T) {k : Nat} (hk : k < nd (gmT T)) (h : ex (foldk (fun j h => d_tick (gmT T) (dtN j) k h) 4 h0) σ) : ∃ fu : Nat, vX8_digestDuck_49 post ex (nI k) 4 fu h0 (0 : Int32) σ := by
  suffices L : ∀ (d j : Nat), j + d = 4 → vX8_digestDuck_49 post ex (nI k) 4 (d + 1) (foldk (fun j h => d_tick (gmT T) (dtN j) k h) j h0) (nI j) σ from ⟨4 + 1, L 4 0 (by omega)⟩
  intro d
  induction d with
  | zero =>
    intro j hd
    have hj : j = 4 := by omega
    subst hj
    rw [vX8_digestDuck_49]; dsimp only
    exact ⟨fun _ => h, fun c => absurd (show (4 : Int32) ≤ nI 4 by decide) c⟩
  | succ d ih =>
    intro j hd
    have ih := ih (j + 1) (by omega)
    rw [foldk] at ih
    rw [vX8_digestDuck_49]; dsimp only
    refine ⟨fun c => absurd c (nI_ge (b := 4) (by omega) (by omega)), fun _ => ?_⟩
    obtain ⟨e1, e2⟩ := dtk_N j (by omega)
    rw [nI_c (by omega), e1]
    refine ⟨vp_in_nI (by omega) (by omega), ?_⟩
    rintro _ rfl
    refine lC_digestDuck_66 hS hO hk e2 ?_
    rintro _ rfl
    rw [nI_1 j]; exact ih
theorem d_duck_eq {g : Gm} {Q : Nat → Nat → Nat} {n k : Nat} {h : Int64} : d_duck g Q n k h = mx (foldk (fun j h => d_tick g (dtN j) k h) 4 (foldk (fun j h => mx h (nI (gD g k j)).toInt64) 4 h)) (gkb g Q n k).toInt64 := by
  unfold d_duck
  rw [foldk4 (fun j h => d_tick g (dtN j) k h)]
  rw [show dtN 3 = 23 from rfl, show dtN 2 = 13 from rfl, show dtN 1 = 6 from rfl, show dtN 0 = 0 from rfl]
theorem sX8_digestDuck (hS : Cst σ T) (hO : Tok T) {k : Nat} {a : Int32} (hk : k < nd (gmT T)) (ha : a = nI k) (h : ∀ σ', Fr CFx σ σ' → post (d_duck (gmT T) (tQ T) (tnq T) k h0) σ') : vX8_digestDuck h0 a σ post := by
  subst ha
  refine lC_digestDuck_6 hS hO hk (lC_digestDuck_49 hS hO hk ?_)
  refine sX8_kindsThatMightBe hS hO hk rfl (fun σ2 hF2 => sX8_mix ?_)
  have hb := h σ2 hF2
  rw [d_duck_eq] at hb
  exact hb
theorem lC_digestShot_42 (hS : Cst σ T) (hO : Tok T) {i : Nat} (hi : i < ns (gmT T)) (h : ex (foldk (fun j h => mx h (ghs (gmT T) i j).toInt64) 3 h0) σ) : ∃ fu : Nat, vX8_digestShot_42 post ex (nI i) fu h0 (0 : Int32) σ := by
  suffices L : ∀ (d j : Nat), j + d = 3 → vX8_digestShot_42 post ex (nI i) (d + 1) (foldk (fun j h => mx h (ghs (gmT T) i j).toInt64) j h0) (nI j) σ from ⟨3 + 1, L 3 0 (by omega)⟩
  intro d
  induction d with
  | zero =>
    intro j hd
    have hj : j = 3 := by omega
    subst hj
    rw [vX8_digestShot_42]; dsimp only
    exact ⟨fun _ => h, fun c => absurd (show (2 : Int32) < nI 3 by decide) c⟩
  | succ d ih =>
    intro j hd
    have ih := ih (j + 1) (by omega)
    rw [foldk] at ih
    rw [vX8_digestShot_42]; dsimp only
    refine ⟨fun c => absurd c (by rw [k2, nI_lt2 (by omega) (by omega)]; omega), fun _ => ?_⟩
    refine sX2_tellOutcome (Or.inl rfl) (gmT_ok hO) hS.ri hS.rs hi (by omega : j < 3) rfl rfl ?_
    rintro _ rfl
    rw [nI_1 j]; exact ih
theorem lC_digestShot_6 (hS : Cst σ T) (hO : Tok T) {i : Nat} (hi : i < ns (gmT T)) (h : ex (foldk (fun j h => mx h (nI (gS (gmT T) i j)).toInt64) 3 h0) σ) : ∃ fu : Nat, vX8_digestShot_6 post ex (nI i) fu h0 (0 : Int32) σ := by
  suffices L : ∀ (d j : Nat), j + d = 3 → vX8_digestShot_6 post ex (nI i) (d + 1) (foldk (fun j h => mx h (nI (gS (gmT T) i j)).toInt64) j h0) (nI j) σ from ⟨3 + 1, L 3 0 (by omega)⟩
  intro d
  induction d with
  | zero =>
    intro j hd
    have hj : j = 3 := by omega
    subst hj
    rw [vX8_digestShot_6]; dsimp only
    exact ⟨fun _ => h, fun c => absurd (show (2 : Int32) < nI 3 by decide) c⟩
  | succ d ih =>
    intro j hd
    have ih := ih (j + 1) (by omega)
    rw [foldk] at ih
    rw [vX8_digestShot_6]; dsimp only
    refine ⟨fun c => absurd c (by rw [k2, nI_lt2 (by omega) (by omega)]; omega), fun _ => ?_⟩
    refine sX5_tellShot hS.ri (gmT_ok hO) hi (by omega : j < 3) rfl rfl ?_
    rintro _ rfl
    rw [nI_1 j]; exact ih
theorem CHc.fx {g : Gm} {σ' : Hp} (h : CHc σ g) (hF : Fr CFx σ σ') : CHc σ' g := by unfold CHc; rw [hF.r (fun b => rfl)]; exact h
theorem sX8_mixFound {w m : Int32} (hW : CWm σ w m) (h : post (mx (mx h0 w.toInt64) m.toInt64) σ) : vX8_mixFound h0 σ post := by
  unfold vX8_mixFound
  rw [hW.1]
  refine sX8_mix ?_
  rw [hW.2]
  exact sX8_mix h
theorem sX8_digestShot (hS : Cst σ T) (hO : Tok T) (hc : CHc σ (gmT T)) {i : Nat} {a : Int32} (hi : i < ns (gmT T)) (ha : a = nI i) (h : ∀ σ', Fr CFx σ σ' → post (d_shot (gmT T) i h0) σ') : vX8_digestShot h0 a σ post := by
  subst ha
  refine lC_digestShot_6 hS hO hi (lC_digestShot_42 hS hO hi ?_)
  refine sX8_seekAim hS hO hi rfl (fun σ2 hF2 hW2 => sX8_mixFound hW2 ?_)
  have hS2 := hS.fx hF2
  refine sX8_seekFire hS2 hO hi rfl (fun σ3 hF3 hW3 => sX8_mixFound hW3 ?_)
  have hS3 := hS2.fx hF3
  have hc3 := (hc.fx hF2).fx hF3
  refine sX8_chanceLearned (c := 5) (w := 0) hS3 hO hc3 (by omega) hi (by omega) rfl rfl rfl (sX8_mix ?_)
  refine sX8_chanceLearned (c := 5) (w := 1) hS3 hO hc3 (by omega) hi (by omega) rfl rfl rfl (sX8_mix ?_)
  have hb := h σ3 (hF2.tr' hF3)
  unfold d_shot at hb
  exact hb
theorem lC_digestSums_5 (hS : Cst σ T) (hO : Tok T) (h : ex (foldk (fun j h => mx h (nI (gsum (gmT T) j)).toInt64) 3 h0) σ) : ∃ fu : Nat, vX8_digestSums_5 post ex fu h0 (0 : Int32) σ := by
  suffices L : ∀ (d j : Nat), j + d = 3 → vX8_digestSums_5 post ex (d + 1) (foldk (fun j h => mx h (nI (gsum (gmT T) j)).toInt64) j h0) (nI j) σ from ⟨3 + 1, L 3 0 (by omega)⟩
  intro d
  induction d with
  | zero =>
    intro j hd
    have hj : j = 3 := by omega
    subst hj
    rw [vX8_digestSums_5]; dsimp only
    exact ⟨fun _ => h, fun c => absurd (show (2 : Int32) < nI 3 by decide) c⟩
  | succ d ih =>
    intro j hd
    have ih := ih (j + 1) (by omega)
    rw [foldk] at ih
    rw [vX8_digestSums_5]; dsimp only
    refine ⟨fun c => absurd c (by rw [k2, nI_lt2 (by omega) (by omega)]; omega), fun _ => ?_⟩
    refine sX2_tellSum (Or.inl rfl) (gmT_ok hO) hS.sh hS.rs (by omega : j < 3) rfl ?_
    rintro _ rfl
    rw [nI_1 j]; exact ih
theorem sX8_digestSums (hS : Cst σ T) (hO : Tok T) (h : ∀ σ', Fr CFx σ σ' → post (d_sums (gmT T) h0) σ') : vX8_digestSums h0 σ post := by
  refine lC_digestSums_5 hS hO ?_
  refine sX8_seekRun hS hO (fun σ2 hF2 hW2 => ?_)
  have hS2 := hS.fx hF2
  rw [hW2.2]
  refine sX8_mix ?_
  rw [hW2.1]
  refine sX8_mix ?_
  refine sX8_easiestDuck hS2 hO (fun σ3 hF3 => sX8_mix ?_)
  refine sX8_safeDucks (hS2.fx hF3) hO (sX8_mix ?_)
  have hb := h σ3 (hF2.tr' hF3)
  unfold d_sums at hb
  exact hb
theorem sX8_digestPlans (hS : Cst σ T) (hO : Tok T) (h : ∀ σ', Fr CFx σ σ' → post (d_plans (gmT T) (tQ T) (tnq T) h0) σ') : vX8_digestPlans h0 σ post := by
  have n8 : gne (gmT T) ≤ 8 := hS.ev.2.1
  refine sX8_seekMend hS hO (fun σ2 hF2 hW2 => sX8_mixFound hW2 ?_)
  have hS2 := hS.fx hF2
  refine sX8_eventsToSpare hS2 hO (fun σ3 hF3 => ?_)
  have hS3 := hS2.fx hF3
  refine sX8_sparedOf n8 (Or.inl rfl) (sX8_mix ?_)
  refine sX8_sparedOf n8 (Or.inr (Or.inl rfl)) (sX8_mix ?_)
  refine sX8_eventsThatNeverWere hS3 hO (fun σ4 hF4 => ?_)
  have hS4 := hS3.fx hF4
  refine sX8_mix ?_
  refine sX8_pullsThatMightBe hS4 hO (fun σ5 hF5 _ => ?_)
  have hS5 := hS4.fx hF5
  refine sX8_mix ?_
  refine sX8_tickToAsk hS5 hO (fun σ6 hF6 => ?_)
  have hS6 := hS5.fx hF6
  refine sX8_mix ?_
  refine sX8_tryFair (n := 9) hS6 hO (by omega) rfl (fun σ7 hF7 h3 hR => ?_)
  have hG := (gmT_ok hO).fr (n := 9) (by omega) (7 : Int32)
  refine sX2_tellSum (w := 0) (Or.inr rfl) hG h3 hR (by omega) rfl (sX8_mix ?_)
  refine sX2_tellSum (w := 1) (Or.inr rfl) hG h3 hR (by omega) rfl (sX8_mix ?_)
  have hb := h σ7 (((((hF2.tr' hF3).tr' hF4).tr' hF5).tr' hF6).tr' hF7)
  unfold d_plans at hb
  exact hb
theorem lC_digest_44 {σ2 : Hp} (hS2 : Cst σ2 T) (hO : Tok T) (hc2 : CHc σ2 (gmT T)) {y : Int64} {σ3 : Hp} (hF3 : Fr CFx σ2 σ3) (h : ∀ σ', Fr CFx σ2 σ' → post (d_plans (gmT T) (tQ T) (tnq T) (d_sums (gmT T) (foldk (d_shot (gmT T)) (ns (gmT T)) y))) σ') : ∃ fu : Nat, vX8_digest_44 post (fun z1_9 σ_10 => (vX8_digestSums z1_9 σ_10 (fun r_12 σ_11 => (vX8_digestPlans r_12 σ_11 (fun r_14 σ_13 => post r_14 σ_13))))) fu y (0 : Int32) σ3 := by
  have g5 := (gmT_ok hO).2.2.2.2.1
  suffices L2 : ∀ (d i : Nat) (σ4 : Hp) (z : Int64), i + d = ns (gmT T) → Fr CFx σ2 σ4 → z = foldk (d_shot (gmT T)) i y → vX8_digest_44 post (fun z1_9 σ_10 => (vX8_digestSums z1_9 σ_10 (fun r_12 σ_11 => (vX8_digestPlans r_12 σ_11 (fun r_14 σ_13 => post r_14 σ_13))))) (d + 1) z (nI i) σ4 from ⟨ns (gmT T) + 1, L2 _ 0 σ3 y (by omega) hF3 (by rw [foldk])⟩
  intro d
  induction d with
  | zero =>
    intro i σ4 z hd hF4 hz
    have hS4 := hS2.fx hF4
    rw [vX8_digest_44]; dsimp only; rw [hS4.sh]
    refine ⟨fun _ => ?_, fun c => absurd (nI_le (by omega) (by omega)) c⟩
    have hi : i = ns (gmT T) := by omega
    rw [hi] at hz
    rw [← hz] at h
    refine sX8_digestSums hS4 hO (fun σ5 hF5 => ?_)
    have hS5 := hS4.fx hF5
    refine sX8_digestPlans hS5 hO (fun σ6 hF6 => ?_)
    exact h σ6 ((hF4.tr' hF5).tr' hF6)
  | succ d ih =>
    intro i σ4 z hd hF4 hz
    have hS4 := hS2.fx hF4
    rw [vX8_digest_44]; dsimp only; rw [hS4.sh]
    refine ⟨fun c => absurd c (nI_ge (by omega) (by omega)), fun _ => ?_⟩
    refine sX8_digestShot hS4 hO (hc2.fx hF4) (by omega) rfl (fun σ5 hF5 => ?_)
    rintro _ rfl
    rw [nI_1 i]
    exact ih (i + 1) σ5 _ (by omega) (hF4.tr' hF5) (by rw [foldk, hz])
theorem lC_digest_18 {σ2 : Hp} (hS2 : Cst σ2 T) (hO : Tok T) (hc2 : CHc σ2 (gmT T)) {x : Int64} (h : ∀ σ', Fr CFx σ2 σ' → post (d_plans (gmT T) (tQ T) (tnq T) (d_sums (gmT T) (foldk (d_shot (gmT T)) (ns (gmT T)) (foldk (d_duck (gmT T) (tQ T) (tnq T)) (nd (gmT T)) x)))) σ') : ∃ fu : Nat, vX8_digest_18 post (fun z1_7 σ_8 => (∃ fu : Nat, vX8_digest_44 post (fun z1_9 σ_10 => (vX8_digestSums z1_9 σ_10 (fun r_12 σ_11 => (vX8_digestPlans r_12 σ_11 (fun r_14 σ_13 => post r_14 σ_13))))) fu z1_7 (0 : Int32) σ_8)) fu x (0 : Int32) σ2 := by
  have g1 := (gmT_ok hO).1
  suffices L : ∀ (d j : Nat) (σ3 : Hp) (z : Int64), j + d = nd (gmT T) → Fr CFx σ2 σ3 → z = foldk (d_duck (gmT T) (tQ T) (tnq T)) j x → vX8_digest_18 post (fun z1_7 σ_8 => (∃ fu : Nat, vX8_digest_44 post (fun z1_9 σ_10 => (vX8_digestSums z1_9 σ_10 (fun r_12 σ_11 => (vX8_digestPlans r_12 σ_11 (fun r_14 σ_13 => post r_14 σ_13))))) fu z1_7 (0 : Int32) σ_8)) (d + 1) z (nI j) σ3 from ⟨nd (gmT T) + 1, L _ 0 σ2 x (by omega) Fr.rf (by rw [foldk])⟩
  intro d
  induction d with
  | zero =>
    intro j σ3 z hd hF3 hz
    have hS3 := hS2.fx hF3
    rw [vX8_digest_18]; dsimp only; rw [hS3.dk]
    refine ⟨fun _ => ?_, fun c => absurd (nI_le (by omega) (by omega)) c⟩
    have hj : j = nd (gmT T) := by omega
    rw [hj] at hz
    rw [← hz] at h
    exact lC_digest_44 hS2 hO hc2 hF3 h
  | succ d ih =>
    intro j σ3 z hd hF3 hz
    have hS3 := hS2.fx hF3
    rw [vX8_digest_18]; dsimp only; rw [hS3.dk]
    refine ⟨fun c => absurd c (nI_ge (by omega) (by omega)), fun _ => ?_⟩
    refine sX8_digestDuck hS3 hO (by omega) rfl (fun σ4 hF4 => ?_)
    rintro _ rfl
    rw [nI_1 j]
    exact ih (j + 1) σ4 _ (by omega) (hF3.tr' hF4) (by rw [foldk, hz])
theorem a_digest_eq (T : Td) {x : Int64} (hx : x = d_down (gmT T) (d_chain (gmT T) (d_fault T (d_count T 17)))) : a_digest T = d_plans (gmT T) (tQ T) (tnq T) (d_sums (gmT T) (foldk (d_shot (gmT T)) (ns (gmT T)) (foldk (d_duck (gmT T) (tQ T) (tnq T)) (nd (gmT T)) x))) := by
  unfold a_digest; rw [hx]
theorem sX8_digestTold' (hS : Cst σ T) (hO : Tok T) (h : ∀ x, x = d_down (gmT T) (d_chain (gmT T) (d_fault T (d_count T h0))) → post x σ) : vX8_digestTold h0 σ post := sX8_digestTold hS hO (h _ rfl)
theorem sC_digest (hI : CI σ T) (hO : Tok T) (h : ∀ σ', Cls σ σ' → CI σ' T → post (a_digest T) σ') : vX8_digest σ post := by
  refine sC_settle hI hO (fun σ1 hF1 hS1 => ?_)
  refine sX8_learnChances hS1 hO (fun σ2 hF2 hS2 hc2 => ?_)
  refine sX8_digestTold' hS2 hO (fun x hx => ?_)
  rw [a_digest_eq T hx] at h
  exact lC_digest_18 hS2 hO hc2 (fun σ' hF => h σ' ((hF1.tr hF2).tr (Cls.fx hF)) (hS2.fx hF).ci)
end CD
