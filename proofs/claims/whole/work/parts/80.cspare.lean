/-! ===== the class: events to spare ===== -/
def ntz62 (x0 x1 : Int32) : Int32 := if x0 ≤ (4 : Int32) then x1 + ((x0).toUInt32 >>> (((1 : Int32)).toUInt32 &&& Int32.toUInt32 31)).toInt32 else (x1 + (2 : Int32)) + ((((x0).toUInt32 >>> (((2 : Int32)).toUInt32 &&& Int32.toUInt32 31)).toInt32).toUInt32 >>> (((1 : Int32)).toUInt32 &&& Int32.toUInt32 31)).toInt32
def ntz48 (x0 x1 : Int32) : Int32 := if x0 ≤ (16 : Int32) then ntz62 x0 x1 else ntz62 ((x0).toUInt32 >>> (((4 : Int32)).toUInt32 &&& Int32.toUInt32 31)).toInt32 (x1 + (4 : Int32))
def ntz34 (x0 x1 : Int32) : Int32 := if x0 ≤ (256 : Int32) then ntz48 x0 x1 else ntz48 ((x0).toUInt32 >>> (((8 : Int32)).toUInt32 &&& Int32.toUInt32 31)).toInt32 (x1 + (8 : Int32))
def ntzW (x0 : Int32) : Int32 := if 0 < x0 then (if x0 ≤ (65536 : Int32) then ntz34 x0 1 else ntz34 ((x0).toUInt32 >>> (((16 : Int32)).toUInt32 &&& Int32.toUInt32 31)).toInt32 ((1 : Int32) + (16 : Int32))) else x0 &&& (32 : Int32)
def ntzV (p : Int32) : Int32 := ntzW ((p ^^^ (-1 : Int32)) &&& (p - (1 : Int32)))
section NT
variable {σ : Hp} {post : Int32 → Hp → Prop}
theorem s_ntz62 {x0 x1 : Int32} (h : post (ntz62 x0 x1) σ) : vJ6_numberOfTrailingZeros_0f7a4_62 post x0 x1 σ := by
  unfold vJ6_numberOfTrailingZeros_0f7a4_62
  unfold ntz62 at h
  refine ⟨fun c => ?_, fun c => ?_⟩
  · rw [if_pos c] at h; exact h
  · rw [if_neg c] at h
    rintro _ rfl _ rfl; exact h
theorem s_ntz34 {x0 x1 : Int32} (h : post (ntz34 x0 x1) σ) : vJ6_numberOfTrailingZeros_0f7a4_34 post x0 x1 σ := by
  unfold vJ6_numberOfTrailingZeros_0f7a4_34
  unfold ntz34 at h
  refine ⟨fun c => ?_, fun c => ?_⟩
  · rw [if_pos c] at h
    unfold ntz48 at h
    refine ⟨fun c => ?_, fun c => ?_⟩
    · rw [if_pos c] at h; exact s_ntz62 h
    · rw [if_neg c] at h
      rintro _ rfl _ rfl; exact s_ntz62 h
  · rw [if_neg c] at h
    rintro _ rfl _ rfl
    unfold ntz48 at h
    refine ⟨fun c => ?_, fun c => ?_⟩
    · rw [if_pos c] at h; exact s_ntz62 h
    · rw [if_neg c] at h
      rintro _ rfl _ rfl; exact s_ntz62 h
theorem sJ6_ntz {p : Int32} (h : post (ntzV p) σ) : vJ6_numberOfTrailingZeros_0f7a4 p σ post := by
  unfold vJ6_numberOfTrailingZeros_0f7a4
  unfold ntzV ntzW at h
  rintro _ rfl
  refine ⟨fun c => ?_, fun c => ?_⟩
  · rw [if_pos c] at h
    refine ⟨fun c => ?_, fun c => ?_⟩
    · rw [if_pos c] at h; exact s_ntz34 h
    · rw [if_neg c] at h
      rintro _ rfl _ rfl; exact s_ntz34 h
  · rw [if_neg c] at h; exact h
theorem sJ6_bcV {x : Int32} (h : post (bcV x) σ) : vJ6_bitCount_0f7a4 x σ post := by
  rintro _ rfl _ rfl _ rfl _ rfl _ rfl
  exact h
theorem on_one : ∀ a, a < 8 → ¬ on a = -1 ∧ bcV (on a) = 1 ∧ ntzV (on a) = nI a := by decide +kernel
theorem on_two : ∀ a, a < 8 → ∀ b, b < 8 → a < b → ¬ (on a ||| on b) = -1 ∧ bcV (on a ||| on b) = 2 ∧ ntzV (on a ||| on b) = nI a ∧ ntzV ((on a ||| on b) &&& ((on a ||| on b) - (1 : Int32))) = nI b := by decide +kernel
end NT
section CE
variable {σ : Hp} {T : Td} {post : Int32 → Hp → Prop} {postv : Hp → Prop}
theorem Cst.ev (h : Cst σ T) : CEv σ (tne T) (tE T) := h.1.1.2.2.2.1
/-- a round under chosen events -/
theorem sX8_tryEvents (hS : Cst σ T) (hO : Tok T) {ch : Nat → Bool} {x : Int32} (hx : ∀ e, e < tne T → ch e = bt x e) (h : ∀ σ', Fr CFx σ σ' → σ'.1 36 3 = nI (ns (gmT T)) → CRs σ' 35 (gCh (gmT T) ch) (sim (gCh (gmT T) ch) 24) → CRb σ' 35 (gCh (gmT T) ch) 24 → postv σ') : vX8_tryEvents x σ postv := by
  have hG := gmT_ok hO
  unfold vX8_tryEvents
  refine sX2_takeFrom hS hO (fun σ1 hF1 hI1 => ?_)
  have hSt : CSt σ1 (gmT T) := (hS.fx hF1).st
  have hEv : CEv σ1 (gne (gmT T)) (gE (gmT T)) := (hS.fx hF1).ev
  have hx : ∀ e, e < gne (gmT T) → ch e = bt x e := hx
  generalize gmT T = g at *
  have hSt' : CSt σ1 (gCh g ch) := hSt
  refine sX0_go (g := gCh g ch) (Or.inr rfl) hSt' (hG.ch ch) hEv hx (fun σ2 hF2 hCo => ?_)
  rintro σ3 hS3
  have hF3 : Fr CFx σ2 σ3 := by rw [hS3]; exact Fr.wN rfl
  have e1 : σ3.1 = σ2.1 := by rw [hS3]; rfl
  have r : ∀ a, a < 20 ∨ 22 < a → σ3.1 a = σ1.1 a := fun a ha => by rw [e1]; exact hF2.r (fun b => CFo_f (by omega))
  have hI3 : CRi σ3 35 19 (gCh g ch) := by
    obtain ⟨a1, a2, a3, a4, a5, a6, a7, a8, a9⟩ := hI1
    refine ⟨?_, fun i hi => ?_, fun k hk => ?_, ?_, ?_, ?_, hCo.eq (by rw [e1]) (by rw [e1]) (by rw [e1]), ?_, fun k hk => ?_⟩
    · rw [r _ (by omega)]; exact a1
    · rw [r _ (by omega), r _ (by omega), r _ (by omega)]; exact a2 i hi
    · rw [r _ (by omega)]; exact a3 k hk
    · rw [r _ (by omega)]; exact a4
    · rw [r _ (by omega)]; exact a5
    · rw [hS3, wN_at, if_pos rfl]
    · unfold CFm at a8 ⊢; rw [r _ (by omega)]; exact a8
    · rw [r _ (by omega)]; exact a9 k hk
  refine tryStep (Or.inr rfl) (hG.ch ch) hI3 (fun σ4 hF4 hI4 _ hS4 hB4 => ?_)
  exact h σ4 (((hF1.tr' (hF2.up CFo_CFx)).tr' hF3).tr' (hF4.up CFr_CFx)) hI4.1 hS4 hB4
theorem bt_less {n : Nat} (hn : n ≤ 8) {x : Int32} {e : Nat} (he : e < n) : (!bt x e) = bt ((((1 : Int32) <<< (nI n &&& 31)) - (1 : Int32)) &&& (x ^^^ (-1 : Int32))) e := by
  rw [b_and, bt_all (by omega) e (by omega), b_xor, b_m1 e (by omega), decide_eq_true he, Bool.true_and]
  cases bt x e <;> rfl
theorem sX8_allHitWithout (hS : Cst σ T) (hO : Tok T) {x : Int32} (h1 : ∀ σ', Fr CFx σ σ' → spb (gmT T) x = true → post 1 σ') (h0 : ∀ σ', Fr CFx σ σ' → spb (gmT T) x = false → post 0 σ') : vX8_allHitWithout x σ post := by
  have hG := gmT_ok hO
  have g5 := hG.2.2.2.2.1
  have n8 := hS.ev.2.1
  unfold vX8_allHitWithout vX1_all
  rw [hS.ev.1]
  refine sX8_tryEvents hS hO (ch := fun e => !bt x e) (fun e he => bt_less n8 he) (fun σ1 hF h36 hR hB => ?_)
  have h6 := hR.2.2.2.2.2
  have key : (σ1.1 35 12 = ((1 : Int32) <<< (σ1.1 36 3 &&& 31)) - (1 : Int32)) ↔ spb (gmT T) x = true := by
    rw [h36]
    generalize gmT T = g at *
    have hs : spb g x = true ↔ ∀ i, i < ns g → (gfi (gCh g (fun e => !bt x e)) i != 0) = true := by
      unfold spb
      rw [beq_iff_eq]
      exact fb_ct_all
    rw [hs]
    constructor
    · intro q i hi
      have := h6 i (by omega)
      rw [q, bt_all g5 i (by omega), decide_eq_true hi, show (decide (i < ns (gCh g (fun e => !bt x e)))) = true from decide_eq_true hi, Bool.true_and] at this
      exact this.symm
    · intro q
      refine b_ext (fun i hi => ?_)
      rw [h6 i hi, bt_all g5 i hi]
      by_cases e : i < ns g
      · rw [show (decide (i < ns (gCh g (fun e => !bt x e)))) = true from decide_eq_true e, decide_eq_true e, Bool.true_and]
        exact q i e
      · rw [show (decide (i < ns (gCh g (fun e => !bt x e)))) = false from decide_eq_false e, decide_eq_false e, Bool.false_and]
  refine ⟨fun q => h1 σ1 hF (key.mp q), fun q => h0 σ1 hF ?_⟩
  cases e : spb (gmT T) x with
  | false => rfl
  | true => exact absurd (key.mpr e) q
/-- as bits -/
def gspx (g : Gm) : Int32 := if spb g 0 then 0 else if sp1 g < gne g then on (sp1 g) else if sp3 g < gne g then on (sp3 g) ||| on (sp2 g (sp3 g)) else -1
theorem sX8_eventsToSpare (hS : Cst σ T) (hO : Tok T) (h : ∀ σ', Fr CFx σ σ' → post (gspx (gmT T)) σ') : vX8_eventsToSpare σ post := by
  have g9 := hS.ev.2.1
  have hM' : ∀ σ', Fr CFx σ σ' → Cst σ' T ∧ σ'.1 10 4 = nI (gne (gmT T)) := fun σ' hF => ⟨hS.fx hF, (hS.fx hF).ev.1⟩
  have g9 : gne (gmT T) ≤ 8 := g9
  have hSp : ∀ (σ' : Hp) (x : Int32) (post : Int32 → Hp → Prop), Fr CFx σ σ' → (∀ σ2, Fr CFx σ' σ2 → spb (gmT T) x = true → post 1 σ2) → (∀ σ2, Fr CFx σ' σ2 → spb (gmT T) x = false → post 0 σ2) → vX8_allHitWithout x σ' post := fun σ' x post hF h1 h0 => sX8_allHitWithout (hS.fx hF) hO h1 h0
  generalize gmT T = g at *
  have L3 : ∀ (a : Nat) (ex : Hp → Prop), spb g 0 = false → ¬ sp1 g < gne g → (∀ a', a' < a → ¬ sp2 g a' < gne g) → a < gne g → (∀ σ', Fr CFx σ σ' → ¬ sp2 g a < gne g → ex σ') → ∀ (d b : Nat) (σ1 : Hp), b + d = gne g → a < b → Fr CFx σ σ1 → (∀ b', a < b' → b' < b → spb g (on a ||| on b') = false) → vX8_eventsToSpare_60 post ex (nI a) (d + 1) (nI b) σ1 := by
    intro a ex s0 s1 s2 ha hex d
    induction d with
    | zero =>
      intro b σ1 hd hab hF hb
      obtain ⟨-, h13⟩ := hM' σ1 hF
      rw [vX8_eventsToSpare_60]; dsimp only; rw [h13]
      refine ⟨fun _ => hex σ1 hF ?_, fun c => absurd (nI_le (by omega) (by omega)) c⟩
      unfold sp2
      rw [first_none (fun b' hb' => ?_)]
      · omega
      · by_cases e : a < b'
        · rw [hb b' e (by omega), Bool.and_false]
        · rw [decide_eq_false e, Bool.false_and]
    | succ d ih =>
      intro b σ1 hd hab hF hb
      obtain ⟨-, h13⟩ := hM' σ1 hF
      rw [vX8_eventsToSpare_60]; dsimp only; rw [h13]
      refine ⟨fun c => absurd c (nI_ge (by omega) (by omega)), fun _ => ?_⟩
      refine hSp σ1 _ _ hF (fun σ2 hF2 hs => ?_) (fun σ2 hF2 hs => ?_)
      · refine ⟨fun q => absurd q (by decide), fun _ => ?_⟩
        have hs : spb g (on a ||| on b) = true := hs
        have e2 : sp2 g a = b := first_at (by omega) (by rw [hs, decide_eq_true hab]; rfl) (fun b' hb' => by
          by_cases e : a < b'
          · rw [hb b' e (by omega), Bool.and_false]
          · rw [decide_eq_false e, Bool.false_and])
        have e3 : sp3 g = a := first_at ha (by rw [e2, decide_eq_true (by omega)]) (fun a' ha' => decide_eq_false (s2 a' ha'))
        have hend := h σ2 (hF.tr' hF2)
        unfold gspx at hend
        rw [s0, if_neg (by decide), if_neg s1, e3, if_pos ha, e2] at hend
        exact hend
      · refine ⟨fun _ => ?_, fun q => absurd rfl q⟩
        rintro _ rfl
        rw [nI_1]
        refine ih (b + 1) σ2 (by omega) (by omega) (hF.tr' hF2) (fun b' h1 h2 => ?_)
        by_cases e : b' = b
        · subst e; exact hs
        · exact hb b' h1 (by omega)
  have L2 : spb g 0 = false → ¬ sp1 g < gne g → ∀ (d a : Nat) (σ1 : Hp), a + d = gne g → Fr CFx σ σ1 → (∀ a', a' < a → ¬ sp2 g a' < gne g) → vX8_eventsToSpare_45 post (fun σ_5 => post (-1 : Int32) σ_5) (d + 1) (nI a) σ1 := by
    intro s0 s1 d
    induction d with
    | zero =>
      intro a σ1 hd hF h2
      obtain ⟨-, h13⟩ := hM' σ1 hF
      rw [vX8_eventsToSpare_45]; dsimp only; rw [h13]
      refine ⟨fun _ => ?_, fun c => absurd (nI_le (by omega) (by omega)) c⟩
      have e3 : ¬ sp3 g < gne g := by
        unfold sp3
        rw [first_none (fun a' ha' => decide_eq_false (h2 a' (by omega)))]; omega
      have hend := h σ1 hF
      unfold gspx at hend
      rw [s0, if_neg (by decide), if_neg s1, if_neg e3] at hend
      exact hend
    | succ d ih =>
      intro a σ1 hd hF h2
      obtain ⟨-, h13⟩ := hM' σ1 hF
      rw [vX8_eventsToSpare_45]; dsimp only; rw [h13]
      refine ⟨fun c => absurd c (nI_ge (by omega) (by omega)), fun _ => ?_⟩
      rintro _ rfl
      rw [nI_1]
      refine ⟨gne g - (a + 1) + 1, L3 a _ s0 s1 h2 (by omega) (fun σ2 hF2 hno => ?_) (gne g - (a + 1)) (a + 1) σ1 (by omega) (by omega) hF (fun b' q1 q2 => absurd q1 (by omega))⟩
      rintro _ rfl
      refine ih (a + 1) σ2 (by omega) hF2 (fun a' ha' => ?_)
      by_cases e : a' = a
      · subst e; exact hno
      · exact h2 a' (by omega)
  have L1 : spb g 0 = false → ∀ (d a : Nat) (σ1 : Hp), a + d = gne g → Fr CFx σ σ1 → (∀ a', a' < a → spb g (on a') = false) → vX8_eventsToSpare_12 post (fun σ_4 => (∃ fu : Nat, vX8_eventsToSpare_45 post (fun σ_5 => post (-1 : Int32) σ_5) fu (0 : Int32) σ_4)) (d + 1) (nI a) σ1 := by
    intro s0 d
    induction d with
    | zero =>
      intro a σ1 hd hF h2
      obtain ⟨-, h13⟩ := hM' σ1 hF
      rw [vX8_eventsToSpare_12]; dsimp only; rw [h13]
      refine ⟨fun _ => ⟨gne g + 1, L2 s0 ?_ (gne g) 0 σ1 (by omega) hF (fun a' ha' => absurd ha' (Nat.not_lt_zero a'))⟩, fun c => absurd (nI_le (by omega) (by omega)) c⟩
      unfold sp1
      rw [first_none (fun a' ha' => h2 a' (by omega))]; omega
    | succ d ih =>
      intro a σ1 hd hF h2
      obtain ⟨-, h13⟩ := hM' σ1 hF
      rw [vX8_eventsToSpare_12]; dsimp only; rw [h13]
      refine ⟨fun c => absurd c (nI_ge (by omega) (by omega)), fun _ => ?_⟩
      refine hSp σ1 _ _ hF (fun σ2 hF2 hs => ?_) (fun σ2 hF2 hs => ?_)
      · refine ⟨fun q => absurd q (by decide), fun _ => ?_⟩
        have e2 : sp1 g = a := first_at (by omega) hs (fun a' ha' => h2 a' ha')
        have hend := h σ2 (hF.tr' hF2)
        unfold gspx at hend
        rw [s0, if_neg (by decide), e2, if_pos (by omega)] at hend
        exact hend
      · refine ⟨fun _ => ?_, fun q => absurd rfl q⟩
        rintro _ rfl
        rw [nI_1]
        refine ih (a + 1) σ2 (by omega) (hF.tr' hF2) (fun b' h1 => ?_)
        by_cases e : b' = a
        · subst e; exact hs
        · exact h2 b' (by omega)
  unfold vX8_eventsToSpare
  refine hSp σ _ _ Fr.rf (fun σ2 hF2 hs => ?_) (fun σ2 hF2 hs => ?_)
  · refine ⟨fun q => absurd q (by decide), fun _ => ?_⟩
    have hend := h σ2 hF2
    unfold gspx at hend
    rw [hs, if_pos rfl] at hend
    exact hend
  · refine ⟨fun _ => ⟨gne g + 1, L1 hs (gne g) 0 σ2 (by omega) hF2 (fun a' ha' => absurd ha' (Nat.not_lt_zero a'))⟩, fun q => absurd rfl q⟩
theorem first_lt {p : Nat → Bool} {n : Nat} (h : fa_first p n < n) : p (fa_first p n) = true := fa_first_yes p n h
theorem sX8_sparedOf {g : Gm} (h8 : gne g ≤ 8) {i : Int32} (hi : i = -1 ∨ i = 0 ∨ i = 1) (h : post (gspa g i) σ) : vX8_sparedOf (gspx g) i σ post := by
  unfold vX8_sparedOf
  unfold gspa at h
  unfold gspx
  by_cases s0 : spb g 0 = true
  · rw [if_pos s0] at h ⊢
    refine ⟨fun q => absurd q (by decide), fun _ => sJ6_bcV ⟨fun q => ?_, fun q => ⟨fun q2 => ?_, fun _ => ?_⟩⟩⟩
    · rw [if_pos q] at h; exact h
    · exfalso
      rcases hi with hi | hi | hi
      · exact q hi
      · rw [hi] at q2; exact absurd q2 (by decide)
      · rw [hi] at q2; exact absurd q2 (by decide)
    · rw [if_neg q] at h; exact h
  rw [if_neg s0] at h ⊢
  by_cases s1 : sp1 g < gne g
  · rw [if_pos s1] at h ⊢
    obtain ⟨o1, o2, o3⟩ := on_one (sp1 g) (by omega)
    refine ⟨fun q => absurd q o1, fun _ => sJ6_bcV ?_⟩
    rw [o2]
    rcases hi with hi | hi | hi
    · subst hi
      rw [if_pos rfl] at h
      exact ⟨fun _ => h, fun q => absurd rfl q⟩
    · subst hi
      rw [if_neg (by decide), if_pos rfl] at h
      refine ⟨fun q => absurd q (by decide), fun _ => ⟨fun _ => ⟨fun _ => sJ6_ntz (by rw [o3]; exact h), fun q => absurd rfl q⟩, fun q => absurd (by decide) q⟩⟩
    · subst hi
      rw [if_neg (by decide), if_neg (by decide)] at h
      exact ⟨fun q => absurd q (by decide), fun _ => ⟨fun q => absurd q (by decide), fun _ => h⟩⟩
  rw [if_neg s1] at h ⊢
  by_cases s3 : sp3 g < gne g
  · rw [if_pos s3] at h ⊢
    have hb : sp2 g (sp3 g) < gne g := of_decide_eq_true (first_lt (p := fun a => decide (sp2 g a < gne g)) s3)
    have hab : sp3 g < sp2 g (sp3 g) := by
      have := first_lt (p := fun b => decide (sp3 g < b) && spb g (on (sp3 g) ||| on b)) hb
      rw [Bool.and_eq_true] at this
      exact of_decide_eq_true this.1
    obtain ⟨o1, o2, o3, o4⟩ := on_two (sp3 g) (by omega) (sp2 g (sp3 g)) (by omega) hab
    refine ⟨fun q => absurd q o1, fun _ => sJ6_bcV ?_⟩
    rw [o2]
    rcases hi with hi | hi | hi
    · subst hi
      rw [if_pos rfl] at h
      exact ⟨fun _ => h, fun q => absurd rfl q⟩
    · subst hi
      rw [if_neg (by decide), if_pos rfl] at h
      refine ⟨fun q => absurd q (by decide), fun _ => ⟨fun _ => ⟨fun _ => sJ6_ntz (by rw [o3]; exact h), fun q => absurd rfl q⟩, fun q => absurd (by decide) q⟩⟩
    · subst hi
      rw [if_neg (by decide), if_neg (by decide)] at h
      refine ⟨fun q => absurd q (by decide), fun _ => ⟨fun _ => ⟨fun q => absurd q (by decide), fun _ => sJ6_ntz (by rw [o4]; exact h)⟩, fun q => absurd (by decide) q⟩⟩
  · rw [if_neg s3] at h ⊢
    exact ⟨fun _ => h, fun q => absurd rfl q⟩
theorem sC_spare (hI : CI σ T) (hO : Tok T) {p : Int32} (h : ∀ σ', Cls σ σ' → CI σ' T → post (a_spare T p) σ') : vX8_spare p σ post := by
  have fin : ∀ p : Int32, (ib p 2 || (p == -1)) = true → (p = -1 ∨ p = 0 ∨ p = 1) → (∀ σ', Cls σ σ' → CI σ' T → post (a_spare T p) σ') → vX8_settle σ (fun σ_2 => vX8_eventsToSpare σ_2 (fun r_5 σ_4 => vX8_sparedOf r_5 p σ_4 (fun r_7 σ_6 => post r_7 σ_6))) := by
    intro p hp hp2 h
    refine sC_settle hI hO (fun σ1 hF hS => ?_)
    have n8 : gne (gmT T) ≤ 8 := hS.ev.2.1
    refine sX8_eventsToSpare hS hO (fun σ2 hF2 => ?_)
    have hb := h σ2 (hF.tr (Cls.fx hF2)) (hS.fx hF2).ci
    rw [a_spare, iff_t hp] at hb
    exact sX8_sparedOf n8 hp2 hb
  refine ⟨fun q => ?_, fun q => ?_⟩
  · exact fin p (by rw [q]; rfl) (Or.inl q) h
  · refine gW (n := 2) (by omega) rfl (fun q2 => ?_) (fun j hj e => ?_)
    · have hb := h σ Cls.rf hI
      rw [a_spare, iff_f (by rw [q2, Bool.false_or]; exact beq_eq_false_iff_ne.mpr q)] at hb; exact hb
    · refine fin p (by rw [e, ib_t hj (by omega)]; rfl) (Or.inr ?_) h
      rcases (by omega : j = 0 ∨ j = 1) with rfl | rfl
      · exact Or.inl e
      · exact Or.inr e
end CE
