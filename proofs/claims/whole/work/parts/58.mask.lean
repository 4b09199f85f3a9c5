/-! ===== answers by what was told; the reference's calls that ask ===== -/
def ib (x : Int32) (n : Nat) : Bool := decide (0 ≤ x.toInt) && decide (x.toInt < n)
def Nn (x : Int32) : Nat := x.toNatClampNeg
theorem ib_t {k n : Nat} (hk : k < n) (hn : n < 2147483648) : ib (nI k) n = true := by
  obtain ⟨a, b⟩ := inb_nI hk hn
  unfold ib
  rw [decide_eq_true a, decide_eq_true b]; rfl
theorem ib_f {x : Int32} {n : Nat} (h : ¬ inb x n) : ib x n = false := by
  cases q : ib x n
  · rfl
  · unfold ib at q
    simp only [Bool.and_eq_true, decide_eq_true_eq] at q
    exact absurd q h
theorem ib_of {x : Int32} {n : Nat} (h : ib x n = true) (hn : n < 2147483648) : ∃ k, k < n ∧ x = nI k := by
  unfold ib at h
  simp only [Bool.and_eq_true, decide_eq_true_eq] at h
  exact inb_of h hn
theorem Nn_nI {k : Nat} (h : k < 2147483648) : Nn (nI k) = k := nI_clamp h
section GD
variable {x : Int32} {σ : Hp} {A B : Hp → Prop}
theorem gIn {c : Int64} {n : Nat} (hn : n < 2147483648) (hc : c.toInt = (n : Int) - 1) (h0 : ib x n = false → A σ) (h1 : ∀ k, k < n → x = nI k → B σ) : vX9_in x.toInt64 (0 : Int64) c σ (fun r σ' => (r = 0 → A σ') ∧ (¬ r = 0 → B σ')) :=
  sX9_in0 hn rfl hc (fun k hk e => ⟨fun q => absurd q (by decide), fun _ => h1 k hk e⟩) (fun q => ⟨fun _ => h0 (ib_f q), fun q2 => absurd rfl q2⟩)
theorem gTick (h0 : ib x 24 = false → A σ) (h1 : ∀ k, k < 24 → x = nI k → B σ) : vX9_isTick x σ (fun r σ' => (r = 0 → A σ') ∧ (¬ r = 0 → B σ')) :=
  sX9_in0 (n := 24) (by omega) rfl (by decide) (fun k hk e => ⟨Or.inr rfl, fun q => absurd q (by decide), fun _ => h1 k hk e⟩) (fun q => ⟨Or.inl rfl, fun _ => h0 (ib_f q), fun q2 => absurd rfl q2⟩)
theorem gChain (h0 : ib x 3 = false → A σ) (h1 : ∀ k, k < 3 → x = nI k → B σ) : vX9_isChain x σ (fun r σ' => (r = 0 → A σ') ∧ (¬ r = 0 → B σ')) :=
  sX9_in0 (n := 3) (by omega) rfl (by decide) (fun k hk e => ⟨Or.inr rfl, fun q => absurd q (by decide), fun _ => h1 k hk e⟩) (fun q => ⟨Or.inl rfl, fun _ => h0 (ib_f q), fun q2 => absurd rfl q2⟩)
theorem gText (h0 : ib x 3 = false → A σ) (h1 : ∀ k, k < 3 → x = nI k → B σ) : vX9_isText x σ (fun r σ' => (r = 0 → A σ') ∧ (¬ r = 0 → B σ')) :=
  sX9_in0 (n := 3) (by omega) rfl (by decide) (fun k hk e => ⟨Or.inr rfl, fun q => absurd q (by decide), fun _ => h1 k hk e⟩) (fun q => ⟨Or.inl rfl, fun _ => h0 (ib_f q), fun q2 => absurd rfl q2⟩)
theorem gTwo (h0 : ib x 2 = false → A σ) (h1 : ∀ k, k < 2 → x = nI k → B σ) : vX9_isTwo x σ (fun r σ' => (r = 0 → A σ') ∧ (¬ r = 0 → B σ')) :=
  sX9_in0 (n := 2) (by omega) rfl (by decide) (fun k hk e => ⟨Or.inr rfl, fun q => absurd q (by decide), fun _ => h1 k hk e⟩) (fun q => ⟨Or.inl rfl, fun _ => h0 (ib_f q), fun q2 => absurd rfl q2⟩)
theorem gSheet (h0 : ib x 4 = false → A σ) (h1 : ∀ k, k < 4 → x = nI k → B σ) : vX9_isSheet x σ (fun r σ' => (r = 0 → A σ') ∧ (¬ r = 0 → B σ')) :=
  sX9_in0 (n := 4) (by omega) rfl (by decide) (fun k hk e => ⟨Or.inr rfl, fun q => absurd q (by decide), fun _ => h1 k hk e⟩) (fun q => ⟨Or.inl rfl, fun _ => h0 (ib_f q), fun q2 => absurd rfl q2⟩)
theorem gDuck {n : Nat} (h8 : σ.1 71 8 = nI n) (hn : n ≤ 12) (h0 : ib x n = false → A σ) (h1 : ∀ k, k < n → x = nI k → B σ) : vX9_isDuck x σ (fun r σ' => (r = 0 → A σ') ∧ (¬ r = 0 → B σ')) :=
  sX9_isDuck h8 hn (fun k hk e => ⟨fun q => absurd q (by decide), fun _ => h1 k hk e⟩) (fun q => ⟨fun _ => h0 (ib_f q), fun q2 => absurd rfl q2⟩)
theorem gShot {n : Nat} (h8 : σ.1 71 10 = nI n) (hn : n ≤ 12) (h0 : ib x n = false → A σ) (h1 : ∀ k, k < n → x = nI k → B σ) : vX9_isShot x σ (fun r σ' => (r = 0 → A σ') ∧ (¬ r = 0 → B σ')) := by
  unfold vX9_isShot
  rw [h8]
  exact sX9_in0 (n := n) (by omega) rfl (sub1_toInt (by omega)) (fun k hk e => ⟨Or.inr rfl, fun q => absurd q (by decide), fun _ => h1 k hk e⟩) (fun q => ⟨Or.inl rfl, fun _ => h0 (ib_f q), fun q2 => absurd rfl q2⟩)
end GD
def a_fault (T : Td) (p : Int32) : Int32 := if ib p 3 then fltI (tB T (Nn p)) (Nn p) (tn T (Nn p)) else -2
def a_chain (T : Td) (p : Int32) : Int32 := if ib p 3 then spI (tB T 0) (tn T 0) (Nn p) else -2147483648
def a_duck (T : Td) (p q : Int32) : Int32 := if ib p (nd (gmT T)) && ib q 4 then nI (gD (gmT T) (Nn p) (Nn q)) else -2
def a_shot (T : Td) (p q : Int32) : Int32 := if ib p (ns (gmT T)) && ib q 3 then nI (gS (gmT T) (Nn p) (Nn q)) else -2
def a_at (T : Td) (p q r : Int32) : Int32 := if ib p 24 && ib q (nd (gmT T)) && ib r 3 then nI (gat (gmT T) (Nn p) (Nn q) (Nn r)) else -2
def a_sees (T : Td) (p q r : Int32) : Int32 := if ib p 24 && ib q 3 && ib r 12 then fI (who (gmT T) (Nn p + 1) (Nn q) (Nn r)) else -2
def a_down (T : Td) (p : Int32) : Int32 := if ib p 24 then nI (gdn (gmT T) (Nn p + 1)) else -2
def a_hits (T : Td) (p q : Int32) : Int32 := if ib p (ns (gmT T)) && ib q 3 then ghs (gmT T) (Nn p) (Nn q) else -2
def a_sum (T : Td) (p : Int32) : Int32 := if ib p 3 then nI (gsum (gmT T) (Nn p)) else -2
def a_run (T : Td) (p : Int32) : Int32 := if ib p 2 then grnI (gmT T) (Nn p) else -2
def a_aim (T : Td) (p q : Int32) : Int32 := if ib p (ns (gmT T)) && ib q 2 then gpl (fun v => gscore (gSs (gmT T) (Nn p) 2 v)) 6 (Nn q) else -2
def a_fire (T : Td) (p q : Int32) : Int32 := if ib p (ns (gmT T)) && ib q 2 then gpl (fun v => gscore (gSs (gmT T) (Nn p) 0 v)) 24 (Nn q) else -2
def a_mend (T : Td) (p : Int32) : Int32 := if ib p 2 then gpl (fun v => gscore (gPu (gmT T) v)) 5 (Nn p) else -2
def a_spare (T : Td) (p : Int32) : Int32 := if ib p 2 || (p == -1) then gspa (gmT T) p else -2
def a_might (T : Td) (p : Int32) : Int32 := if ib p 2 then (if Nn p = 0 then gnv (gmT T) (tQ T) (tnq T) else gpb (gmT T) (tQ T) (tnq T)) else -2
def a_kind (T : Td) (p : Int32) : Int32 := if ib p (nd (gmT T)) then gkb (gmT T) (tQ T) (tnq T) (Nn p) else -2
def a_ask (T : Td) : Int32 := nI (gask (gmT T) (tQ T) (tnq T))
def a_chance (T : Td) (p q r : Int32) : Int64 := if ib p 17 && ib q (ns (gmT T)) && ib r 2 then gchI (gmT T) (Nn p) (Nn q) (Nn r) else (-9223372036854775808 : Int64) - (-2 : Int32).toInt64
def a_fairs (T : Td) (p q r : Int32) : Int32 := if ib q 13 && ib r 2 then nI (gsum (gSh (gmT T) (Nn q) (frS p)) (Nn r)) else -2
def a_count (T : Td) (p : Int32) : Int32 :=
  if p = 0 then nI (nd (gmT T)) else if p = 1 then nI (ns (gmT T)) else if p = 2 then nI (tn T 0) + nI (tn T 1) + nI (tn T 2) else if p = 3 then nI (tne T) else if p = 4 then nI (gscore (gmT T)) else if p = 5 then nI (gmany (gmT T)) else if p = 6 then nI (gdn (gmT T) 24) else if p = 7 then nI (tnq T) else if p = 8 then nI (tfd T) else -2
theorem iff_t {α : Type} {c : Bool} {a b : α} (h : c = true) : (if c = true then a else b) = a := if_pos h
theorem iff_f {α : Type} {c : Bool} {a b : α} (h : c = false) : (if c = true then a else b) = b := if_neg (by rw [h]; decide)
section MK
variable {σ : Hp} {T : Td} {post : Int32 → Hp → Prop} {postl : Int64 → Hp → Prop}
theorem sX9_readsText (hT : MTd σ T) {t : Nat} {p : Int32} (ht : t < 3) (hp : p = nI t) (h : ∀ σ', Fr FM σ σ' → MTd σ' T → post (fltI (tB T t) t (tn T t)) σ') : vX9_readsText p σ post := by
  subst hp
  unfold vX9_readsText
  rcases (by omega : t = 0 ∨ t = 1 ∨ t = 2) with rfl | rfl | rfl
  · exact ⟨fun _ => sX9_readsChains (hT.1 0 (by omega)) (fun σ' hF _ => h σ' (MFh_FM hF) (hT.fr hF)), fun q => absurd rfl q⟩
  · exact ⟨fun q => absurd q (by decide), fun _ => ⟨fun _ => sX9_readsDucks (hT.1 1 (by omega)) (fun σ' hF _ => h σ' (MFk_FM hF) (hT.fr hF)), fun q => absurd rfl q⟩⟩
  · exact ⟨fun q => absurd q (by decide), fun _ => ⟨fun q => absurd q (by decide), fun _ => sX9_readsShots (hT.1 2 (by omega)) (fun σ' hF _ => h σ' (MFs_FM hF) (hT.fr hF))⟩⟩
theorem sM_fault (hT : MTd σ T) {p : Int32} (h : ∀ σ', Fr FM σ σ' → MTd σ' T → post (a_fault T p) σ') : vX9_fault p σ post := by
  refine gText (fun q => ?_) (fun t ht e => ?_)
  · have := h σ Fr.rf hT; rw [a_fault, iff_f q] at this; exact this
  · subst e
    refine sX9_readsText hT ht rfl (fun σ' hF hT' => ?_)
    have := h σ' hF hT'; rw [a_fault, iff_t (ib_t ht (by omega)), Nn_nI (by omega)] at this; exact this
theorem sM_chain (hT : MTd σ T) {p : Int32} (h : ∀ σ', Fr FM σ σ' → MTd σ' T → post (a_chain T p) σ') : vX9_chain p σ post := by
  refine sX9_readsChains (hT.1 0 (by omega)) (fun σ' hF h78 => ?_)
  have hb := h σ' (MFh_FM hF) (hT.fr hF)
  refine gChain (fun q => ?_) (fun t ht e => ⟨?_, ?_⟩)
  · rw [a_chain, iff_f q] at hb; exact hb
  · subst e; exact vp_in_nI ht (by omega)
  · subst e
    rw [a_chain, iff_t (ib_t ht (by omega)), Nn_nI (by omega)] at hb
    rw [nI_c (by omega), h78 t ht]; exact hb
theorem sM_duck (hT : MTd σ T) (hO : Tok T) {p q : Int32} (h : ∀ σ', Fr FM σ σ' → MTd σ' T → post (a_duck T p q) σ') : vX9_duck p q σ post := by
  have g1 := (gmT_ok hO).1
  refine sX9_readsDucks (hT.1 1 (by omega)) (fun σ' hF hD => ?_)
  have hb := h σ' (MFk_FM hF) (hT.fr hF)
  refine gDuck (n := nd (gmT T)) hD.1 g1 (fun q => ?_) (fun k hk e => gIn (n := 4) (by omega) (by decide) (fun q => ?_) (fun j hj e2 => ?_))
  · rw [a_duck, iff_f (by rw [q]; rfl)] at hb; exact hb
  · rw [a_duck, iff_f (by rw [q]; simp)] at hb; exact hb
  · subst e e2
    rw [a_duck, iff_t (by rw [ib_t hk (by omega), ib_t hj (by omega)]; rfl), Nn_nI (by omega), Nn_nI (by omega)] at hb
    rw [k4, nI_mul, nI_add, nI_c (by omega), hD.2 k hk j hj]
    exact ⟨vp_in_nI (by omega) (by omega), hb⟩
theorem sM_shot (hT : MTd σ T) (hO : Tok T) {p q : Int32} (h : ∀ σ', Fr FM σ σ' → MTd σ' T → post (a_shot T p q) σ') : vX9_shot p q σ post := by
  have g1 := (gmT_ok hO).2.2.2.2.1
  refine sX9_readsShots (hT.1 2 (by omega)) (fun σ' hF hD => ?_)
  have hb := h σ' (MFs_FM hF) (hT.fr hF)
  refine gShot (n := ns (gmT T)) hD.1 g1 (fun q => ?_) (fun k hk e => gIn (n := 3) (by omega) (by decide) (fun q => ?_) (fun j hj e2 => ?_))
  · rw [a_shot, iff_f (by rw [q]; rfl)] at hb; exact hb
  · rw [a_shot, iff_f (by rw [q]; simp)] at hb; exact hb
  · subst e e2
    rw [a_shot, iff_t (by rw [ib_t hk (by omega), ib_t hj (by omega)]; rfl), Nn_nI (by omega), Nn_nI (by omega)] at hb
    rw [k3, nI_mul, nI_add, nI_c (by omega), hD.2 k hk j hj]
    exact ⟨vp_in_nI (by omega) (by omega), hb⟩
theorem sM_at (hT : MTd σ T) (hO : Tok T) {p q r : Int32} (h : ∀ σ', Fr FM σ σ' → MTd σ' T → post (a_at T p q r) σ') : vX9_at p q r σ post := by
  have hG := gmT_ok hO
  have g1 := hG.1
  refine sX9_find hT hO (fun σ' hF hP hM => ?_)
  have hb := h σ' hF hP.1
  refine gTick (fun q => ?_) (fun t ht e => gDuck hP.min.1 g1 (fun q => ?_) (fun k hk e2 => gIn (n := 3) (by omega) (by decide) (fun q => ?_) (fun j hj e3 => ?_)))
  · rw [a_at, iff_f (by rw [q]; rfl)] at hb; exact hb
  · rw [a_at, iff_f (by rw [q]; simp)] at hb; exact hb
  · rw [a_at, iff_f (by rw [q]; simp)] at hb; exact hb
  · subst e e2 e3
    rw [a_at, iff_t (by rw [ib_t ht (by omega), ib_t hk (by omega), ib_t hj (by omega)]; rfl), Nn_nI (by omega), Nn_nI (by omega), Nn_nI (by omega)] at hb
    exact sX9_atBy hG hM.2 ht hk hj rfl rfl rfl hb
theorem sM_sees (hT : MTd σ T) (hO : Tok T) {p q r : Int32} (h : ∀ σ', Fr FM σ σ' → MTd σ' T → post (a_sees T p q r) σ') : vX9_sees p q r σ post := by
  have hG := gmT_ok hO
  refine sX9_find hT hO (fun σ' hF hP hM => ?_)
  have hb := h σ' hF hP.1
  refine gTick (fun q => ?_) (fun t ht e => gChain (fun q => ?_) (fun k hk e2 => gIn (n := 12) (by omega) (by decide) (fun q => ?_) (fun j hj e3 => ?_)))
  · rw [a_sees, iff_f (by rw [q]; rfl)] at hb; exact hb
  · rw [a_sees, iff_f (by rw [q]; simp)] at hb; exact hb
  · rw [a_sees, iff_f (by rw [q]; simp)] at hb; exact hb
  · subst e e2 e3
    rw [a_sees, iff_t (by rw [ib_t ht (by omega), ib_t hk (by omega), ib_t hj (by omega)]; rfl), Nn_nI (by omega), Nn_nI (by omega), Nn_nI (by omega)] at hb
    exact sX9_seesBy hP.min hG hM.2 ht hk hj rfl rfl rfl hb
theorem sM_down (hT : MTd σ T) (hO : Tok T) {p : Int32} (h : ∀ σ', Fr FM σ σ' → MTd σ' T → post (a_down T p) σ') : vX9_down p σ post := by
  have hG := gmT_ok hO
  refine sX9_find hT hO (fun σ' hF hP hM => ?_)
  have hb := h σ' hF hP.1
  refine gTick (fun q => ?_) (fun t ht e => ?_)
  · rw [a_down, iff_f q] at hb; exact hb
  · subst e
    rw [a_down, iff_t (ib_t ht (by omega)), Nn_nI (by omega)] at hb
    exact sX9_downBy hP.min hG hM.2 ht rfl hb
theorem sM_hits (hT : MTd σ T) (hO : Tok T) {p q : Int32} (h : ∀ σ', Fr FM σ σ' → MTd σ' T → post (a_hits T p q) σ') : vX9_hits p q σ post := by
  have hG := gmT_ok hO
  have g5 := hG.2.2.2.2.1
  refine sX9_find hT hO (fun σ' hF hP hM => ?_)
  have hb := h σ' hF hP.1
  refine gShot hP.min.2.1 g5 (fun q => ?_) (fun k hk e => gIn (n := 3) (by omega) (by decide) (fun q => ?_) (fun j hj e2 => ?_))
  · rw [a_hits, iff_f (by rw [q]; rfl)] at hb; exact hb
  · rw [a_hits, iff_f (by rw [q]; simp)] at hb; exact hb
  · subst e e2
    rw [a_hits, iff_t (by rw [ib_t hk (by omega), ib_t hj (by omega)]; rfl), Nn_nI (by omega), Nn_nI (by omega)] at hb
    exact sX9_hitsBy hP.min hG hM hk hj rfl rfl hb
theorem sM_sum (hT : MTd σ T) (hO : Tok T) {p : Int32} (h : ∀ σ', Fr FM σ σ' → MTd σ' T → post (a_sum T p) σ') : vX9_sum p σ post := by
  have hG := gmT_ok hO
  refine sX9_find hT hO (fun σ' hF hP hM => ?_)
  have hb := h σ' hF hP.1
  refine gIn (n := 3) (by omega) (by decide) (fun q => ?_) (fun j hj e2 => ?_)
  · rw [a_sum, iff_f q] at hb; exact hb
  · subst e2
    rw [a_sum, iff_t (ib_t hj (by omega)), Nn_nI (by omega)] at hb
    exact sX9_sumBy hP.min hG hM hj rfl hb
theorem sM_run (hT : MTd σ T) (hO : Tok T) {p : Int32} (h : ∀ σ', Fr FM σ σ' → MTd σ' T → post (a_run T p) σ') : vX9_run p σ post := by
  have hG := gmT_ok hO
  refine sX9_find hT hO (fun σ' hF hP hM => ?_)
  have hb := h σ' hF hP.1
  refine gTwo (fun q => ?_) (fun j hj e2 => ?_)
  · rw [a_run, iff_f q] at hb; exact hb
  · subst e2
    rw [a_run, iff_t (ib_t hj (by omega)), Nn_nI (by omega)] at hb
    exact sX9_runBy hP.min hG hM hj rfl hb
theorem sM_easy (hT : MTd σ T) (hO : Tok T) (h : ∀ σ', Fr FM σ σ' → MTd σ' T → post (gez (gmT T)) σ') : vX9_easy σ post :=
  sX9_find hT hO (fun σ' hF hP hM => sX9_easyNow hP.min (gmT_ok hO) hM (h σ' hF hP.1))
theorem sM_safe (hT : MTd σ T) (hO : Tok T) (h : ∀ σ', Fr FM σ σ' → MTd σ' T → post (gsf (gmT T)) σ') : vX9_safe σ post :=
  sX9_find hT hO (fun σ' hF hP hM => sX9_safeNow hP.min (gmT_ok hO) hM (h σ' hF hP.1))
theorem sM_aim (hT : MTd σ T) (hO : Tok T) {p q : Int32} (h : ∀ σ', Fr FM σ σ' → MTd σ' T → post (a_aim T p q) σ') : vX9_aim p q σ post := by
  have hG := gmT_ok hO
  have g5 := hG.2.2.2.2.1
  refine sX9_find hT hO (fun σ' hF hP hM => ?_)
  have hb := h σ' hF hP.1
  refine gShot hP.min.2.1 g5 (fun q => ?_) (fun k hk e => gTwo (fun q => ?_) (fun j hj e2 => ?_))
  · rw [a_aim, iff_f (by rw [q]; rfl)] at hb; exact hb
  · rw [a_aim, iff_f (by rw [q]; simp)] at hb; exact hb
  · subst e e2
    refine sX9_shotBetter (j := 2) (many := 6) hP.min hG hk (Or.inr ⟨rfl, rfl⟩) hj (by rw [k3, k2, nI_mul, nI_add]) rfl rfl (fun σ2 hF2 => ?_)
    have hb := h σ2 (hF.tr' (MF_FM hF2)) (hP.fr hF2).1
    rw [a_aim, iff_t (by rw [ib_t hk (by omega), ib_t hj (by omega)]; rfl), Nn_nI (by omega), Nn_nI (by omega)] at hb
    exact hb
theorem sM_fire (hT : MTd σ T) (hO : Tok T) {p q : Int32} (h : ∀ σ', Fr FM σ σ' → MTd σ' T → post (a_fire T p q) σ') : vX9_fire p q σ post := by
  have hG := gmT_ok hO
  have g5 := hG.2.2.2.2.1
  refine sX9_find hT hO (fun σ' hF hP hM => ?_)
  have hb := h σ' hF hP.1
  refine gShot hP.min.2.1 g5 (fun q => ?_) (fun k hk e => gTwo (fun q => ?_) (fun j hj e2 => ?_))
  · rw [a_fire, iff_f (by rw [q]; rfl)] at hb; exact hb
  · rw [a_fire, iff_f (by rw [q]; simp)] at hb; exact hb
  · subst e e2
    refine sX9_shotBetter (j := 0) (many := 24) hP.min hG hk (Or.inl ⟨rfl, rfl⟩) hj (by rw [k3, nI_mul]; rfl) rfl rfl (fun σ2 hF2 => ?_)
    have hb := h σ2 (hF.tr' (MF_FM hF2)) (hP.fr hF2).1
    rw [a_fire, iff_t (by rw [ib_t hk (by omega), ib_t hj (by omega)]; rfl), Nn_nI (by omega), Nn_nI (by omega)] at hb
    exact hb
theorem sM_mend (hT : MTd σ T) (hO : Tok T) {p : Int32} (h : ∀ σ', Fr FM σ σ' → MTd σ' T → post (a_mend T p) σ') : vX9_mend p σ post := by
  have hG := gmT_ok hO
  refine sX9_find hT hO (fun σ' hF hP hM => ?_)
  have hb := h σ' hF hP.1
  refine gTwo (fun q => ?_) (fun j hj e2 => ?_)
  · rw [a_mend, iff_f q] at hb; exact hb
  · subst e2
    refine sX9_mendBy hP.min hG hj rfl (fun σ2 hF2 => ?_)
    have hb := h σ2 (hF.tr' (MF_FM hF2)) (hP.fr hF2).1
    rw [a_mend, iff_t (ib_t hj (by omega)), Nn_nI (by omega)] at hb; exact hb
theorem MTd.h15 (h : MTd σ T) : σ.1 71 15 = 0 := h.2.2.2.2.2.2.2.2
theorem m1_toInt {x : Int32} (h : x.toInt = -1) : x = -1 := Int32.toInt_inj.mp (by rw [h]; decide)
theorem sM_spare (hT : MTd σ T) (hO : Tok T) {p : Int32} (h : ∀ σ', Fr FM σ σ' → MTd σ' T → post (a_spare T p) σ') : vX9_spare p σ post := by
  have hG := gmT_ok hO
  refine sX9_find hT hO (fun σ' hF hP hM => ?_)
  have hb := h σ' hF hP.1
  refine sX9_inB (lo := -1) (hi := 1) (by decide) (by decide) (fun q1 q2 => ⟨fun q => absurd q (by decide), fun _ => ?_⟩) (fun q => ⟨fun _ => ?_, fun q => absurd rfl q⟩)
  · refine sX9_spareBy hP.min hG hP.1.h15 (fun σ2 hF2 => ?_)
    have hb := h σ2 (hF.tr' (MF_FM hF2)) (hP.fr hF2).1
    rw [a_spare, iff_t ?_] at hb
    · exact hb
    · rcases (by omega : p.toInt = -1 ∨ 0 ≤ p.toInt) with e | e
      · rw [m1_toInt e]; simp
      · rw [show ib p 2 = true by unfold ib; rw [decide_eq_true e, decide_eq_true (by omega)]; rfl]; rfl
  · rw [a_spare, iff_f ?_] at hb
    · exact hb
    · rw [Bool.or_eq_false_iff]
      refine ⟨ib_f (fun ⟨a, b⟩ => by omega), ?_⟩
      rw [beq_eq_false_iff_ne]
      rintro rfl
      have : (-1 : Int32).toInt = -1 := by decide
      omega
theorem sM_might (hT : MTd σ T) (hO : Tok T) {p : Int32} (h : ∀ σ', Fr FM σ σ' → MTd σ' T → post (a_might T p) σ') : vX9_might p σ post := by
  have hG := gmT_ok hO
  refine sX9_find hT hO (fun σ' hF hP hM => ?_)
  have hb := h σ' hF hP.1
  refine gTwo (fun q => ?_) (fun j hj e2 => ?_)
  · rw [a_might, iff_f q] at hb; exact hb
  · subst e2
    unfold vX9_mightBy
    rw [k0, nI_eq2 (by omega) (by omega)]
    refine ⟨fun q => ?_, fun q => ?_⟩
    · refine sX9_neverNow hP.min hG hP.1.2.2.2.2.2.1 hP.1.h15 (fun σ2 hF2 => ?_)
      have hb := h σ2 (hF.tr' (MF_FM hF2)) (hP.fr hF2).1
      rw [a_might, iff_t (ib_t hj (by omega)), Nn_nI (by omega), if_pos q] at hb; exact hb
    · refine sX9_pullsNow hP.min hG hP.1.2.2.2.2.2.1 (fun σ2 hF2 _ => ?_)
      have hb := h σ2 (hF.tr' (MFp_FM hF2)) (hP.frp hF2).1
      rw [a_might, iff_t (ib_t hj (by omega)), Nn_nI (by omega), if_neg q] at hb; exact hb
theorem sM_kind (hT : MTd σ T) (hO : Tok T) {p : Int32} (h : ∀ σ', Fr FM σ σ' → MTd σ' T → post (a_kind T p) σ') : vX9_kind p σ post := by
  have hG := gmT_ok hO
  have g1 := hG.1
  refine sX9_find hT hO (fun σ' hF hP hM => ?_)
  have hb := h σ' hF hP.1
  refine gDuck hP.min.1 g1 (fun q => ?_) (fun k hk e => ?_)
  · rw [a_kind, iff_f q] at hb; exact hb
  · subst e
    refine sX9_kindOf hP.min hG hP.1.2.2.2.2.2.1 hk rfl (fun σ2 hF2 => ?_)
    have hb := h σ2 (hF.tr' (MF_FM hF2)) (hP.fr hF2).1
    rw [a_kind, iff_t (ib_t hk (by omega)), Nn_nI (by omega)] at hb; exact hb
theorem sM_ask (hT : MTd σ T) (hO : Tok T) (h : ∀ σ', Fr FM σ σ' → MTd σ' T → post (a_ask T) σ') : vX9_ask σ post :=
  sX9_find hT hO (fun σ' hF hP hM => sX9_askNow hP.min (gmT_ok hO) hP.1.2.2.2.2.2.1 (fun σ2 hF2 => h σ2 (hF.tr' (MFp_FM hF2)) (hP.frp hF2).1))
theorem sM_chance (hT : MTd σ T) (hO : Tok T) {p q r : Int32} (h : ∀ σ', Fr FM σ σ' → MTd σ' T → postl (a_chance T p q r) σ') : vX9_chance p q r σ postl := by
  have hG := gmT_ok hO
  have g5 := hG.2.2.2.2.1
  refine sX9_find hT hO (fun σ' hF hP hM => ?_)
  have hb := h σ' hF hP.1
  refine gIn (n := 17) (by omega) (by decide) (fun q => ?_) (fun c hc e => gShot hP.min.2.1 g5 (fun q => ?_) (fun k hk e2 => gTwo (fun q => ?_) (fun j hj e3 => ?_)))
  · rw [a_chance, iff_f (by rw [q]; rfl)] at hb; exact hb
  · rw [a_chance, iff_f (by rw [q]; simp)] at hb; exact hb
  · rw [a_chance, iff_f (by rw [q]; simp)] at hb; exact hb
  · subst e e2 e3
    refine sX9_chanceOf hP.min hG hP.1.h15 (by omega) hk hj rfl rfl rfl (fun σ2 hF2 => ?_)
    have hb := h σ2 (hF.tr' (MF_FM hF2)) (hP.fr hF2).1
    rw [a_chance, iff_t (by rw [ib_t hc (by omega), ib_t hk (by omega), ib_t hj (by omega)]; rfl), Nn_nI (by omega), Nn_nI (by omega), Nn_nI (by omega)] at hb
    exact hb
theorem sM_fairs (hT : MTd σ T) (hO : Tok T) {p q r : Int32} (h : ∀ σ', Fr FM σ σ' → MTd σ' T → post (a_fairs T p q r) σ') : vX9_fairs p q r σ post := by
  have hG := gmT_ok hO
  refine sX9_find hT hO (fun σ' hF hP hM => ?_)
  have hb := h σ' hF hP.1
  refine gIn (n := 13) (by omega) (by decide) (fun q => ?_) (fun k hk e2 => gTwo (fun q => ?_) (fun j hj e3 => ?_))
  · rw [a_fairs, iff_f (by rw [q]; rfl)] at hb; exact hb
  · rw [a_fairs, iff_f (by rw [q]; simp)] at hb; exact hb
  · subst e2 e3
    refine sX9_fairsOf hP.min hG (hP.1.1 2 (by omega)) (by omega) (by omega) rfl rfl (fun σ2 hF2 hS2 => ?_)
    have hb := h σ2 (hF.tr' (MFf_FM hF2)) (hP.frf hF2 hS2).1
    rw [a_fairs, iff_t (by rw [ib_t hk (by omega), ib_t hj (by omega)]; rfl), Nn_nI (by omega), Nn_nI (by omega)] at hb
    exact hb
theorem sM_countP (hT : MTd σ T) (hO : Tok T) {p : Int32} (h : ∀ σ', Fr FM σ σ' → MP σ' T → post (a_count T p) σ') : vX9_count p σ post := by
  have hG := gmT_ok hO
  refine sX9_find hT hO (fun σ' hF hP hM => ?_)
  have hb := h σ' hF hP
  obtain ⟨a1, a2, a3, a4, a5, a6, a7, a8, a9⟩ := hP.1
  unfold a_count at hb
  refine ⟨fun c => ?_, fun c0 => ⟨fun c => ?_, fun c1 => ⟨fun c => ?_, fun c2 => ⟨fun c => ?_, fun c3 => ⟨fun c => ?_, fun c4 => ⟨fun c => ?_, fun c5 => ⟨fun c => ?_, fun c6 => ⟨fun c => ?_, fun c7 => ⟨fun c => ?_, fun c8 => ?_⟩⟩⟩⟩⟩⟩⟩⟩⟩
  · rw [if_pos c] at hb; rw [hP.min.1]; exact hb
  · rw [if_neg c0, if_pos c] at hb; rw [hP.min.2.1]; exact hb
  · rw [if_neg c0, if_neg c1, if_pos c] at hb
    refine ⟨vp_in_nI (by omega : 0 < 3) (by omega), vp_in_nI (by omega : 1 < 3) (by omega), vp_in_nI (by omega : 2 < 3) (by omega), ?_⟩
    rw [k0, k1, k2, nI_c (by omega), nI_c (by omega), nI_c (by omega), (a1 0 (by omega)).1, (a1 1 (by omega)).1, (a1 2 (by omega)).1]; exact hb
  · rw [if_neg c0, if_neg c1, if_neg c2, if_pos c] at hb; rw [a4]; exact hb
  · rw [if_neg c0, if_neg c1, if_neg c2, if_neg c3, if_pos c] at hb; exact sX9_score hP.min.2.1 hG hM hb
  · rw [if_neg c0, if_neg c1, if_neg c2, if_neg c3, if_neg c4, if_pos c] at hb; exact sX9_manyHit hP.min.2.1 hG hM hb
  · rw [if_neg c0, if_neg c1, if_neg c2, if_neg c3, if_neg c4, if_neg c5, if_pos c] at hb; exact sX9_downBy hP.min hG hM.2 (by omega : 23 < 24) rfl hb
  · rw [if_neg c0, if_neg c1, if_neg c2, if_neg c3, if_neg c4, if_neg c5, if_neg c6, if_pos c] at hb; rw [a6.1]; exact hb
  · rw [if_neg c0, if_neg c1, if_neg c2, if_neg c3, if_neg c4, if_neg c5, if_neg c6, if_neg c7, if_pos c] at hb; rw [a8]; exact hb
  · rw [if_neg c0, if_neg c1, if_neg c2, if_neg c3, if_neg c4, if_neg c5, if_neg c6, if_neg c7, if_neg c8] at hb; exact hb
theorem sM_count (hT : MTd σ T) (hO : Tok T) {p : Int32} (h : ∀ σ', Fr FM σ σ' → MTd σ' T → post (a_count T p) σ') : vX9_count p σ post := sM_countP hT hO (fun σ' hF hP => h σ' hF hP.1)
end MK
