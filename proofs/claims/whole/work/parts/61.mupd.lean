/-! ===== calls that tell: answers, and what is told then; the reference's ===== -/
def upB (B : Nat → Nat → Nat) (t i v : Nat) : Nat → Nat → Nat := fun a b => if a = t ∧ b = i then v else B a b
def r_type (T : Td) (p q : Int32) : Int32 × Td := if ib p 3 && ib q 256 then (if tn T (Nn p) = lim (Nn p) then (-4, T) else (nI (tn T (Nn p) + 1), ((up (tn T) (Nn p) (tn T (Nn p) + 1), upB (tB T) (Nn p) (tn T (Nn p)) (Nn q)), T.2))) else (-2, T)
def r_wipe (T : Td) (p : Int32) : Int32 × Td := if ib p 3 then (nI (tn T (Nn p)), ((up (tn T) (Nn p) 0, tB T), T.2)) else (-2, T)
def r_undo (T : Td) (p : Int32) : Int32 × Td := if ib p 3 then (if tn T (Nn p) = 0 then (-3, T) else (nI (tn T (Nn p) - 1), ((up (tn T) (Nn p) (tn T (Nn p) - 1), tB T), T.2))) else (-2, T)
def r_rifle (T : Td) (p q : Int32) : Int32 × Td := if ib p 2 && ib q (if Nn p = 0 then 5 else 4) then (if Nn p = 0 then (nI (tpu T), (T.1, (Nn q, tfl T), T.2.2)) else (nI (tfl T), (T.1, (tpu T, Nn q), T.2.2))) else (-2, T)
def evT (T : Td) (k t v : Nat) : Td := (T.1, T.2.1, (tne T + 1, fun e j => if e = tne T then (if j = 0 then k else if j = 1 then t else v) else tE T e j), T.2.2.2)
def r_event (T : Td) (p q r : Int32) : Int32 × Td := if ib p 3 && ib q 24 && ib r 12 then (if tne T = 8 then (-4, T) else (nI (tne T + 1), evT T (Nn p) (Nn q) (Nn r))) else (-2, T)
def r_back (T : Td) : Int32 × Td := if tne T = 0 then (-3, T) else (nI (tne T - 1), (T.1, T.2.1, (tne T - 1, tE T), T.2.2.2))
def r_seen (T : Td) (p q r : Int32) : Int32 × Td := if ib p 24 && ib q 12 && ib r 2 then (if tnq T = 8 then (-4, T) else (nI (tnq T + 1), (T.1, T.2.1, T.2.2.1, (tnq T + 1, fun e j => if e = tnq T then (if j = 0 then Nn p else if j = 1 then Nn q else Nn r) else tQ T e j), T.2.2.2.2))) else (-2, T)
def r_forget (T : Td) : Int32 × Td := (nI (tnq T), (T.1, T.2.1, T.2.2.1, (0, tQ T), T.2.2.2.2))
def fdT (T : Td) (k : Nat) : Td := (T.1, T.2.1, T.2.2.1, T.2.2.2.1, T.2.2.2.2.1, k)
def shT (T : Td) (x : (Nat → Bool) × (Nat → Nat) × (Nat → Nat) × (Nat → Nat → Int32)) : Td := (T.1, T.2.1, T.2.2.1, T.2.2.2.1, x, T.2.2.2.2.2)
def fnd (T : Td) (k : Nat) : Int32 × Td := ((-10 : Int32) - nI k, fdT T k)
def upb (f : Nat → Bool) (k : Nat) (v : Bool) : Nat → Bool := fun j => if j = k then v else f j
def upI (f : Nat → Nat → Int32) (s : Nat) (F : Nat → Int32) : Nat → Nat → Int32 := fun a => if a = s then F else f a
def r_sheet (T : Td) (p q r : Int32) : Int32 × Td := if ib p 4 && ib q 3 && decide (r.toInt ≤ 60) then (if 0 ≤ r.toInt then (r, shT T (upb (tls T) (Nn p) false, up (tfo T) (Nn p) (Nn q), up (tsz T) (Nn p) (Nn r), upI (tit T) (Nn p) (fun _ => 0))) else fnd T 5) else (-2, T)
def r_lose (T : Td) (p : Int32) : Int32 × Td := if ib p 4 then (if tls T (Nn p) then fnd T 1 else (nI (tsz T (Nn p)), shT T (upb (tls T) (Nn p) true, tfo T, tsz T, tit T))) else (-2, T)
def cutI (f : Nat) (v : Int32) : Int32 := if f = 0 then v.toInt8.toInt32 else if f = 1 then v.toInt16.toInt32 else v
/-- what a sheet lacks (0: nothing) -/
def lck (T : Td) (s f : Nat) (i : Int32) : Nat := if tls T s then 1 else if tfo T s = f then (if ib i (tsz T s) then 0 else 2) else 3
def r_lay (T : Td) (p q r v : Int32) : Int32 × Td := if ib p 4 && ib q 3 then (if lck T (Nn p) (Nn q) r = 0 then (1, shT T (tls T, tfo T, tsz T, upI (tit T) (Nn p) (fun i => if i = Nn r then cutI (Nn q) v else tit T (Nn p) i))) else fnd T (lck T (Nn p) (Nn q) r)) else (-2, T)
def r_get (T : Td) (p q r : Int32) : Int32 × Td := if ib p 4 && ib q 3 then (if lck T (Nn p) (Nn q) r = 0 then (tit T (Nn p) (Nn r), T) else (-2147483648, fdT T (lck T (Nn p) (Nn q) r))) else (-2147483648, T)
def cpF (F G : Nat → Int32) (i j n : Nat) : Nat → Int32 := fun a => if j ≤ a ∧ a < j + n then F (i + (a - j)) else G a
def r_copy (T : Td) (p i q j n : Int32) : Int32 × Td := if ib p 4 && ib q 4 then (if tls T (Nn p) || tls T (Nn q) then fnd T 1 else if tfo T (Nn p) = tfo T (Nn q) then (if 0 ≤ i.toInt ∧ 0 ≤ j.toInt ∧ 0 ≤ n.toInt ∧ i.toInt + n.toInt ≤ tsz T (Nn p) ∧ j.toInt + n.toInt ≤ tsz T (Nn q) then (1, shT T (tls T, tfo T, tsz T, upI (tit T) (Nn q) (cpF (tit T (Nn p)) (tit T (Nn q)) (Nn i) (Nn j) (Nn n)))) else fnd T 2) else fnd T 4) else (-2, T)
def mn (a b : Nat) : Nat := if b ≤ a then b else a
def r_write (T : Td) (p q : Int32) : Int32 × Td := if ib p (nd (gmT T)) && ib q 4 then (if tls T (Nn q) then fnd T 1 else (nI (mn (tsz T (Nn q)) 24), shT T (tls T, tfo T, tsz T, upI (tit T) (Nn q) (fun t => if t < mn (tsz T (Nn q)) 24 then nI (gst (gmT T) (t + 1) (Nn p)) else tit T (Nn q) t)))) else (-2, T)
/-- events from a sheet: f is enough, n are taken -/
def rdl (s : Nat) : Nat → Nat → Td → Nat × Td
  | 0, n, T => (n, T)
  | f + 1, n, T => if tsz T s < 3 * n + 3 then (n, T) else if ((r_event T (tit T s (3 * n)) (tit T s (3 * n + 1)) (tit T s (3 * n + 2))).1).toInt < 0 then (n, T) else rdl s f (n + 1) (r_event T (tit T s (3 * n)) (tit T s (3 * n + 1)) (tit T s (3 * n + 2))).2
def r_read (T : Td) (p : Int32) : Int32 × Td := if ib p 4 then (if tls T (Nn p) then fnd T 1 else (nI (rdl (Nn p) 21 0 T).1, (rdl (Nn p) 21 0 T).2)) else (-2, T)
section MU
variable {σ σ' : Hp} {T : Td} {post : Int32 → Hp → Prop}
def A1 : Nat → Nat → Bool := fun a _ => Nat.beq a 76 || Nat.beq a 77
def A2 : Nat → Nat → Bool := fun a _ => Nat.beq a 81
def A3 : Nat → Nat → Bool := fun a b => Nat.beq a 82 || (Nat.beq a 71 && Nat.beq b 13)
def A4 : Nat → Nat → Bool := fun a b => Nat.beq a 91 || (Nat.beq a 71 && Nat.beq b 24)
def A5 : Nat → Nat → Bool := fun a _ => Nat.ble 72 a && Nat.ble a 75
def A6 : Nat → Nat → Bool := fun a b => Nat.beq a 71 && Nat.beq b 4
theorem A1_FM (h : Fr A1 σ σ') : Fr FM σ σ' := FM_of h (fun a b ha => by unfold A1; rw [beq_f (by omega), beq_f (by omega)]; rfl)
theorem A2_FM (h : Fr A2 σ σ') : Fr FM σ σ' := FM_of h (fun a b ha => by unfold A2; rw [beq_f (by omega)])
theorem A3_FM (h : Fr A3 σ σ') : Fr FM σ σ' := FM_of h (fun a b ha => by unfold A3; rw [beq_f (by omega), beq_f (by omega)]; rfl)
theorem A4_FM (h : Fr A4 σ σ') : Fr FM σ σ' := FM_of h (fun a b ha => by unfold A4; rw [beq_f (by omega), beq_f (by omega)]; rfl)
theorem A5_FM (h : Fr A5 σ σ') : Fr FM σ σ' := FM_of h (fun a b ha => by unfold A5; rw [ble_f (by omega)]; rfl)
theorem A6_FM (h : Fr A6 σ σ') : Fr FM σ σ' := FM_of h (fun a b ha => by unfold A6; rw [beq_f (by omega)]; rfl)
theorem MTd.m1 (h : MTd σ T) (hF : Fr A1 σ σ') {x : (Nat → Nat) × (Nat → Nat → Nat)} (hn : ∀ t, t < 3 → MTx σ' t (x.1 t) (x.2 t)) : MTd σ' (x, T.2) := by
  obtain ⟨a1, a2, a3, a4, a5, a6, a7, a8, a9⟩ := h
  refine ⟨hn, ?_, ?_, ?_, fun e he j hj => ?_, a6.fr hF, fun s hs => ?_, ?_, ?_⟩
  · rw [hF.i rfl]; exact a2
  · rw [hF.i rfl]; exact a3
  · rw [hF.i rfl]; exact a4
  · rw [hF.i rfl]; exact a5 e he j hj
  · rw [hF.r (fun _ => rfl), hF.r (fun _ => rfl), hF.r (fun _ => rfl)]; exact a7 s hs
  · rw [hF.i rfl]; exact a8
  · rw [hF.i rfl]; exact a9
theorem MTd.m2 (h : MTd σ T) (hF : Fr A2 σ σ') {x : Nat × Nat} (h0 : σ'.1 81 0 = nI x.1) (h1 : σ'.1 81 1 = nI x.2) : MTd σ' (T.1, x, T.2.2) := by
  obtain ⟨a1, a2, a3, a4, a5, a6, a7, a8, a9⟩ := h
  refine ⟨fun t ht => (a1 t ht).fr hF, h0, h1, ?_, fun e he j hj => ?_, a6.fr hF, fun s hs => ?_, ?_, ?_⟩
  · rw [hF.i rfl]; exact a4
  · rw [hF.i rfl]; exact a5 e he j hj
  · rw [hF.r (fun _ => rfl), hF.r (fun _ => rfl), hF.r (fun _ => rfl)]; exact a7 s hs
  · rw [hF.i rfl]; exact a8
  · rw [hF.i rfl]; exact a9
theorem MTd.m3 (h : MTd σ T) (hF : Fr A3 σ σ') {x : Nat × (Nat → Nat → Nat)} (h0 : σ'.1 71 13 = nI x.1) (h1 : ∀ e, e < x.1 → ∀ j, j < 3 → σ'.1 82 (3 * e + j) = nI (x.2 e j)) : MTd σ' (T.1, T.2.1, x, T.2.2.2) := by
  obtain ⟨a1, a2, a3, a4, a5, a6, a7, a8, a9⟩ := h
  refine ⟨fun t ht => (a1 t ht).fr hF, ?_, ?_, h0, h1, a6.fr hF, fun s hs => ?_, ?_, ?_⟩
  · rw [hF.i rfl]; exact a2
  · rw [hF.i rfl]; exact a3
  · rw [hF.r (fun _ => rfl), hF.r (fun _ => rfl), hF.r (fun _ => rfl)]; exact a7 s hs
  · rw [hF.i rfl]; exact a8
  · rw [hF.i rfl]; exact a9
theorem MTd.m4 (h : MTd σ T) (hF : Fr A4 σ σ') {x : Nat × (Nat → Nat → Nat)} (h0 : MSn σ' x.1 x.2) : MTd σ' (T.1, T.2.1, T.2.2.1, x, T.2.2.2.2) := by
  obtain ⟨a1, a2, a3, a4, a5, a6, a7, a8, a9⟩ := h
  refine ⟨fun t ht => (a1 t ht).fr hF, ?_, ?_, ?_, fun e he j hj => ?_, h0, fun s hs => ?_, ?_, ?_⟩
  · rw [hF.i rfl]; exact a2
  · rw [hF.i rfl]; exact a3
  · rw [hF.i rfl]; exact a4
  · rw [hF.i rfl]; exact a5 e he j hj
  · rw [hF.r (fun _ => rfl), hF.r (fun _ => rfl), hF.r (fun _ => rfl)]; exact a7 s hs
  · rw [hF.i rfl]; exact a8
  · rw [hF.i rfl]; exact a9
theorem MTd.m5 (h : MTd σ T) (hF : Fr A5 σ σ') {x : (Nat → Bool) × (Nat → Nat) × (Nat → Nat) × (Nat → Nat → Int32)} (h0 : ∀ s, s < 4 → σ'.1 72 s = (if x.1 s then -1 else nI (x.2.1 s)) ∧ σ'.1 73 s = nI (x.2.2.1 s) ∧ ∀ i, i < x.2.2.1 s → σ'.1 74 (60 * s + i) = x.2.2.2 s i) : MTd σ' (shT T x) := by
  obtain ⟨a1, a2, a3, a4, a5, a6, a7, a8, a9⟩ := h
  refine ⟨fun t ht => (a1 t ht).fr hF, ?_, ?_, ?_, fun e he j hj => ?_, a6.fr hF, h0, ?_, ?_⟩
  · rw [hF.i rfl]; exact a2
  · rw [hF.i rfl]; exact a3
  · rw [hF.i rfl]; exact a4
  · rw [hF.i rfl]; exact a5 e he j hj
  · rw [hF.i rfl]; exact a8
  · rw [hF.i rfl]; exact a9
theorem MTd.m6 (h : MTd σ T) (hF : Fr A6 σ σ') {k : Nat} (h0 : σ'.1 71 4 = nI k) : MTd σ' (fdT T k) := by
  obtain ⟨a1, a2, a3, a4, a5, a6, a7, a8, a9⟩ := h
  refine ⟨fun t ht => (a1 t ht).fr hF, ?_, ?_, ?_, fun e he j hj => ?_, a6.fr hF, fun s hs => ?_, h0, ?_⟩
  · rw [hF.i rfl]; exact a2
  · rw [hF.i rfl]; exact a3
  · rw [hF.i rfl]; exact a4
  · rw [hF.i rfl]; exact a5 e he j hj
  · rw [hF.r (fun _ => rfl), hF.r (fun _ => rfl), hF.r (fun _ => rfl)]; exact a7 s hs
  · rw [hF.i rfl]; exact a9
theorem sX9_finds (hT : MTd σ T) {k : Nat} {a : Int32} (ha : a = nI k) (h : ∀ σ', Fr FM σ σ' → MTd σ' (fnd T k).2 → post (fnd T k).1 σ') : vX9_finds a σ post := by
  subst ha
  rintro _ rfl
  exact h _ (A6_FM (Fr.wI rfl)) (hT.m6 (Fr.wI rfl) (by rw [wI_at, if_pos rfl]))
theorem tsz_ok (hO : Tok T) {s : Nat} (hs : s < 4) : tsz T s ≤ 60 := (hO.2.2.2.2.2.2.2.1 s hs).2
theorem tfo_ok (hO : Tok T) {s : Nat} (hs : s < 4) : tfo T s < 3 := (hO.2.2.2.2.2.2.2.1 s hs).1
theorem sM_type (hT : MTd σ T) (hO : Tok T) {p q : Int32} (h : ∀ σ', Fr FM σ σ' → MTd σ' (r_type T p q).2 → post (r_type T p q).1 σ') : vX9_type p q σ post := by
  refine gText (fun e => ?_) (fun t ht e1 => gIn (n := 256) (by omega) (by decide) (fun e => ?_) (fun b hb e2 => ⟨?_, ?_⟩))
  · have hb := h σ Fr.rf; rw [r_type, iff_f (by rw [e]; rfl)] at hb; exact hb hT
  · have hb := h σ Fr.rf; rw [r_type, iff_f (by rw [e]; simp)] at hb; exact hb hT
  · subst e1; exact vp_in_nI ht (by omega)
  · subst e1 e2
    rw [r_type, iff_t (by rw [ib_t ht (by omega), ib_t hb (by omega)]; rfl), Nn_nI (by omega), Nn_nI (by omega)] at h
    obtain ⟨b1, b2, b3⟩ := hT.1 t ht
    have hlim : lim t ≤ 59 := by unfold lim; repeat' split
                                 all_goals omega
    rw [nI_c (by omega), b1]
    have core : ∀ y0 : Int32, y0 = nI (lim t) → vX9_type_49 post (nI t) (nI b) y0 (nI (tn T t)) σ := by
      rintro _ rfl
      unfold vX9_type_49
      rw [nI_eq2 (by omega) (by omega), nI_c (by omega), b1, k60, nI_mul, nI_add, nI_c (by omega)]
      refine ⟨fun q => ?_, fun q => ⟨vp_in_nI ht (by omega), vp_in_nI (by omega) (by omega), ?_⟩⟩
      · have hb := h σ Fr.rf; rw [if_pos q] at hb; exact hb hT
      · rintro _ rfl
        refine ⟨vp_in_nI ht (by omega), vp_in_nI ht (by omega), ?_⟩
        rintro _ rfl
        refine ⟨vp_in_nI ht (by omega), ?_⟩
        rw [wI_at, if_pos rfl, wI_ne (by decide), b1, nI_1]
        rw [if_neg q] at h
        have hF : Fr A1 σ (wI (wI σ 76 (60 * t + tn T t) (nI b)) 77 t (nI (tn T t + 1))) := (Fr.wI rfl).tr' (Fr.wI rfl)
        refine h _ (A1_FM hF) (hT.m1 hF (fun a ha => ?_))
        obtain ⟨c1, c2, c3⟩ := hT.1 a ha
        have hla : lim a ≤ 59 := by unfold lim; repeat' split
                                    all_goals omega
        refine ⟨?_, ?_, fun i hi => ?_⟩
        · rw [wI_at]
          show _ = nI (up (tn T) t (tn T t + 1) a)
          by_cases e : a = t
          · subst e; rw [if_pos rfl, up_s]
          · rw [if_neg e, wI_ne (by decide), up_n e]; exact c1
        · show up (tn T) t (tn T t + 1) a ≤ lim a
          by_cases e : a = t
          · subst e; rw [up_s]; omega
          · rw [up_n e]; exact c2
        · have hi : i < up (tn T) t (tn T t + 1) a := hi
          rw [wI_ne (by decide), wI_at]
          show _ = nI (if a = t ∧ i = tn T t then b else tB T a i) ∧ (if a = t ∧ i = tn T t then b else tB T a i) < 256
          by_cases e : a = t
          · subst e
            rw [up_s] at hi
            by_cases e2 : i = tn T a
            · subst e2; rw [if_pos rfl, if_pos ⟨rfl, rfl⟩]; exact ⟨rfl, hb⟩
            · rw [if_neg (by omega), if_neg (fun h => e2 h.2)]; exact c3 i (by omega)
          · rw [up_n e] at hi
            rw [if_neg (by omega), if_neg (fun h => e h.1)]; exact c3 i hi
    rcases (by omega : t = 0 ∨ t = 1 ∨ t = 2) with rfl | rfl | rfl
    · exact ⟨fun _ => core 8 rfl, fun q => absurd rfl q⟩
    · exact ⟨fun q => absurd q (by decide), fun _ => ⟨fun _ => core 59 rfl, fun q => absurd rfl q⟩⟩
    · exact ⟨fun q => absurd q (by decide), fun _ => ⟨fun q => absurd q (by decide), fun _ => core 47 rfl⟩⟩
theorem MTx.cut {t n m : Nat} {B : Nat → Nat} (h : MTx σ t n B) (hm : m ≤ n) (hF : Fr A1 σ σ') (h76 : σ'.1 76 = σ.1 76) (h77 : σ'.1 77 t = nI m) : MTx σ' t m B := ⟨h77, by have := h.2.1; omega, fun i hi => by rw [h76]; exact h.2.2 i (by omega)⟩
theorem sM_wipe (hT : MTd σ T) (hO : Tok T) {p : Int32} (h : ∀ σ', Fr FM σ σ' → MTd σ' (r_wipe T p).2 → post (r_wipe T p).1 σ') : vX9_wipe p σ post := by
  refine gText (fun e => ?_) (fun t ht e1 => ⟨?_, ?_⟩)
  · have hb := h σ Fr.rf; rw [r_wipe, iff_f e] at hb; exact hb hT
  · subst e1; exact vp_in_nI ht (by omega)
  · subst e1
    rw [r_wipe, iff_t (ib_t ht (by omega)), Nn_nI (by omega)] at h
    rw [nI_c (by omega), (hT.1 t ht).1]
    rintro _ rfl
    refine ⟨vp_in_nI ht (by omega), ?_⟩
    rintro _ rfl
    have hF : Fr A1 σ (wI σ 77 t 0) := Fr.wI rfl
    refine h _ (A1_FM hF) (hT.m1 hF (fun a ha => ?_))
    show MTx _ a (up (tn T) t 0 a) (tB T a)
    by_cases e : a = t
    · subst e; rw [up_s]; exact (hT.1 a ha).cut (Nat.zero_le _) hF (wI_ne (by decide)) (by rw [wI_at, if_pos rfl]; rfl)
    · rw [up_n e]; exact (hT.1 a ha).cut (Nat.le_refl _) hF (wI_ne (by decide)) (by rw [wI_at, if_neg e]; exact (hT.1 a ha).1)
theorem sM_undo (hT : MTd σ T) (hO : Tok T) {p : Int32} (h : ∀ σ', Fr FM σ σ' → MTd σ' (r_undo T p).2 → post (r_undo T p).1 σ') : vX9_undo p σ post := by
  refine gText (fun e => ?_) (fun t ht e1 => ⟨?_, ?_⟩)
  · have hb := h σ Fr.rf; rw [r_undo, iff_f e] at hb; exact hb hT
  · subst e1; exact vp_in_nI ht (by omega)
  · subst e1
    rw [r_undo, iff_t (ib_t ht (by omega)), Nn_nI (by omega)] at h
    obtain ⟨b1, b2, -⟩ := hT.1 t ht
    have hlim : lim t ≤ 59 := by unfold lim; repeat' split
                                 all_goals omega
    rw [nI_c (by omega), b1, k0, nI_eq2 (by omega) (by omega)]
    refine ⟨fun q => ?_, fun q => ⟨vp_in_nI ht (by omega), vp_in_nI ht (by omega), ?_⟩⟩
    · have hb := h σ Fr.rf; rw [if_pos q] at hb; exact hb hT
    · rw [if_neg q] at h
      rintro _ rfl
      refine ⟨vp_in_nI ht (by omega), ?_⟩
      rw [k1, pk_sub (by omega), wI_at, if_pos rfl]
      have hF : Fr A1 σ (wI σ 77 t (nI (tn T t - 1))) := Fr.wI rfl
      refine h _ (A1_FM hF) (hT.m1 hF (fun a ha => ?_))
      show MTx _ a (up (tn T) t (tn T t - 1) a) (tB T a)
      by_cases e : a = t
      · subst e; rw [up_s]; exact (hT.1 a ha).cut (by omega) hF (wI_ne (by decide)) (by rw [wI_at, if_pos rfl])
      · rw [up_n e]; exact (hT.1 a ha).cut (Nat.le_refl _) hF (wI_ne (by decide)) (by rw [wI_at, if_neg e]; exact (hT.1 a ha).1)
theorem sM_rifle (hT : MTd σ T) (hO : Tok T) {p q : Int32} (h : ∀ σ', Fr FM σ σ' → MTd σ' (r_rifle T p q).2 → post (r_rifle T p q).1 σ') : vX9_rifle p q σ post := by
  refine gTwo (fun e => ?_) (fun t ht e1 => ?_)
  · have hb := h σ Fr.rf; rw [r_rifle, iff_f (by rw [e]; rfl)] at hb; exact hb hT
  · subst e1
    have core : ∀ (n : Nat) (y0 : Int64), n < 6 → y0.toInt = (n : Int) - 1 → n = (if t = 0 then 5 else 4) → vX9_rifle_23 post (nI t) q y0 (0 : Int64) q.toInt64 σ := by
      intro n y0 hn6 hy hn
      unfold vX9_rifle_23
      refine gIn (n := n) (by omega) hy (fun e => ?_) (fun v hv e2 => ⟨vp_in_nI ht (by omega), ?_⟩)
      · have hb := h σ Fr.rf
        rw [r_rifle, iff_f (by rw [Nn_nI (by omega), ← hn, e]; simp)] at hb; exact hb hT
      · subst e2
        rw [r_rifle, iff_t (by rw [Nn_nI (by omega), ← hn, ib_t ht (by omega), ib_t hv (by omega)]; rfl), Nn_nI (by omega), Nn_nI (by omega)] at h
        rintro _ rfl
        refine ⟨vp_in_nI ht (by omega), ?_⟩
        rintro _ rfl
        rw [nI_c (by omega)]
        have hF : Fr A2 σ (wI σ 81 t (nI v)) := Fr.wI rfl
        have a2 := hT.2.1
        have a3 := hT.2.2.1
        rcases (by omega : t = 0 ∨ t = 1) with rfl | rfl
        · rw [if_pos rfl] at h
          rw [a2]
          exact h _ (A2_FM hF) (hT.m2 hF (by rw [wI_at, if_pos rfl]) (by rw [wI_nf (by decide)]; exact a3))
        · rw [if_neg (by omega)] at h
          rw [a3]
          exact h _ (A2_FM hF) (hT.m2 hF (by rw [wI_nf (by decide)]; exact a2) (by rw [wI_at, if_pos rfl]))
    rw [k0, nI_eq2 (by omega) (by omega)]
    exact ⟨fun e => core 5 4 (by omega) (by decide) (by rw [if_pos e]), fun e => core 4 3 (by omega) (by decide) (by rw [if_neg e])⟩
theorem sM_event (hT : MTd σ T) (hO : Tok T) {p q r : Int32} (h : ∀ σ', Fr FM σ σ' → MTd σ' (r_event T p q r).2 → post (r_event T p q r).1 σ') : vX9_event p q r σ post := by
  have g9 := hO.2.2.2.1
  refine gIn (n := 3) (by omega) (by decide) (fun e => ?_) (fun k hk e1 => gTick (fun e => ?_) (fun t ht e2 => gIn (n := 12) (by omega) (by decide) (fun e => ?_) (fun v hv e3 => ?_)))
  · have hb := h σ Fr.rf; rw [r_event, iff_f (by rw [e]; rfl)] at hb; exact hb hT
  · have hb := h σ Fr.rf; rw [r_event, iff_f (by rw [e]; simp)] at hb; exact hb hT
  · have hb := h σ Fr.rf; rw [r_event, iff_f (by rw [e]; simp)] at hb; exact hb hT
  · subst e1 e2 e3
    rw [r_event, iff_t (by rw [ib_t hk (by omega), ib_t ht (by omega), ib_t hv (by omega)]; rfl), Nn_nI (by omega), Nn_nI (by omega), Nn_nI (by omega)] at h
    have a4 := hT.2.2.2.1
    have a5 := hT.2.2.2.2.1
    rw [a4, k8, nI_eq2 (by omega) (by omega)]
    refine ⟨fun q => ?_, fun q => ?_⟩
    · have hb := h σ Fr.rf; rw [if_pos q] at hb; exact hb hT
    · rw [if_neg q] at h
      rw [k3, nI_mul, nI_c (by omega)]
      refine ⟨vp_in_nI (by omega) (by omega), ?_⟩
      rintro _ rfl
      rw [wI_ne (by decide), a4, nI_mul, k1, nI_add, nI_c (by omega)]
      refine ⟨vp_in_nI (by omega) (by omega), ?_⟩
      rintro _ rfl
      rw [wI_ne (by decide), wI_ne (by decide), a4, nI_mul, k2, nI_add, nI_c (by omega)]
      refine ⟨vp_in_nI (by omega) (by omega), ?_⟩
      rintro _ rfl _ rfl
      rw [wI_at, if_pos rfl, wI_ne (by decide), wI_ne (by decide), wI_ne (by decide), a4, nI_add]
      have hF : Fr A3 σ (wI (wI (wI (wI σ 82 (3 * tne T) (nI k)) 82 (3 * tne T + 1) (nI t)) 82 (3 * tne T + 2) (nI v)) 71 13 (nI (tne T + 1))) := (((Fr.wI rfl).tr' (Fr.wI rfl)).tr' (Fr.wI rfl)).tr' (Fr.wI rfl)
      refine h _ (A3_FM hF) (hT.m3 hF (x := (tne T + 1, fun e j => if e = tne T then (if j = 0 then k else if j = 1 then t else v) else tE T e j)) (by rw [wI_at, if_pos rfl]) (fun e he j hj => ?_))
      have he : e < tne T + 1 := he
      show _ = nI (if e = tne T then (if j = 0 then k else if j = 1 then t else v) else tE T e j)
      rw [wI_ne (by decide), wI_at]
      by_cases e0 : e = tne T
      · subst e0
        rw [if_pos rfl]
        rcases (by omega : j = 0 ∨ j = 1 ∨ j = 2) with rfl | rfl | rfl
        · rw [if_neg (by omega), wI_at, if_neg (by omega), wI_at, if_pos (by omega)]; rfl
        · rw [if_neg (by omega), wI_at, if_pos (by omega)]; rfl
        · rw [if_pos (by omega)]; rfl
      · rw [if_neg e0, if_neg (by omega), wI_at, if_neg (by omega), wI_at, if_neg (by omega)]
        exact a5 e (by omega) j hj
theorem sM_back (hT : MTd σ T) (hO : Tok T) (h : ∀ σ', Fr FM σ σ' → MTd σ' (r_back T).2 → post (r_back T).1 σ') : vX9_back σ post := by
  have g9 := hO.2.2.2.1
  have a4 := hT.2.2.2.1
  have a5 := hT.2.2.2.2.1
  unfold vX9_back
  rw [a4, k0, nI_eq2 (by omega) (by omega)]
  unfold r_back at h
  refine ⟨fun q => ?_, fun q => ?_⟩
  · rw [if_pos q] at h; exact h σ Fr.rf hT
  · rw [if_neg q] at h
    rintro _ rfl
    rw [k1, pk_sub (by omega), wI_at, if_pos rfl]
    have hF : Fr A3 σ (wI σ 71 13 (nI (tne T - 1))) := Fr.wI rfl
    refine h _ (A3_FM hF) (hT.m3 hF (x := (tne T - 1, tE T)) (by rw [wI_at, if_pos rfl]) (fun e he j hj => ?_))
    have he : e < tne T - 1 := he
    rw [wI_ne (by decide)]; exact a5 e (by omega) j hj
theorem sM_seen (hT : MTd σ T) (hO : Tok T) {p q r : Int32} (h : ∀ σ', Fr FM σ σ' → MTd σ' (r_seen T p q r).2 → post (r_seen T p q r).1 σ') : vX9_seen p q r σ post := by
  refine gTick (fun e => ?_) (fun t ht e1 => gIn (n := 12) (by omega) (by decide) (fun e => ?_) (fun k hk e2 => gTwo (fun e => ?_) (fun v hv e3 => ?_)))
  · have hb := h σ Fr.rf; rw [r_seen, iff_f (by rw [e]; rfl)] at hb; exact hb hT
  · have hb := h σ Fr.rf; rw [r_seen, iff_f (by rw [e]; simp)] at hb; exact hb hT
  · have hb := h σ Fr.rf; rw [r_seen, iff_f (by rw [e]; simp)] at hb; exact hb hT
  · subst e1 e2 e3
    rw [r_seen, iff_t (by rw [ib_t hk (by omega), ib_t ht (by omega), ib_t hv (by omega)]; rfl), Nn_nI (by omega), Nn_nI (by omega), Nn_nI (by omega)] at h
    obtain ⟨a4, g9, a5⟩ := hT.2.2.2.2.2.1
    rw [a4, k8, nI_eq2 (by omega) (by omega)]
    refine ⟨fun q => ?_, fun q => ?_⟩
    · have hb := h σ Fr.rf; rw [if_pos q] at hb; exact hb hT
    · rw [if_neg q] at h
      rw [k3, nI_mul, nI_c (by omega)]
      refine ⟨vp_in_nI (by omega) (by omega), ?_⟩
      rintro _ rfl
      rw [wI_ne (by decide), a4, nI_mul, k1, nI_add, nI_c (by omega)]
      refine ⟨vp_in_nI (by omega) (by omega), ?_⟩
      rintro _ rfl
      rw [wI_ne (by decide), wI_ne (by decide), a4, nI_mul, k2, nI_add, nI_c (by omega)]
      refine ⟨vp_in_nI (by omega) (by omega), ?_⟩
      rintro _ rfl _ rfl
      rw [wI_at, if_pos rfl, wI_ne (by decide), wI_ne (by decide), wI_ne (by decide), a4, nI_add]
      have hF : Fr A4 σ (wI (wI (wI (wI σ 91 (3 * tnq T) (nI t)) 91 (3 * tnq T + 1) (nI k)) 91 (3 * tnq T + 2) (nI v)) 71 24 (nI (tnq T + 1))) := (((Fr.wI rfl).tr' (Fr.wI rfl)).tr' (Fr.wI rfl)).tr' (Fr.wI rfl)
      refine h _ (A4_FM hF) (hT.m4 hF (x := (tnq T + 1, fun e j => if e = tnq T then (if j = 0 then t else if j = 1 then k else v) else tQ T e j)) ⟨by rw [wI_at, if_pos rfl], by show tnq T + 1 ≤ 8; omega, fun e he => ?_⟩)
      have he : e < tnq T + 1 := he
      by_cases e0 : e = tnq T
      · subst e0
        refine ⟨fun j hj => ?_, ?_⟩
        · show _ = nI (if tnq T = tnq T then (if j = 0 then t else if j = 1 then k else v) else tQ T (tnq T) j)
          rw [wI_ne (by decide), wI_at, if_pos rfl]
          rcases (by omega : j = 0 ∨ j = 1 ∨ j = 2) with rfl | rfl | rfl
          · rw [if_neg (by omega), wI_at, if_neg (by omega), wI_at, if_pos (by omega)]; rfl
          · rw [if_neg (by omega), wI_at, if_pos (by omega)]; rfl
          · rw [if_pos (by omega)]; rfl
        · show (if tnq T = tnq T then _ else _) < 24 ∧ (if tnq T = tnq T then _ else _) < 12 ∧ (if tnq T = tnq T then _ else _) < 2
          refine ⟨by simp; exact ht, by simp; exact hk, by simp; exact hv⟩
      · obtain ⟨x1, x2⟩ := a5 e (by omega)
        refine ⟨fun j hj => ?_, ?_⟩
        · show _ = nI (if e = tnq T then _ else tQ T e j)
          rw [if_neg e0, wI_ne (by decide), wI_at, if_neg (by omega), wI_at, if_neg (by omega), wI_at, if_neg (by omega)]
          exact x1 j hj
        · show (if e = tnq T then _ else _) < 24 ∧ (if e = tnq T then _ else _) < 12 ∧ (if e = tnq T then _ else _) < 2
          rw [if_neg e0, if_neg e0, if_neg e0]; exact x2
theorem sM_forget (hT : MTd σ T) (h : ∀ σ', Fr FM σ σ' → MTd σ' (r_forget T).2 → post (r_forget T).1 σ') : vX9_forget σ post := by
  obtain ⟨a4, g9, a5⟩ := hT.2.2.2.2.2.1
  unfold vX9_forget
  rw [a4]
  rintro _ rfl _ rfl
  have hF : Fr A4 σ (wI σ 71 24 0) := Fr.wI rfl
  exact h _ (A4_FM hF) (hT.m4 hF (x := (0, tQ T)) ⟨by rw [wI_at, if_pos rfl]; rfl, Nat.zero_le 8, fun j hj => absurd hj (Nat.not_lt_zero j)⟩)
end MU
