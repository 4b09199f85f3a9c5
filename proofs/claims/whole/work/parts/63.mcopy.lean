section MW
variable {σ σ' : Hp} {T : Td} {post : Int32 → Hp → Prop}
theorem evT_sz (T : Td) (p q r : Int32) : tsz (r_event T p q r).2 = tsz T ∧ tit (r_event T p q r).2 = tit T ∧ tls (r_event T p q r).2 = tls T := by
  unfold r_event
  split
  · split <;> exact ⟨rfl, rfl, rfl⟩
  · exact ⟨rfl, rfl, rfl⟩
theorem Tok.ev (hO : Tok T) (p q r : Int32) : Tok (r_event T p q r).2 := by
  obtain ⟨a1, a2, a3, a4, a5, a6⟩ := id hO
  unfold r_event
  split
  · rename_i hc
    simp only [Bool.and_eq_true] at hc
    obtain ⟨⟨c1, c2⟩, c3⟩ := hc
    obtain ⟨k, hk, rfl⟩ := ib_of c1 (by omega)
    obtain ⟨t, ht, rfl⟩ := ib_of c2 (by omega)
    obtain ⟨v, hv, rfl⟩ := ib_of c3 (by omega)
    rw [Nn_nI (by omega), Nn_nI (by omega), Nn_nI (by omega)]
    split
    · exact hO
    · refine ⟨a1, a2, a3, by show tne T + 1 ≤ 8; omega, fun e he => ?_, a6⟩
      have he : e < tne T + 1 := he
      show (if e = tne T then _ else _) < 3 ∧ (if e = tne T then _ else _) < 24 ∧ (if e = tne T then _ else _) < 12
      by_cases e0 : e = tne T
      · simp only [if_pos e0]; exact ⟨by simp; exact hk, by simp; exact ht, by simp; exact hv⟩
      · simp only [if_neg e0]; exact a5 e (by omega)
  · exact hO
theorem ev_neg (T : Td) (hO : Tok T) (p q r : Int32) : ((r_event T p q r).1 < 0) = (((r_event T p q r).1).toInt < 0) := by
  rw [fa_lt]; rfl
theorem ev_stop (T : Td) (hO : Tok T) (p q r : Int32) (h : ((r_event T p q r).1).toInt < 0) : (r_event T p q r).2 = T := by
  have a4 := hO.2.2.2.1
  unfold r_event at h ⊢
  split
  · rename_i hc
    rw [if_pos hc] at h
    split
    · rfl
    · rename_i hc2
      rw [if_neg hc2] at h
      have h : (nI (tne T + 1)).toInt < 0 := h
      rw [nI_toInt (by omega)] at h
      omega
  · rfl
theorem sM_read (hT : MTd σ T) (hO : Tok T) {p : Int32} (h : ∀ σ', Fr FM σ σ' → MTd σ' (r_read T p).2 → post (r_read T p).1 σ') : vX9_read p σ post := by
  refine gSheet (fun e => ?_) (fun s hs e1 => ⟨?_, ?_⟩)
  · have hb := h σ Fr.rf; rw [r_read, iff_f e] at hb; exact hb hT
  · subst e1; exact vp_in_nI hs (by omega)
  · subst e1
    rw [r_read, iff_t (ib_t hs (by omega)), Nn_nI (by omega)] at h
    rw [nI_c (by omega), (form_neg hT hO hs).1]
    refine ⟨fun q => ?_, fun q => ?_⟩
    · rw [iff_f q] at h
      suffices L : ∀ (f n : Nat) (σ1 : Hp) (T1 : Td), n + f = 21 → Fr FM σ σ1 → MTd σ1 T1 → Tok T1 → rdl s f n T1 = rdl s 21 0 T → vX9_read_29 post (fun z2_6 σ_7 => post z2_6 σ_7) (nI s) (f + 2) (nI n) (1 : Int32) σ1 from ⟨23, L 21 0 σ T (by omega) Fr.rf hT hO rfl⟩
      intro f
      induction f with
      | zero =>
        intro n σ1 T1 hn hF hT1 hO1 he
        have hsz := tsz_ok hO1 hs
        obtain ⟨b1, b2, b3⟩ := hT1.2.2.2.2.2.2.1 s hs
        rw [vX9_read_29]; dsimp only
        refine ⟨fun q => absurd q (by decide), fun _ => ⟨vp_in_nI hs (by omega), ?_⟩⟩
        rw [nI_c (by omega), b2, k3, nI_mul, nI_add, nI_lt2 (by omega) (by omega)]
        refine ⟨fun _ => ?_, fun c => absurd (by omega) c⟩
        rw [rdl] at he
        rw [← he] at h
        exact h σ1 hF hT1
      | succ f ih =>
        intro n σ1 T1 hn hF hT1 hO1 he
        have hsz := tsz_ok hO1 hs
        obtain ⟨b1, b2, b3⟩ := hT1.2.2.2.2.2.2.1 s hs
        rw [vX9_read_29]; dsimp only
        refine ⟨fun q => absurd q (by decide), fun _ => ⟨vp_in_nI hs (by omega), ?_⟩⟩
        rw [nI_c (by omega), b2, k3, nI_mul, nI_add, nI_lt2 (by omega) (by omega)]
        rw [rdl] at he
        refine ⟨fun c => ?_, fun c => ?_⟩
        · rw [if_pos c] at he
          rw [← he] at h
          exact h σ1 hF hT1
        · rw [if_neg c] at he
          rw [k60, nI_mul, nI_add]
          rintro _ rfl
          rw [k1, k2, nI_add, nI_add, nI_c (by omega), nI_c (by omega), nI_c (by omega)]
          refine ⟨vp_in_nI (by omega) (by omega), vp_in_nI (by omega) (by omega), vp_in_nI (by omega) (by omega), ?_⟩
          have x0 := b3 (3 * n) (by omega)
          have x1 := b3 (3 * n + 1) (by omega)
          have x2 := b3 (3 * n + 2) (by omega)
          rw [show 60 * s + 3 * n + 1 = 60 * s + (3 * n + 1) by omega, show 60 * s + 3 * n + 2 = 60 * s + (3 * n + 2) by omega, x0, x1, x2]
          refine sM_event hT1 hO1 (fun σ2 hF2 hT2 => ?_)
          rw [ev_neg T1 hO1]
          refine ⟨fun c2 => ?_, fun c2 => ?_⟩
          · rw [if_pos c2] at he
            rw [ev_stop T1 hO1 _ _ _ c2] at hT2
            unfold vX9_read_94
            refine ⟨fun _ => ?_, fun q => absurd rfl q⟩
            rintro _ rfl
            rw [vX9_read_29]; dsimp only
            refine ⟨fun _ => ?_, fun q => absurd rfl q⟩
            rw [k0, nI_add, Nat.add_zero]
            rw [← he] at h
            exact h σ2 (hF.tr' hF2) hT2
          · rw [if_neg c2] at he
            unfold vX9_read_94
            refine ⟨fun q => absurd q (by decide), fun _ => ?_⟩
            rintro _ rfl
            rw [nI_1]
            exact ih (n + 1) σ2 _ (by omega) (hF.tr' hF2) hT2 (hO1.ev _ _ _) he
    · have q : tls T s = true := by cases hl : tls T s
                                    · exact absurd hl q
                                    · rfl
      rw [iff_t q] at h
      exact sX9_finds hT rfl h
theorem l_add {a b : Int32} (ha : 0 ≤ a.toInt) (hb : 0 ≤ b.toInt) {x : Int32} : (lg_cmp (a.toInt64 + b.toInt64) x.toInt64 ≤ 0) = (a.toInt + b.toInt ≤ x.toInt) ∧ (0 < lg_cmp (a.toInt64 + b.toInt64) x.toInt64) = (x.toInt < a.toInt + b.toInt) := by
  have h1 := fb_rng a
  have h2 := fb_rng b
  have h : (a.toInt64 + b.toInt64).toInt = a.toInt + b.toInt := by
    rw [fb_addL (by rw [Int32.toInt_toInt64, Int32.toInt_toInt64]; omega) (by rw [Int32.toInt_toInt64, Int32.toInt_toInt64]; omega), Int32.toInt_toInt64, Int32.toInt_toInt64]
  rw [lg_cmp_le, lg_cmp_gt, fa_le64, fa_lt64, h, Int32.toInt_toInt64]
  exact ⟨rfl, rfl⟩
theorem sM_copy (hT : MTd σ T) (hO : Tok T) {p i q j n : Int32} (h : ∀ σ', Fr FM σ σ' → MTd σ' (r_copy T p i q j n).2 → post (r_copy T p i q j n).1 σ') : vX9_copy p i q j n σ post := by
  refine gSheet (fun e => ?_) (fun s hs e1 => gSheet (fun e => ?_) (fun t ht e2 => ⟨?_, ?_⟩))
  · have hb := h σ Fr.rf; rw [r_copy, iff_f (by rw [e]; rfl)] at hb; exact hb hT
  · have hb := h σ Fr.rf; rw [r_copy, iff_f (by rw [e]; simp)] at hb; exact hb hT
  · subst e1; exact vp_in_nI hs (by omega)
  · subst e1 e2
    have hss := tsz_ok hO hs
    have hst := tsz_ok hO ht
    have hfs := tfo_ok hO hs
    have hft := tfo_ok hO ht
    obtain ⟨b1, b2, b3⟩ := hT.2.2.2.2.2.2.1 s hs
    obtain ⟨c1, c2, c3⟩ := hT.2.2.2.2.2.2.1 t ht
    rw [r_copy, iff_t (by rw [ib_t hs (by omega), ib_t ht (by omega)]; rfl), Nn_nI (by omega), Nn_nI (by omega)] at h
    rw [nI_c (by omega), nI_c (by omega), (form_neg hT hO hs).2, (form_neg hT hO ht).1]
    refine ⟨fun q => ?_, fun q => ⟨vp_in_nI ht (by omega), fun q2 => ⟨vp_in_nI hs (by omega), vp_in_nI ht (by omega), ?_⟩, fun q2 => ?_⟩⟩
    · rw [iff_t (by rw [q]; rfl)] at h; exact sX9_finds hT rfl h
    · have q : tls T s = false := by cases hl : tls T s
                                     · rfl
                                     · exact absurd hl q
      rw [iff_f (by rw [q, q2]; rfl)] at h
      rw [b1, c1, iff_f q, iff_f q2, nI_eq2 (by omega) (by omega), b2, c2]
      refine ⟨fun q3 => ?_, fun q3 => ?_⟩
      · rw [if_pos q3] at h
        have bad2 : ¬ (0 ≤ i.toInt ∧ 0 ≤ j.toInt ∧ 0 ≤ n.toInt ∧ i.toInt + n.toInt ≤ tsz T s ∧ j.toInt + n.toInt ≤ tsz T t) → vX9_finds (2 : Int32) σ (fun r_18 σ_17 => post r_18 σ_17) := fun hno => by
          rw [if_neg hno] at h; exact sX9_finds hT rfl h
        rw [fa_lt i 0, fa_lt j 0, fa_lt n 0, show (0 : Int32).toInt = 0 by decide]
        refine ⟨fun c => bad2 (by omega), fun ci => ⟨fun c => bad2 (by omega), fun cj => ⟨fun c => bad2 (by omega), fun cn => ⟨vp_in_nI hs (by omega), ?_⟩⟩⟩⟩
        rw [(l_add (by omega) (by omega)).2, (l_add (by omega) (by omega)).1, nI_toInt (by omega), nI_toInt (by omega)]
        refine ⟨fun c => bad2 (by omega), fun c4 => ⟨vp_in_nI ht (by omega), fun c5 => ?_, fun c => bad2 (by omega)⟩⟩
        rw [if_pos (by omega)] at h
        obtain ⟨i, hi, rfl⟩ := inb_of (x := i) (n := 61) ⟨by omega, by omega⟩ (by omega)
        obtain ⟨j, hj, rfl⟩ := inb_of (x := j) (n := 61) ⟨by omega, by omega⟩ (by omega)
        obtain ⟨n, hn, rfl⟩ := inb_of (x := n) (n := 61) ⟨by omega, by omega⟩ (by omega)
        rw [nI_toInt (by omega), nI_toInt (by omega)] at c4 c5
        rw [Nn_nI (by omega), Nn_nI (by omega), Nn_nI (by omega)] at h
        have L2 : ∀ (d a : Nat) (σ1 : Hp), a + d = n → Fr A5 σ σ1 → σ1.1 72 = σ.1 72 → σ1.1 73 = σ.1 73 → (∀ b, b < n → σ1.1 75 b = tit T s (i + b)) → (∀ b, σ1.1 74 b = if 60 * t + j ≤ b ∧ b < 60 * t + j + a then tit T s (i + (b - (60 * t + j))) else σ.1 74 b) → vX9_copy_157 post (fun σ_32 => post (1 : Int32) σ_32) (nI t) (nI j) (nI n) (d + 1) (nI a) σ1 := by
          intro d
          induction d with
          | zero =>
            intro a σ1 hd hF h72 h73 h75 h74
            rw [vX9_copy_157]; dsimp only
            refine ⟨fun _ => ?_, fun c => absurd (nI_le (by omega) (by omega)) c⟩
            refine h σ1 (A5_FM hF) (hT.it hO hF h72 h73 (fun b hb => ?_) (fun x hx e b hb => ?_))
            · rw [h74]
              show _ = if j ≤ b ∧ b < j + n then tit T s (i + (b - j)) else tit T t b
              by_cases e : j ≤ b ∧ b < j + n
              · rw [if_pos (by omega), if_pos e, show 60 * t + b - (60 * t + j) = b - j by omega]
              · rw [if_neg (by omega), if_neg e]; exact c3 b hb
            · rw [h74, if_neg (by omega)]
          | succ d ih =>
            intro a σ1 hd hF h72 h73 h75 h74
            rw [vX9_copy_157]; dsimp only
            refine ⟨fun c => absurd c (nI_ge (by omega) (by omega)), fun _ => ?_⟩
            rw [k60, nI_mul, nI_add, nI_add, nI_c (by omega), nI_c (by omega), h75 a (by omega)]
            refine ⟨vp_in_nI (by omega) (by omega), vp_in_nI (by omega) (by omega), ?_⟩
            rintro _ rfl _ rfl
            rw [nI_1]
            refine ih (a + 1) _ (by omega) (hF.tr' (Fr.wI rfl)) (by rw [wI_ne (by decide)]; exact h72) (by rw [wI_ne (by decide)]; exact h73) (fun b hb => by rw [wI_ne (by decide)]; exact h75 b hb) (fun b => ?_)
            rw [wI_at]
            by_cases e : b = 60 * t + j + a
            · rw [if_pos e, if_pos (by omega), e, show 60 * t + j + a - (60 * t + j) = a by omega]
            · rw [if_neg e, h74]
              by_cases e2 : 60 * t + j ≤ b ∧ b < 60 * t + j + a
              · rw [if_pos e2, if_pos (by omega)]
              · rw [if_neg e2, if_neg (by omega)]
        suffices L1 : ∀ (d a : Nat) (σ1 : Hp), a + d = n → Fr A5 σ σ1 → σ1.1 72 = σ.1 72 → σ1.1 73 = σ.1 73 → σ1.1 74 = σ.1 74 → (∀ b, b < a → σ1.1 75 b = tit T s (i + b)) → vX9_copy_120 post (fun σ_31 => (∃ fu : Nat, vX9_copy_157 post (fun σ_32 => post (1 : Int32) σ_32) (nI t) (nI j) (nI n) fu (0 : Int32) σ_31)) (nI s) (nI i) (nI t) (nI j) (nI n) (d + 1) (nI a) σ1 from ⟨n + 1, L1 n 0 σ (by omega) Fr.rf rfl rfl rfl (fun b hb => absurd hb (Nat.not_lt_zero b))⟩
        intro d
        induction d with
        | zero =>
          intro a σ1 hd hF h72 h73 h74 h75
          rw [vX9_copy_120]; dsimp only
          refine ⟨fun _ => ⟨n + 1, L2 n 0 σ1 (by omega) hF h72 h73 (fun b hb => h75 b (by omega)) (fun b => by rw [if_neg (by omega), h74])⟩, fun c => absurd (nI_le (by omega) (by omega)) c⟩
        | succ d ih =>
          intro a σ1 hd hF h72 h73 h74 h75
          rw [vX9_copy_120]; dsimp only
          refine ⟨fun c => absurd c (nI_ge (by omega) (by omega)), fun _ => ?_⟩
          have x0 := b3 (i + a) (by omega)
          rw [k60, nI_mul, nI_add, nI_add, nI_c (by omega), nI_c (by omega), h74, show 60 * s + i + a = 60 * s + (i + a) by omega, x0]
          refine ⟨vp_in_nI (by omega) (by omega), vp_in_nI (by omega) (by omega), ?_⟩
          rintro _ rfl _ rfl
          rw [nI_1]
          refine ih (a + 1) _ (by omega) (hF.tr' (Fr.wI rfl)) (by rw [wI_ne (by decide)]; exact h72) (by rw [wI_ne (by decide)]; exact h73) (by rw [wI_ne (by decide)]; exact h74) (fun b hb => ?_)
          rw [wI_at]
          by_cases e : b = a
          · rw [if_pos e, e]
          · rw [if_neg e]; exact h75 b (by omega)
      · rw [if_neg q3] at h; exact sX9_finds hT rfl h
    · have q2 : tls T t = true := by cases hl : tls T t
                                     · exact absurd hl q2
                                     · rfl
      rw [iff_t (by rw [q2]; simp)] at h; exact sX9_finds hT rfl h
end MW
