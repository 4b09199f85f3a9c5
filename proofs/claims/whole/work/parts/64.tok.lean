/-! ===== what is told stays in its bounds ===== -/
section TK
variable {T : Td}
theorem Tok.fd (hO : Tok T) {k : Nat} (hk : k ≤ 5) : Tok (fdT T k) := by
  obtain ⟨a1, a2, a3, a4, a5, a6, a7, a8, a9⟩ := hO
  exact ⟨a1, a2, a3, a4, a5, a6, a7, a8, hk⟩
theorem Tok.fnd (hO : Tok T) {k : Nat} (hk : k ≤ 5) : Tok (fnd T k).2 := hO.fd hk
theorem Tok.sh (hO : Tok T) {x : (Nat → Bool) × (Nat → Nat) × (Nat → Nat) × (Nat → Nat → Int32)} (h : ∀ s, s < 4 → x.2.1 s < 3 ∧ x.2.2.1 s ≤ 60) : Tok (shT T x) := by
  obtain ⟨a1, a2, a3, a4, a5, a6, a7, a8, a9⟩ := hO
  exact ⟨a1, a2, a3, a4, a5, a6, a7, h, a9⟩
theorem Tok.type (hO : Tok T) (p q : Int32) : Tok (r_type T p q).2 := by
  obtain ⟨a1, a2⟩ := id hO
  unfold r_type
  split
  · rename_i hc
    simp only [Bool.and_eq_true] at hc
    obtain ⟨t, ht, rfl⟩ := ib_of hc.1 (by omega)
    obtain ⟨b, hb, rfl⟩ := ib_of hc.2 (by omega)
    rw [Nn_nI (by omega), Nn_nI (by omega)]
    split
    · exact hO
    · rename_i hl
      refine ⟨fun a ha => ?_, a2⟩
      obtain ⟨c1, c2⟩ := a1 a ha
      have c0 := (a1 t ht).1
      show up (tn T) t (tn T t + 1) a ≤ lim a ∧ ∀ i, i < up (tn T) t (tn T t + 1) a → (if a = t ∧ i = tn T t then b else tB T a i) < 256
      by_cases e : a = t
      · subst e
        rw [up_s]
        refine ⟨by omega, fun i hi => ?_⟩
        split
        · exact hb
        · rename_i h2
          exact c2 i (by omega)
      · rw [up_n e]
        refine ⟨c1, fun i hi => ?_⟩
        rw [if_neg (fun h => e h.1)]; exact c2 i hi
  · exact hO
theorem Tok.tx (hO : Tok T) {t m : Nat} (hm : m ≤ tn T t) : Tok ((up (tn T) t m, tB T), T.2) := by
  obtain ⟨a1, a2⟩ := id hO
  refine ⟨fun a ha => ?_, a2⟩
  obtain ⟨c1, c2⟩ := a1 a ha
  show up (tn T) t m a ≤ lim a ∧ ∀ i, i < up (tn T) t m a → tB T a i < 256
  by_cases e : a = t
  · subst e
    rw [up_s]
    exact ⟨by omega, fun i hi => c2 i (by omega)⟩
  · rw [up_n e]; exact ⟨c1, c2⟩
theorem Tok.wipe (hO : Tok T) (p : Int32) : Tok (r_wipe T p).2 := by
  unfold r_wipe
  split
  · exact hO.tx (Nat.zero_le _)
  · exact hO
theorem Tok.undo (hO : Tok T) (p : Int32) : Tok (r_undo T p).2 := by
  unfold r_undo
  split
  · split
    · exact hO
    · exact hO.tx (by omega)
  · exact hO
theorem Tok.rifle (hO : Tok T) (p q : Int32) : Tok (r_rifle T p q).2 := by
  obtain ⟨a1, a2, a3, a4⟩ := id hO
  unfold r_rifle
  by_cases h0 : Nn p = 0
  · simp only [if_pos h0]
    split
    · rename_i hc
      simp only [Bool.and_eq_true] at hc
      obtain ⟨v, hv, rfl⟩ := ib_of hc.2 (by omega)
      exact ⟨a1, by show Nn (nI v) < 5; rw [Nn_nI (by omega)]; exact hv, a3, a4⟩
    · exact hO
  · simp only [if_neg h0]
    split
    · rename_i hc
      simp only [Bool.and_eq_true] at hc
      obtain ⟨v, hv, rfl⟩ := ib_of hc.2 (by omega)
      exact ⟨a1, a2, by show Nn (nI v) < 4; rw [Nn_nI (by omega)]; exact hv, a4⟩
    · exact hO
theorem Tok.back (hO : Tok T) : Tok (r_back T).2 := by
  obtain ⟨a1, a2, a3, a4, a5, a6⟩ := id hO
  unfold r_back
  split
  · exact hO
  · exact ⟨a1, a2, a3, by show tne T - 1 ≤ 8; omega, fun e he => a5 e (by have : e < tne T - 1 := he; omega), a6⟩
theorem Tok.seen (hO : Tok T) (p q r : Int32) : Tok (r_seen T p q r).2 := by
  obtain ⟨a1, a2, a3, a4, a5, a6, a7, a8⟩ := id hO
  unfold r_seen
  split
  · rename_i hc
    simp only [Bool.and_eq_true] at hc
    obtain ⟨⟨c1, c2⟩, c3⟩ := hc
    obtain ⟨k, hk, rfl⟩ := ib_of c1 (by omega)
    obtain ⟨t, ht, rfl⟩ := ib_of c2 (by omega)
    obtain ⟨v, hv, rfl⟩ := ib_of c3 (by omega)
    rw [Nn_nI (by omega), Nn_nI (by omega), Nn_nI (by omega)]
    split
    · exact hO
    · refine ⟨a1, a2, a3, a4, a5, by show tnq T + 1 ≤ 8; omega, fun e he => ?_, a8⟩
      have he : e < tnq T + 1 := he
      show (if e = tnq T then _ else _) < 24 ∧ (if e = tnq T then _ else _) < 12 ∧ (if e = tnq T then _ else _) < 2
      by_cases e0 : e = tnq T
      · simp only [if_pos e0]; exact ⟨by simp; exact hk, by simp; exact ht, by simp; exact hv⟩
      · simp only [if_neg e0]; exact a7 e (by omega)
  · exact hO
theorem Tok.forget (hO : Tok T) : Tok (r_forget T).2 := by
  obtain ⟨a1, a2, a3, a4, a5, a6, a7, a8⟩ := id hO
  exact ⟨a1, a2, a3, a4, a5, Nat.zero_le 8, fun j hj => absurd hj (Nat.not_lt_zero j), a8⟩
theorem Tok.sheet (hO : Tok T) (p q r : Int32) : Tok (r_sheet T p q r).2 := by
  unfold r_sheet
  split
  · rename_i hc
    simp only [Bool.and_eq_true, decide_eq_true_eq] at hc
    obtain ⟨⟨c1, c2⟩, c3⟩ := hc
    obtain ⟨f, hf, rfl⟩ := ib_of c2 (by omega)
    split
    · rename_i h0
      obtain ⟨n, hn, rfl⟩ := inb_of (x := r) (n := 61) ⟨h0, by omega⟩ (by omega)
      rw [Nn_nI (by omega), Nn_nI (by omega)]
      refine hO.sh (fun s hs => ?_)
      obtain ⟨x, y⟩ := hO.2.2.2.2.2.2.2.1 s hs
      show up (tfo T) (Nn p) f s < 3 ∧ up (tsz T) (Nn p) n s ≤ 60
      unfold up
      exact ⟨by split <;> omega, by split <;> omega⟩
    · exact hO.fnd (by omega)
  · exact hO
theorem Tok.lose (hO : Tok T) (p : Int32) : Tok (r_lose T p).2 := by
  unfold r_lose
  split
  · split
    · exact hO.fnd (by omega)
    · exact hO.sh (fun s hs => hO.2.2.2.2.2.2.2.1 s hs)
  · exact hO
theorem Tok.lay (hO : Tok T) (p q r v : Int32) : Tok (r_lay T p q r v).2 := by
  unfold r_lay
  split
  · split
    · exact hO.sh (fun s hs => hO.2.2.2.2.2.2.2.1 s hs)
    · exact hO.fnd (by have := lck_le (T := T) (Nn p) (Nn q) r; omega)
  · exact hO
theorem Tok.get (hO : Tok T) (p q r : Int32) : Tok (r_get T p q r).2 := by
  unfold r_get
  split
  · split
    · exact hO
    · exact hO.fd (by have := lck_le (T := T) (Nn p) (Nn q) r; omega)
  · exact hO
theorem Tok.copy (hO : Tok T) (p i q j n : Int32) : Tok (r_copy T p i q j n).2 := by
  unfold r_copy
  split
  · split
    · exact hO.fnd (by omega)
    · split
      · split
        · exact hO.sh (fun s hs => hO.2.2.2.2.2.2.2.1 s hs)
        · exact hO.fnd (by omega)
      · exact hO.fnd (by omega)
  · exact hO
theorem Tok.write (hO : Tok T) (p q : Int32) : Tok (r_write T p q).2 := by
  unfold r_write
  split
  · split
    · exact hO.fnd (by omega)
    · exact hO.sh (fun s hs => hO.2.2.2.2.2.2.2.1 s hs)
  · exact hO
theorem Tok.rdl (s : Nat) : ∀ (f n : Nat) {T : Td}, Tok T → Tok (rdl s f n T).2
  | 0, n, T, h => h
  | f + 1, n, T, h => by
    rw [_root_.Jvm.Pilot.CTinDucksLaw_law_r6607_dcb604.rdl]
    split
    · exact h
    · split
      · exact h
      · exact Tok.rdl s f _ (h.ev _ _ _)
theorem Tok.read (hO : Tok T) (p : Int32) : Tok (r_read T p).2 := by
  unfold r_read
  split
  · split
    · exact hO.fnd (by omega)
    · exact Tok.rdl _ _ _ hO
  · exact hO
end TK
