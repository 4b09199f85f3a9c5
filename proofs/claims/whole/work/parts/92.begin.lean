/-! ===== what new objects hold ===== -/
def s0L : List (Nat × Nat × Int32) := [(54, 1, 2), (54, 2, 3), (54, 7, -1), (57, 0, 1), (57, 1, 4), (57, 2, 12), (57, 7, -1), (60, 0, 2), (60, 1, 3), (60, 2, 12), (60, 7, -1), (23, 3, 2), (23, 4, 1), (35, 3, 2), (35, 4, 1), (63, 3, 1), (65, 3, 1), (67, 3, 1), (69, 3, 1), (72, 0, -1), (72, 1, -1), (72, 2, -1), (72, 3, -1), (81, 0, 2), (81, 1, 1)]
def s0I (a b : Nat) : Int32 := match s0L.find? (fun x => Nat.beq x.1 a && Nat.beq x.2.1 b) with
  | some x => x.2.2
  | none => 0
def s0 : Hp := (s0I, fun _ _ => 0, fun _ _ => 15)
def T0 : Td := ((fun _ => 0, fun _ _ => 0), (2, 1), (0, fun _ _ => 0), (0, fun _ _ => 0), (fun _ => true, fun _ => 0, fun _ => 0, fun _ _ => 0), 0)
theorem s0_tx : ∀ t, t < 3 → s0I (54 + 3 * t) 0 = nI t ∧ s0I (54 + 3 * t) 1 = nI (wd t) ∧ s0I (54 + 3 * t) 2 = nI (mst t) ∧ s0I (54 + 3 * t) 5 = nI 0 ∧ s0I 77 t = nI 0 := by decide
theorem s0_ev : ∀ t, t < 24 → s0I 14 t = 0 := by decide
theorem s0_sh : ∀ s, s < 4 → s0I (63 + 2 * s) 1 = nI 0 ∧ s0I (63 + 2 * s) 2 = nI 0 ∧ s0I (63 + 2 * s) 3 = 1 ∧ s0I 72 s = -1 ∧ s0I 73 s = nI 0 := by decide
theorem Tok0 : Tok T0 := by
  refine ⟨fun t ht => ⟨Nat.zero_le _, fun i hi => absurd hi (Nat.not_lt_zero i)⟩, by decide, by decide, by decide, fun e he => absurd he (Nat.not_lt_zero e), by decide, fun j hj => absurd hj (Nat.not_lt_zero j), fun s hs => ⟨(by decide : 0 < 3), (by decide : 0 ≤ 60)⟩, by decide⟩
theorem Inv0 : Inv s0 := by
  refine ⟨T0, Or.inl ⟨⟨fun t ht => ?_, by decide, by decide, ⟨by decide, by decide, fun e he => absurd he (Nat.not_lt_zero e), fun t ht e he => ?_⟩, ⟨by decide, by decide, fun j hj => absurd hj (Nat.not_lt_zero j)⟩, fun s hs => ?_, by decide, rfl⟩, by decide⟩, ⟨fun t ht => ?_, by decide, by decide, by decide, fun e he => absurd he (Nat.not_lt_zero e), ⟨by decide, by decide, fun j hj => absurd hj (Nat.not_lt_zero j)⟩, fun s hs => ?_, by decide, by decide⟩, Tok0⟩
  · obtain ⟨h0, h1, h2, h3, -⟩ := s0_tx t ht
    exact ⟨h0, h1, h2, h3, Nat.zero_le _, fun i hi => absurd hi (Nat.not_lt_zero i)⟩
  · show bt (s0I 14 t) e = (decide (e < 0) && _)
    rw [s0_ev t ht, bt_zero, decide_eq_false (Nat.not_lt_zero e), Bool.false_and]
  · obtain ⟨h1, h2, h3, -, -⟩ := s0_sh s hs
    exact ⟨h1, h2, h3, fun i hi => absurd hi (Nat.not_lt_zero i)⟩
  · exact ⟨(s0_tx t ht).2.2.2.2, Nat.zero_le _, fun i hi => absurd hi (Nat.not_lt_zero i)⟩
  · obtain ⟨-, -, -, h4, h5⟩ := s0_sh s hs
    exact ⟨h4, h5, fun i hi => absurd hi (Nat.not_lt_zero i)⟩
