/-! ===== String.indexOf on a constant ===== -/
theorem cf_J0_633 : CF RJ0 633 mJ0_indexOf_7cf53 2 := ⟨co_J0_indexOf_7cf53, tin1 11 (by decide +kernel), by decide +kernel, Or.inl (tin2 158 (by decide +kernel))⟩
theorem cf_J0_492 : CF RJ0 492 mJ0_isLatin1_aae02 0 := ⟨co_J0_isLatin1_aae02, tin1 11 (by decide +kernel), by decide +kernel, Or.inl (tin2 162 (by decide +kernel))⟩
theorem cf_J0_505 : CF RJ0 505 mJ0_length_8abf5 0 := ⟨co_J0_length_8abf5, tin1 11 (by decide +kernel), by decide +kernel, Or.inl (tin2 168 (by decide +kernel))⟩
theorem cf_J0_335 : CF RJ0 335 mJ0_coder_7d493 0 := ⟨co_J0_coder_7d493, tin1 11 (by decide +kernel), by decide +kernel, Or.inl (tin2 172 (by decide +kernel))⟩
theorem cf_J0_637 : CF RJ0 637 mJ1_indexOf_4cfef 4 := ⟨co_J1_indexOf_4cfef, tin1 12 (by decide +kernel), by decide +kernel, Or.inl (tin2 176 (by decide +kernel))⟩
theorem cf_J1_88 : CF RJ1 88 mJ1_canEncode_9a6ad 1 := ⟨co_J1_canEncode_9a6ad, tin1 12 (by decide +kernel), by decide +kernel, Or.inl (tin2 179 (by decide +kernel))⟩
theorem cf_J1_92 : CF RJ1 92 mJ9_max_7cf53 2 := ⟨co_J9_max_7cf53, tin1 13 (by decide +kernel), by decide +kernel, Or.inl (tin2 182 (by decide +kernel))⟩
theorem cf_J1_38 : CF RJ1 38 mJ9_min_7cf53 2 := ⟨co_J9_min_7cf53, tin1 13 (by decide +kernel), by decide +kernel, Or.inl (tin2 185 (by decide +kernel))⟩
theorem cf_J1_95 : CF RJ1 95 mJ1_indexOfChar_4cfef 4 := ⟨co_J1_indexOfChar_4cfef, tin1 12 (by decide +kernel), by decide +kernel, Or.inl (tin2 188 (by decide +kernel))⟩
theorem st_fact : ∀ i, i < 8 → (byS.getD i []).length = lnS.getD i 0 ∧ 0 < lnS.getD i 0 ∧ lnS.getD i 0 ≤ 24 := by decide
section SR
variable {G : GT} {M : MT} {pc : Nat} {lv : List (Nat × Value)} {rest : List Value} {σ : Hp} {Q : Option Value → Hp → Prop}
theorem wr_getsC {idx : Nat} (hw : Cond.fieldLink M.1.cls idx "java/lang/String" "COMPACT_STRINGS" "Z" ∈ tb) (hdg : decode M.2.1 pc = .ok (.getstatic idx, 3)) (k : WP G M (pc + 3) lv (.int 1 :: rest) σ Q) : WP G M pc lv rest σ Q := fun p l e s m a b me c H L ls C hP hS hl => va_gets C.1 C.2.1 C.2.2.2.2.2.2.2.2.2.2.2.1 hS C.2.2.2.2.1 (C.2.2.2.2.2.2.2.1.use hw) (fun _ h => h) hdg (k _ _ _ _ _ _ _ _ _ _ _ _ C hP hS hl)
theorem wr_scod {idx i : Nat} (hi : i < 8) (hw : Cond.fieldLink M.1.cls idx "java/lang/String" "coder" "B" ∈ tb) (hdg : decode M.2.1 pc = .ok (.getfield idx, 3)) (k : WP G M (pc + 3) lv (.int 0 :: rest) σ Q) : WP G M pc lv (.ref (G.1 (210 + i)) :: rest) σ Q := fun p l e s m a b me c H L ls C hP hS hl => vk_getf C.1 C.2.1 (C.2.2.2.2.2.2.2.2.2.2.2.2.2.1 i hi).2.1 hS C.2.2.2.2.1 (C.2.2.2.2.2.2.2.1.use hw) (fun _ h => h) hdg (k _ _ _ _ _ _ _ _ _ _ _ _ C hP hS hl)
theorem wr_sval {idx i : Nat} (hi : i < 8) (hw : Cond.fieldLink M.1.cls idx "java/lang/String" "value" "[B" ∈ tb) (hdg : decode M.2.1 pc = .ok (.getfield idx, 3)) (k : WP G M (pc + 3) lv (.ref (G.1 (230 + i)) :: rest) σ Q) : WP G M pc lv (.ref (G.1 (210 + i)) :: rest) σ Q := fun p l e s m a b me c H L ls C hP hS hl => vk_getf C.1 C.2.1 (C.2.2.2.2.2.2.2.2.2.2.2.2.2.1 i hi).2.2.1 hS C.2.2.2.2.1 (C.2.2.2.2.2.2.2.1.use hw) (fun _ h => h) hdg (k _ _ _ _ _ _ _ _ _ _ _ _ C hP hS hl)
theorem wr_sln {i : Nat} (hi : i < 8) (hdg : decode M.2.1 pc = .ok (.arraylength, 1)) (k : WP G M (pc + 1) lv (.int (nI (lnS.getD i 0)) :: rest) σ Q) : WP G M pc lv (.ref (G.1 (230 + i)) :: rest) σ Q := fun p l e s m a b me c H L ls C hP hS hl => va_tlen C.1 C.2.1 (C.2.2.2.2.2.2.2.2.2.2.2.2.2.1 i hi).2.2.2 hS rfl hdg (k _ _ _ _ _ _ _ _ _ _ _ _ C hP hS hl)
theorem wr_sby {i : Nat} {j : Int32} (hi : i < 8) (hin : vp_in j (lnS.getD i 0)) (hdg : decode M.2.1 pc = .ok (.baload, 1)) (k : WP G M (pc + 1) lv (.int ((byS.getD i []).getD j.toNatClampNeg 0) :: rest) σ Q) : WP G M pc lv (.int j :: .ref (G.1 (230 + i)) :: rest) σ Q := fun p l e s m a b me c H L ls C hP hS hl => va_tb C.1 C.2.1 (C.2.2.2.2.2.2.2.2.2.2.2.2.2.1 i hi).2.2.2 hS hin rfl hdg (k _ _ _ _ _ _ _ _ _ _ _ _ C hP hS hl)
end SR
theorem tS_lat {G : GT} {σ : Hp} {i : Nat} (hi : i < 8) : CT G mJ0_isLatin1_aae02 [.ref (G.1 (210 + i))] σ (LI (fun r τ => r = 1 ∧ τ = σ)) := by
  refine CT.ofF (by decide +kernel) (Nat.le_of_ble_eq_true rfl) ?_
  show WP G mJ0_isLatin1_aae02 0 [(0, .ref (G.1 (210 + i)))] [] σ _
  refine wr_getsC (pc := 0) (tin2 166 (by decide +kernel)) (dget kJ0_isLatin1_aae02 0 rfl) ?_
  refine wr_if_eq (pc := 3) (tgt := 17) (dget kJ0_isLatin1_aae02 1 rfl) (by decide) (fun c => absurd c (by decide)) (fun _ => ?_)
  refine wr_aload_n (pc := 6) (dget kJ0_isLatin1_aae02 2 rfl) 0 rfl ?_
  refine wr_scod (pc := 7) hi (tin7 10 (by decide +kernel)) (dget kJ0_isLatin1_aae02 3 rfl) ?_
  refine wr_if_ne (pc := 10) (tgt := 17) (dget kJ0_isLatin1_aae02 4 rfl) (by decide) (fun c => absurd rfl c) (fun _ => ?_)
  refine wr_iconst (pc := 13) (dget kJ0_isLatin1_aae02 5 rfl) ic_1 ?_
  refine wr_goto (pc := 14) (tgt := 18) (dget kJ0_isLatin1_aae02 6 rfl) (by decide) ?_
  exact wr_zret (pc := 18) rfl rfl (dget kJ0_isLatin1_aae02 8 rfl) ⟨_, rfl, rfl, rfl⟩
theorem tS_cod {G : GT} {σ : Hp} {i : Nat} (hi : i < 8) : CT G mJ0_coder_7d493 [.ref (G.1 (210 + i))] σ (LI (fun r τ => r = 0 ∧ τ = σ)) := by
  refine CT.ofF (by decide +kernel) (Nat.le_of_ble_eq_true rfl) ?_
  show WP G mJ0_coder_7d493 0 [(0, .ref (G.1 (210 + i)))] [] σ _
  refine wr_getsC (pc := 0) (tin2 166 (by decide +kernel)) (dget kJ0_coder_7d493 0 rfl) ?_
  refine wr_if_eq (pc := 3) (tgt := 13) (dget kJ0_coder_7d493 1 rfl) (by decide) (fun c => absurd c (by decide)) (fun _ => ?_)
  refine wr_aload_n (pc := 6) (dget kJ0_coder_7d493 2 rfl) 0 rfl ?_
  refine wr_scod (pc := 7) hi (tin7 10 (by decide +kernel)) (dget kJ0_coder_7d493 3 rfl) ?_
  refine wr_goto (pc := 10) (tgt := 14) (dget kJ0_coder_7d493 4 rfl) (by decide) ?_
  exact wr_zret (pc := 14) rfl rfl (dget kJ0_coder_7d493 6 rfl) ⟨_, rfl, rfl, rfl⟩
theorem shr_0 : ∀ n, n < 25 → nI n >>> ((0 : Int32) &&& 31) = nI n := by decide
theorem tS_len {G : GT} {σ : Hp} {i : Nat} (hi : i < 8) : CT G mJ0_length_8abf5 [.ref (G.1 (210 + i))] σ (LI (fun r τ => r = nI (lnS.getD i 0) ∧ τ = σ)) := by
  refine CT.ofF (by decide +kernel) (Nat.le_of_ble_eq_true rfl) ?_
  show WP G mJ0_length_8abf5 0 [(0, .ref (G.1 (210 + i)))] [] σ _
  refine wr_aload_n (pc := 0) (dget kJ0_length_8abf5 0 rfl) 0 rfl ?_
  refine wr_sval (pc := 1) hi (tin7 11 (by decide +kernel)) (dget kJ0_length_8abf5 1 rfl) ?_
  refine wr_sln (pc := 4) hi (dget kJ0_length_8abf5 2 rfl) ?_
  refine wr_aload_n (pc := 5) (dget kJ0_length_8abf5 3 rfl) 0 rfl ?_
  refine wr_callStr (pc := 6) (As := []) (rest := [.int (nI (lnS.getD i 0))]) hi cf_J0_335 cv_J0_coder_7d493 rfl ⟨Nat.le_of_ble_eq_true rfl, Nat.le_of_ble_eq_true rfl⟩ rfl rfl (Nat.le_of_ble_eq_true rfl) (dget kJ0_length_8abf5 4 rfl) (tS_cod hi) (fun v τ hq => ?_)
  obtain ⟨r, rfl, rfl, rfl⟩ := hq
  refine wr_ishr (pc := 9) (dget kJ0_length_8abf5 5 rfl) ?_
  rw [shr_0 _ (by have := (st_fact i hi).2.2; omega)]
  exact wr_iret (pc := 10) rfl (dget kJ0_length_8abf5 6 rfl) ⟨_, rfl, rfl, rfl⟩
theorem tS_can {G : GT} {σ : Hp} {c : Int32} : CT G mJ1_canEncode_9a6ad [.int c] σ (LI (fun r τ => r = (if c < 0 ∨ 255 < c then 0 else 1) ∧ τ = σ)) := by
  refine CT.ofF (by decide +kernel) (Nat.le_of_ble_eq_true rfl) ?_
  show WP G mJ1_canEncode_9a6ad 0 [(0, .int c)] [] σ _
  refine wr_iload_n (pc := 0) (dget kJ1_canEncode_9a6ad 0 rfl) 0 rfl ?_
  refine wr_if_lt (pc := 1) (tgt := 15) (dget kJ1_canEncode_9a6ad 1 rfl) (by decide) (fun c1 => ?_) (fun c1 => ?_)
  · refine wr_iconst (pc := 15) (dget kJ1_canEncode_9a6ad 7 rfl) ic_0 ?_
    exact wr_zret (pc := 16) rfl rfl (dget kJ1_canEncode_9a6ad 8 rfl) ⟨_, rfl, by rw [if_pos (Or.inl c1)], rfl⟩
  · refine wr_iload_n (pc := 4) (dget kJ1_canEncode_9a6ad 2 rfl) 0 rfl ?_
    refine wr_sipush (pc := 5) (dget kJ1_canEncode_9a6ad 3 rfl) (v := 255) rfl ?_
    refine wr_icmp_gt (pc := 8) (tgt := 15) (dget kJ1_canEncode_9a6ad 4 rfl) (by decide) (fun c2 => ?_) (fun c2 => ?_)
    · refine wr_iconst (pc := 15) (dget kJ1_canEncode_9a6ad 7 rfl) ic_0 ?_
      exact wr_zret (pc := 16) rfl rfl (dget kJ1_canEncode_9a6ad 8 rfl) ⟨_, rfl, by rw [if_pos (Or.inr c2)], rfl⟩
    · refine wr_iconst (pc := 11) (dget kJ1_canEncode_9a6ad 5 rfl) ic_1 ?_
      refine wr_goto (pc := 12) (tgt := 16) (dget kJ1_canEncode_9a6ad 6 rfl) (by decide) ?_
      exact wr_zret (pc := 16) rfl rfl (dget kJ1_canEncode_9a6ad 8 rfl) ⟨_, rfl, by rw [if_neg (by intro h; rcases h with h | h; exact c1 h; exact c2 h)], rfl⟩
theorem tS_max {G : GT} {σ : Hp} : CT G mJ9_max_7cf53 [.int 0, .int 0] σ (LI (fun r τ => r = 0 ∧ τ = σ)) := by
  refine CT.ofF (by decide +kernel) (Nat.le_of_ble_eq_true rfl) ?_
  show WP G mJ9_max_7cf53 0 [(0, .int 0), (1, .int 0)] [] σ _
  refine wr_iload_n (pc := 0) (dget kJ9_max_7cf53 0 rfl) 0 rfl ?_
  refine wr_iload_n (pc := 1) (dget kJ9_max_7cf53 1 rfl) 1 rfl ?_
  refine wr_icmp_lt (pc := 2) (tgt := 9) (dget kJ9_max_7cf53 2 rfl) (by decide) (fun c_1 => absurd c_1 (by decide)) (fun c_1 => ?_)
  refine wr_iload_n (pc := 5) (dget kJ9_max_7cf53 3 rfl) 0 rfl ?_
  refine wr_goto (pc := 6) (tgt := 10) (dget kJ9_max_7cf53 4 rfl) (by decide) ?_
  exact wr_iret (pc := 10) rfl (dget kJ9_max_7cf53 6 rfl) ⟨_, rfl, rfl, rfl⟩
theorem tS_min {G : GT} {σ : Hp} {x : Int32} : CT G mJ9_min_7cf53 [.int x, .int x] σ (LI (fun r τ => r = x ∧ τ = σ)) := by
  refine CT.ofF (by decide +kernel) (Nat.le_of_ble_eq_true rfl) ?_
  show WP G mJ9_min_7cf53 0 [(0, .int x), (1, .int x)] [] σ _
  refine wr_iload_n (pc := 0) (dget kJ9_min_7cf53 0 rfl) 0 rfl ?_
  refine wr_iload_n (pc := 1) (dget kJ9_min_7cf53 1 rfl) 1 rfl ?_
  refine wr_icmp_gt (pc := 2) (tgt := 9) (dget kJ9_min_7cf53 2 rfl) (by decide) (fun c_1 => ?_) (fun c_1 => ?_)
  · refine wr_iload_n (pc := 9) (dget kJ9_min_7cf53 5 rfl) 1 rfl ?_
    exact wr_iret (pc := 10) rfl (dget kJ9_min_7cf53 6 rfl) ⟨_, rfl, rfl, rfl⟩
  · refine wr_iload_n (pc := 5) (dget kJ9_min_7cf53 3 rfl) 0 rfl ?_
    refine wr_goto (pc := 6) (tgt := 10) (dget kJ9_min_7cf53 4 rfl) (by decide) ?_
    exact wr_iret (pc := 10) rfl (dget kJ9_min_7cf53 6 rfl) ⟨_, rfl, rfl, rfl⟩
theorem sIxF_step {l : List Int32} {c : Int32} {k : Nat} (hk : k < l.length) : sIxF c (l.drop k) k = if l.getD k 0 = c then nI k else sIxF c (l.drop (k + 1)) (k + 1) := by
  rw [List.drop_eq_getElem_cons hk, sIxF, List.getD_eq_getElem?_getD, List.getElem?_eq_getElem hk]
  rfl
theorem tS_ixc {G : GT} {σ : Hp} {i : Nat} (hi : i < 8) {c : Int32} : CT G mJ1_indexOfChar_4cfef [.ref (G.1 (230 + i)), .int c, .int 0, .int (nI (lnS.getD i 0))] σ (LI (fun r τ => r = sIxF c.toInt8.toInt32 (byS.getD i []) 0 ∧ τ = σ)) := by
  obtain ⟨f1, f2, f3⟩ := st_fact i hi
  refine CT.ofF (by decide +kernel) (Nat.le_of_ble_eq_true rfl) ?_
  show WP G mJ1_indexOfChar_4cfef 0 [(0, .ref (G.1 (230 + i))), (1, .int c), (2, .int 0), (3, .int (nI (lnS.getD i 0)))] [] σ _
  refine wr_iload_n (pc := 0) (dget kJ1_indexOfChar_4cfef 0 rfl) 1 rfl ?_
  refine wr_i2b (pc := 1) (dget kJ1_indexOfChar_4cfef 1 rfl) rfl ?_
  generalize c.toInt8.toInt32 = b
  refine wr_istore (pc := 2) (lv' := [(4, .int b), (0, .ref (G.1 (230 + i))), (1, .int c), (2, .int 0), (3, .int (nI (lnS.getD i 0)))]) (dget kJ1_indexOfChar_4cfef 2 rfl) (by decide) rfl ?_
  refine wr_iload_n (pc := 4) (dget kJ1_indexOfChar_4cfef 3 rfl) 3 rfl ?_
  refine wr_istore (pc := 5) (lv' := [(5, .int 0), (4, .int b), (0, .ref (G.1 (230 + i))), (1, .int c), (2, .int 0), (3, .int (nI (lnS.getD i 0)))]) (dget kJ1_indexOfChar_4cfef 4 rfl) (by decide) rfl ?_
  suffices L : ∀ (d k : Nat), k + d = lnS.getD i 0 → sIxF b (byS.getD i []) 0 = sIxF b ((byS.getD i []).drop k) k → WP G mJ1_indexOfChar_4cfef 7 [(5, .int (nI k)), (4, .int b), (0, .ref (G.1 (230 + i))), (1, .int c), (2, .int 0), (3, .int (nI (lnS.getD i 0)))] [] σ (LI (fun r τ => r = sIxF b (byS.getD i []) 0 ∧ τ = σ)) from L (lnS.getD i 0) 0 (by omega) rfl
  intro d
  induction d with
  | zero =>
    intro k hd he
    refine wr_iload (pc := 7) (dget kJ1_indexOfChar_4cfef 5 rfl) 0 rfl ?_
    refine wr_iload_n (pc := 9) (dget kJ1_indexOfChar_4cfef 6 rfl) 5 rfl ?_
    refine wr_icmp_ge (pc := 10) (tgt := 31) (dget kJ1_indexOfChar_4cfef 7 rfl) (by decide) (fun _ => ?_) (fun q => absurd (nI_le (by omega) (by omega)) q)
    refine wr_iconst (pc := 31) (dget kJ1_indexOfChar_4cfef 17 rfl) ic_m1 ?_
    refine wr_iret (pc := 32) rfl (dget kJ1_indexOfChar_4cfef 18 rfl) ⟨_, rfl, ?_, rfl⟩
    rw [he, List.drop_eq_nil_of_le (by omega)]; rfl
  | succ d ih =>
    intro k hd he
    refine wr_iload (pc := 7) (dget kJ1_indexOfChar_4cfef 5 rfl) 0 rfl ?_
    refine wr_iload_n (pc := 9) (dget kJ1_indexOfChar_4cfef 6 rfl) 5 rfl ?_
    refine wr_icmp_ge (pc := 10) (tgt := 31) (dget kJ1_indexOfChar_4cfef 7 rfl) (by decide) (fun q => absurd ((nI_leI (by omega) (by omega)).mp q) (by omega)) (fun _ => ?_)
    refine wr_aload_n (pc := 13) (dget kJ1_indexOfChar_4cfef 8 rfl) 2 rfl ?_
    refine wr_iload (pc := 14) (dget kJ1_indexOfChar_4cfef 9 rfl) 0 rfl ?_
    refine wr_sby (pc := 16) hi (vp_in_nI (by omega) (by omega)) (dget kJ1_indexOfChar_4cfef 10 rfl) ?_
    rw [show (nI k).toNatClampNeg = k from nI_clamp (by omega)]
    refine wr_iload (pc := 17) (dget kJ1_indexOfChar_4cfef 11 rfl) 1 rfl ?_
    rw [sIxF_step (by omega)] at he
    refine wr_icmp_ne (pc := 19) (tgt := 25) (dget kJ1_indexOfChar_4cfef 12 rfl) (by decide) (fun q => ?_) (fun q => ?_)
    · rw [if_neg q] at he
      refine wr_iinc (pc := 25) (v := nI (k + 1)) (lv' := [(5, .int (nI (k + 1))), (4, .int b), (0, .ref (G.1 (230 + i))), (1, .int c), (2, .int 0), (3, .int (nI (lnS.getD i 0)))]) (dget kJ1_indexOfChar_4cfef 15 rfl) 0 rfl (nI_1 k) (by decide) rfl ?_
      refine wr_goto (pc := 28) (tgt := 7) (dget kJ1_indexOfChar_4cfef 16 rfl) (by decide) ?_
      exact ih (k + 1) (by omega) he
    · rw [if_pos q] at he
      refine wr_iload (pc := 22) (dget kJ1_indexOfChar_4cfef 13 rfl) 0 rfl ?_
      exact wr_iret (pc := 24) rfl (dget kJ1_indexOfChar_4cfef 14 rfl) ⟨_, rfl, he.symm, rfl⟩
theorem tS_ix1 {G : GT} {σ : Hp} {i : Nat} (hi : i < 8) {c : Int32} : CT G mJ1_indexOf_4cfef [.ref (G.1 (230 + i)), .int c, .int 0, .int (nI (lnS.getD i 0))] σ (LI (fun r τ => r = sIx i c ∧ τ = σ)) := by
  obtain ⟨f1, f2, f3⟩ := st_fact i hi
  refine CT.ofF (by decide +kernel) (Nat.le_of_ble_eq_true rfl) ?_
  show WP G mJ1_indexOf_4cfef 0 [(0, .ref (G.1 (230 + i))), (1, .int c), (2, .int 0), (3, .int (nI (lnS.getD i 0)))] [] σ _
  refine wr_iload_n (pc := 0) (dget kJ1_indexOf_4cfef 0 rfl) 1 rfl ?_
  refine wr_callSi (pc := 1) (Mc := mJ1_canEncode_9a6ad) (rest := []) cf_J1_88 cs_J1_canEncode_9a6ad ⟨Nat.le_of_ble_eq_true rfl, Nat.le_of_ble_eq_true rfl⟩ rfl rfl (Nat.le_of_ble_eq_true rfl) (dget kJ1_indexOf_4cfef 1 rfl) tS_can (fun r τ hq => ?_)
  obtain ⟨hr, rfl⟩ := hq
  unfold sIx
  refine wr_if_ne (pc := 4) (tgt := 9) (dget kJ1_indexOf_4cfef 2 rfl) (by decide) (fun q => ?_) (fun q => ?_)
  · have hc : ¬ (c < 0 ∨ 255 < c) := fun h => q (by rw [hr, if_pos h])
    rw [if_neg hc]
    refine wr_iload_n (pc := 9) (dget kJ1_indexOf_4cfef 5 rfl) 2 rfl ?_
    refine wr_iconst (pc := 10) (dget kJ1_indexOf_4cfef 6 rfl) ic_0 ?_
    refine wr_callSi (pc := 11) (Mc := mJ9_max_7cf53) (rest := []) cf_J1_92 cs_J9_max_7cf53 ⟨Nat.le_of_ble_eq_true rfl, Nat.le_of_ble_eq_true rfl⟩ rfl rfl (Nat.le_of_ble_eq_true rfl) (dget kJ1_indexOf_4cfef 7 rfl) tS_max (fun r τ hq => ?_)
    obtain ⟨rfl, rfl⟩ := hq
    refine wr_istore_n (pc := 14) (lv' := [(2, .int 0), (0, .ref (G.1 (230 + i))), (1, .int c), (3, .int (nI (lnS.getD i 0)))]) (dget kJ1_indexOf_4cfef 8 rfl) (by decide) rfl ?_
    refine wr_iload_n (pc := 15) (dget kJ1_indexOf_4cfef 9 rfl) 3 rfl ?_
    refine wr_aload_n (pc := 16) (dget kJ1_indexOf_4cfef 10 rfl) 1 rfl ?_
    refine wr_sln (pc := 17) hi (dget kJ1_indexOf_4cfef 11 rfl) ?_
    refine wr_callSi (pc := 18) (Mc := mJ9_min_7cf53) (rest := []) cf_J1_38 cs_J9_min_7cf53 ⟨Nat.le_of_ble_eq_true rfl, Nat.le_of_ble_eq_true rfl⟩ rfl rfl (Nat.le_of_ble_eq_true rfl) (dget kJ1_indexOf_4cfef 12 rfl) tS_min (fun r τ hq => ?_)
    obtain ⟨rfl, rfl⟩ := hq
    refine wr_istore_n (pc := 21) (lv' := [(3, .int (nI (lnS.getD i 0))), (2, .int 0), (0, .ref (G.1 (230 + i))), (1, .int c)]) (dget kJ1_indexOf_4cfef 13 rfl) (by decide) rfl ?_
    refine wr_iload_n (pc := 22) (dget kJ1_indexOf_4cfef 14 rfl) 1 rfl ?_
    refine wr_iload_n (pc := 23) (dget kJ1_indexOf_4cfef 15 rfl) 0 rfl ?_
    refine wr_icmp_lt (pc := 24) (tgt := 29) (dget kJ1_indexOf_4cfef 16 rfl) (by decide) (fun _ => ?_) (fun q => absurd (nI_lt (a := 0) f2 (by omega)) q)
    refine wr_aload_n (pc := 29) (dget kJ1_indexOf_4cfef 19 rfl) 2 rfl ?_
    refine wr_iload_n (pc := 30) (dget kJ1_indexOf_4cfef 20 rfl) 3 rfl ?_
    refine wr_iload_n (pc := 31) (dget kJ1_indexOf_4cfef 21 rfl) 1 rfl ?_
    refine wr_iload_n (pc := 32) (dget kJ1_indexOf_4cfef 22 rfl) 0 rfl ?_
    refine wr_callSi (pc := 33) (Mc := mJ1_indexOfChar_4cfef) (rest := []) cf_J1_95 cs_J1_indexOfChar_4cfef ⟨Nat.le_of_ble_eq_true rfl, Nat.le_of_ble_eq_true rfl⟩ rfl rfl (Nat.le_of_ble_eq_true rfl) (dget kJ1_indexOf_4cfef 23 rfl) (tS_ixc hi) (fun r τ hq => ?_)
    exact wr_iret (pc := 36) rfl (dget kJ1_indexOf_4cfef 24 rfl) ⟨_, rfl, hq⟩
  · have hc : c < 0 ∨ 255 < c := by
      by_cases h : c < 0 ∨ 255 < c
      · exact h
      · rw [hr, if_neg h] at q; exact absurd q (by decide)
    rw [if_pos hc]
    refine wr_iconst (pc := 7) (dget kJ1_indexOf_4cfef 3 rfl) ic_m1 ?_
    exact wr_iret (pc := 8) rfl (dget kJ1_indexOf_4cfef 4 rfl) ⟨_, rfl, rfl, rfl⟩
theorem tS_ix2 {G : GT} {σ : Hp} {i : Nat} (hi : i < 8) {c : Int32} : CT G mJ0_indexOf_7cf53 [.ref (G.1 (210 + i)), .int c, .int 0] σ (LI (fun r τ => r = sIx i c ∧ τ = σ)) := by
  refine CT.ofF (by decide +kernel) (Nat.le_of_ble_eq_true rfl) ?_
  show WP G mJ0_indexOf_7cf53 0 [(0, .ref (G.1 (210 + i))), (1, .int c), (2, .int 0)] [] σ _
  refine wr_aload_n (pc := 0) (dget kJ0_indexOf_7cf53 0 rfl) 0 rfl ?_
  refine wr_callStr (pc := 1) (As := []) (rest := []) hi cf_J0_492 cv_J0_isLatin1_aae02 rfl ⟨Nat.le_of_ble_eq_true rfl, Nat.le_of_ble_eq_true rfl⟩ rfl rfl (Nat.le_of_ble_eq_true rfl) (dget kJ0_indexOf_7cf53 1 rfl) (tS_lat hi) (fun v τ hq => ?_)
  obtain ⟨r, rfl, rfl, rfl⟩ := hq
  refine wr_if_eq (pc := 4) (tgt := 23) (dget kJ0_indexOf_7cf53 2 rfl) (by decide) (fun q => absurd q (by decide)) (fun _ => ?_)
  refine wr_aload_n (pc := 7) (dget kJ0_indexOf_7cf53 3 rfl) 0 rfl ?_
  refine wr_sval (pc := 8) hi (tin7 11 (by decide +kernel)) (dget kJ0_indexOf_7cf53 4 rfl) ?_
  refine wr_iload_n (pc := 11) (dget kJ0_indexOf_7cf53 5 rfl) 1 rfl ?_
  refine wr_iload_n (pc := 12) (dget kJ0_indexOf_7cf53 6 rfl) 2 rfl ?_
  refine wr_aload_n (pc := 13) (dget kJ0_indexOf_7cf53 7 rfl) 0 rfl ?_
  refine wr_callStr (pc := 14) (As := []) (rest := [.int 0, .int c, .ref (G.1 (230 + i))]) hi cf_J0_505 cv_J0_length_8abf5 rfl ⟨Nat.le_of_ble_eq_true rfl, Nat.le_of_ble_eq_true rfl⟩ rfl rfl (Nat.le_of_ble_eq_true rfl) (dget kJ0_indexOf_7cf53 8 rfl) (tS_len hi) (fun v τ hq => ?_)
  obtain ⟨r, rfl, rfl, rfl⟩ := hq
  refine wr_callSi (pc := 17) (Mc := mJ1_indexOf_4cfef) (rest := []) cf_J0_637 cs_J1_indexOf_4cfef ⟨Nat.le_of_ble_eq_true rfl, Nat.le_of_ble_eq_true rfl⟩ rfl rfl (Nat.le_of_ble_eq_true rfl) (dget kJ0_indexOf_7cf53 9 rfl) (tS_ix1 hi) (fun r τ hq => ?_)
  refine wr_goto (pc := 20) (tgt := 36) (dget kJ0_indexOf_7cf53 10 rfl) (by decide) ?_
  exact wr_iret (pc := 36) rfl (dget kJ0_indexOf_7cf53 18 rfl) ⟨_, rfl, hq⟩
theorem tJ0_indexOf_new {G : GT} {o : Nat} {p1 : Int32} {σ : Hp} {post : Int32 → Hp → Prop} (h : vJ0_indexOf_0f7a4 o p1 σ post) : CT G mJ0_indexOf_0f7a4 [.ref (G.1 o), .int p1] σ (LI post) := by
  obtain ⟨i, hi, rfl, h⟩ := h
  refine CT.ofF (by decide +kernel) (Nat.le_of_ble_eq_true rfl) ?_
  show WP G mJ0_indexOf_0f7a4 0 [(0, .ref (G.1 (210 + i))), (1, .int p1)] [] σ _
  refine wr_aload_n (pc := 0) (dget kJ0_indexOf_0f7a4 0 rfl) 0 rfl ?_
  refine wr_iload_n (pc := 1) (dget kJ0_indexOf_0f7a4 1 rfl) 1 rfl ?_
  refine wr_iconst (pc := 2) (dget kJ0_indexOf_0f7a4 2 rfl) ic_0 ?_
  refine wr_callStr (pc := 3) (As := [.int p1, .int 0]) (rest := []) hi cf_J0_633 cv_J0_indexOf_7cf53 rfl ⟨Nat.le_of_ble_eq_true rfl, Nat.le_of_ble_eq_true rfl⟩ rfl rfl (Nat.le_of_ble_eq_true rfl) (dget kJ0_indexOf_0f7a4 3 rfl) (tS_ix2 hi) (fun v τ hq => ?_)
  obtain ⟨r, rfl, rfl, rfl⟩ := hq
  exact wr_iret (pc := 6) rfl (dget kJ0_indexOf_0f7a4 4 rfl) ⟨_, rfl, h⟩
