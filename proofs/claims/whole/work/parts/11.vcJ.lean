/-! ===== String.indexOf on a constant ===== -/
theorem CT.ofF {G : GT} {M : MT} {av : List Value} {σ : Hp} {Q : Option Value → Hp → Prop} (hpl : plainFor M.1 = true) (hav : (lg_sl av).length ≤ M.2.2.1) (h : WP G M 0 (lv_args 0 av) [] σ Q) : CT G M av σ Q := by
  intro l
  refine va_MetF (cc := M.2.1) (maxL := M.2.2.1) (ret := M.2.2.2.1) hpl rfl ?_
  intro p e s m args below meth c s₁ B hml hv
  obtain ⟨rfl, hP, hC⟩ := hv
  rw [lg_entry_eq]
  exact h p l e s m _ below meth c s.heap [] _ ⟨B.exec, B.bytes, B.returns, hml, findClass_of_methodNamed B.named, B.notSynchronized, hC⟩ hP va_S.rf (lv_entry av hav)
/-- the place of a sign in a String constant, as indexOf tells it -/
def sIxF (c : Int32) : List Int32 → Nat → Int32
  | [], _ => -1
  | b :: l, k => if b = c then nI k else sIxF c l (k + 1)
def sIx (i : Nat) (c : Int32) : Int32 := if c < 0 ∨ 255 < c then -1 else sIxF c.toInt8.toInt32 (byS.getD i []) 0
def vJ0_indexOf_0f7a4 (o : Nat) (p1 : Int32) (σ : Hp) (post : Int32 → Hp → Prop) : Prop := ∃ i : Nat, i < 8 ∧ o = 210 + i ∧ post (sIx i p1) σ
theorem cf_J0_633 : CF RJ0 633 mJ0_indexOf_7cf53 2 := ⟨co_J0_indexOf_7cf53, tin1 11 (by decide +kernel), by decide +kernel, Or.inl (tin2 158 (by decide +kernel))⟩
theorem cf_J0_492 : CF RJ0 492 mJ0_isLatin1_aae02 0 := ⟨co_J0_isLatin1_aae02, tin1 11 (by decide +kernel), by decide +kernel, Or.inl (tin2 162 (by decide +kernel))⟩
theorem cf_J0_505 : CF RJ0 505 mJ0_length_8abf5 0 := ⟨co_J0_length_8abf5, tin1 11 (by decide +kernel), by decide +kernel, Or.inl (tin2 168 (by decide +kernel))⟩
theorem cf_J0_335 : CF RJ0 335 mJ0_coder_7d493 0 := ⟨co_J0_coder_7d493, tin1 11 (by decide +kernel), by decide +kernel, Or.inl (tin2 172 (by decide +kernel))⟩
theorem cf_J0_637 : CF RJ0 637 mJ1_indexOf_4cfef 4 := ⟨co_J1_indexOf_4cfef, tin1 12 (by decide +kernel), by decide +kernel, Or.inl (tin2 176 (by decide +kernel))⟩
theorem cf_J1_88 : CF RJ1 88 mJ1_canEncode_9a6ad 1 := ⟨co_J1_canEncode_9a6ad, tin1 12 (by decide +kernel), by decide +kernel, Or.inl (tin2 179 (by decide +kernel))⟩
theorem cf_J1_92 : CF RJ1 92 mJ9_max_7cf53 2 := ⟨co_J9_max_7cf53, tin1 13 (by decide +kernel), by decide +kernel, Or.inl (tin2 182 (by decide +kernel))⟩
theorem cf_J1_38 : CF RJ1 38 mJ9_min_7cf53 2 := ⟨co_J9_min_7cf53, tin1 13 (by decide +kernel), by decide +kernel, Or.inl (tin2 185 (by decide +kernel))⟩
theorem cf_J1_95 : CF RJ1 95 mJ1_indexOfChar_4cfef 4 := ⟨co_J1_indexOfChar_4cfef, tin1 12 (by decide +kernel), by decide +kernel, Or.inl (tin2 188 (by decide +kernel))⟩
theorem st_fact : ∀ i, i < 8 → (byS.getD i []).length = lnS.getD i 0 ∧ 0 < lnS.getD i 0 ∧ lnS.getD i 0 ≤ 24 := by decide
section SR
variable {G : GT} {M : MT} {pc : Nat} {lv : List (Nat × Value)} {rest : List Value} {σ : Hp} {Q : Option Value → Hp → Prop}
theorem wr_getsC {idx : Nat} (hw : Cond.fieldLink M.1.cls idx "java/lang/String" "COMPACT_STRINGS" "Z" ∈ tb) (hdg : decode M.2.1 pc = .ok (.getstatic idx, 3)) (k : WP G M (pc + 3) lv (.int 1 :: rest) σ Q) : WP G M pc lv rest σ Q := fun p l e s m a b me c H L ls C hP hS hl => va_gets C.1 C.2.1 C.2.2.2.2.2.2.2.2.2.2.2.1 hS C.2.2.2.2.1 (C.2.2.2.2.2.2.2.1.use hw) (fun _ h => h) hdg (k _ _ _ _ _ _ _ _ _ _ _ _ C hP hS hl)
theorem wr_scod {idx i : Nat} (hi : i < 8) (hw : Cond.fieldLink M.1.cls idx "java/lang/String" "coder" "B" ∈ tb) (hdg : decode M.2.1 pc = .ok (.getfield idx, 3)) (k : WP G M (pc + 3) lv (.int 0 :: rest) σ Q) : WP G M pc lv (.ref (G.1 (210 + i)) :: rest) σ Q := fun p l e s m a b me c H L ls C hP hS hl => vk_getf C.1 C.2.1 (C.2.2.2.2.2.2.2.2.2.2.2.2.2.1 i hi).2.1 hS C.2.2.2.2.1 (C.2.2.2.2.2.2.2.1.use hw) (fun _ h => h) hdg (k _ _ _ _ _ _ _ _ _ _ _ _ C hP hS hl)
theorem wr_sval {idx i : Nat} (hi : i < 8) (hw : Cond.fieldLink M.1.cls idx "java/lang/String" "value" "[B" ∈ tb) (hdg : decode M.2.1 pc = .ok (.getfield idx, 3)) (k : WP G M (pc + 3) lv (.ref (G.1 (230 + i)) :: rest) σ Q) : WP G M pc lv (.ref (G.1 (210 + i)) :: rest) σ Q := fun p l e s m a b me c H L ls C hP hS hl => vk_getf C.1 C.2.1 (C.2.2.2.2.2.2.2.2.2.2.2.2.2.1 i hi).2.2.1 hS C.2.2.2.2.1 (C.2.2.2.2.2.2.2.1.use hw) (fun _ h => h) hdg (k _ _ _ _ _ _ _ _ _ _ _ _ C hP hS hl)
theorem wr_sln {i : Nat} (hi : i < 8) (hdg : decode M.2.1 pc = .ok (.arraylength, 1)) (k : WP G M (pc + 1) lv (.int (nI (lnS.getD i 0)) :: rest) σ Q) : WP G M pc lv (.ref (G.1 (230 + i)) :: rest) σ Q := fun p l e s m a b me c H L ls C hP hS hl => va_tlen C.1 C.2.1 (C.2.2.2.2.2.2.2.2.2.2.2.2.2.1 i hi).2.2.2 hS rfl hdg (k _ _ _ _ _ _ _ _ _ _ _ _ C hP hS hl)
theorem wr_sby {i : Nat} {j : Int32} (hi : i < 8) (hin : vp_in j (lnS.getD i 0)) (hdg : decode M.2.1 pc = .ok (.baload, 1)) (k : WP G M (pc + 1) lv (.int ((byS.getD i []).getD j.toNatClampNeg 0) :: rest) σ Q) : WP G M pc lv (.int j :: .ref (G.1 (230 + i)) :: rest) σ Q := fun p l e s m a b me c H L ls C hP hS hl => va_tb C.1 C.2.1 (C.2.2.2.2.2.2.2.2.2.2.2.2.2.1 i hi).2.2.2 hS hin rfl hdg (k _ _ _ _ _ _ _ _ _ _ _ _ C hP hS hl)
end SR
theorem tS_lat {G : GT} {σ : Hp} {i : Nat} (hi : i < 8) : CT G mJ0_isLatin1_aae02 [.ref (G.1 (210 + i))] σ (LI (fun r τ => r = 1 ∧ τ = σ)) := by
  refine CT.ofF (by decide +kernel) (Nat.le_of_ble_eq_true rfl) ?_
  show WP G mJ0_isLatin1_aae02 0 [(0, .ref (G.1 (210 + i)))] [] σ _
  refine wr_getsC (pc := 0) (tin2 166 (by decide +kernel)) (dget kJ0_isLatin1_aae02 0 rfl) ?_
  refine wr_if_eq (pc := 3) (tgt := 17) (dget kJ0_isLatin1_aae02 1 rfl) (by decide) (fun c => absurd c (by decide)) (fun _ => ?_)
  refine wr_aload_n (pc := 6) (dget kJ0_isLatin1_aae02 2 rfl) 0 rfl ?_
  refine wr_scod (pc := 7) hi (tin7 10 (by decide +kernel)) (dget kJ0_isLatin1_aae02 3 rfl) ?_
  refine wr_if_ne (pc := 10) (tgt := 17) (dget kJ0_isLatin1_aae02 4 rfl) (by decide) (fun c => absurd rfl c) (fun _ => ?_)
  refine wr_iconst (pc := 13) (dget kJ0_isLatin1_aae02 5 rfl) ic_1 ?_
  refine wr_goto (pc := 14) (tgt := 18) (dget kJ0_isLatin1_aae02 6 rfl) (by decide) ?_
  exact wr_zret (pc := 18) rfl rfl (dget kJ0_isLatin1_aae02 8 rfl) ⟨_, rfl, rfl, rfl⟩
theorem tS_cod {G : GT} {σ : Hp} {i : Nat} (hi : i < 8) : CT G mJ0_coder_7d493 [.ref (G.1 (210 + i))] σ (LI (fun r τ => r = 0 ∧ τ = σ)) := by
  refine CT.ofF (by decide +kernel) (Nat.le_of_ble_eq_true rfl) ?_
  show WP G mJ0_coder_7d493 0 [(0, .ref (G.1 (210 + i)))] [] σ _
  refine wr_getsC (pc := 0) (tin2 166 (by decide +kernel)) (dget kJ0_coder_7d493 0 rfl) ?_
  refine wr_if_eq (pc := 3) (tgt := 13) (dget kJ0_coder_7d493 1 rfl) (by decide) (fun c => absurd c (by decide)) (fun _ => ?_)
  refine wr_aload_n (pc := 6) (dget kJ0_coder_7d493 2 rfl) 0 rfl ?_
  refine wr_scod (pc := 7) hi (tin7 10 (by decide +kernel)) (dget kJ0_coder_7d493 3 rfl) ?_
  refine wr_goto (pc := 10) (tgt := 14) (dget kJ0_coder_7d493 4 rfl) (by decide) ?_
  exact wr_zret (pc := 14) rfl rfl (dget kJ0_coder_7d493 6 rfl) ⟨_, rfl, rfl, rfl⟩
theorem shr_0 : ∀ n, n < 25 → nI n >>> ((0 : Int32) &&& 31) = nI n := by decide
theorem tS_len {G : GT} {σ : Hp} {i : Nat} (hi : i < 8) : CT G mJ0_length_8abf5 [.ref (G.1 (210 + i))] σ (LI (fun r τ => r = nI (lnS.getD i 0) ∧ τ = σ)) := by
  refine CT.ofF (by decide +kernel) (Nat.le_of_ble_eq_true rfl) ?_
  show WP G mJ0_length_8abf5 0 [(0, .ref (G.1 (210 + i)))] [] σ _
  refine wr_aload_n (pc := 0) (dget kJ0_length_8abf5 0 rfl) 0 rfl ?_
  refine wr_sval (pc := 1) hi (tin7 11 (by decide +kernel)) (dget kJ0_length_8abf5 1 rfl) ?_
  refine wr_sln (pc := 4) hi (dget kJ0_length_8abf5 2 rfl) ?_
  refine wr_aload_n (pc := 5) (dget kJ0_length_8abf5 3 rfl) 0 rfl ?_
  refine wr_callStr (pc := 6) (As := []) (rest := [.int (nI (lnS.getD i 0))]) hi cf_J0_335 cv_J0_coder_7d493 rfl ⟨Nat.le_of_ble_eq_true rfl, Nat.le_of_ble_eq_true rfl⟩ rfl rfl (Nat.le_of_ble_eq_true rfl) (dget kJ0_length_8abf5 4 rfl) (tS_cod hi) (fun v τ hq => ?_)
  obtain ⟨r, rfl, rfl, rfl⟩ := hq
  refine wr_ishr (pc := 9) (dget kJ0_length_8abf5 5 rfl) ?_
  rw [shr_0 _ (by have := (st_fact i hi).2.2; omega)]
  exact wr_iret (pc := 10) rfl (dget kJ0_length_8abf5 6 rfl) ⟨_, rfl, rfl, rfl⟩
theorem tS_can {G : GT} {σ : Hp} {c : Int32} : CT G mJ1_canEncode_9a6ad [.int c] σ (LI (fun r τ => r = (if c < 0 ∨ 255 < c then 0 else 1) ∧ τ = σ)) := by
  refine CT.ofF (by decide +kernel) (Nat.le_of_ble_eq_true rfl) ?_
  show WP G mJ1_canEncode_9a6ad 0 [(0, .int c)] [] σ _
  refine wr_iload_n (pc := 0) (dget kJ1_canEncode_9a6ad 0 rfl) 0 rfl ?_
  refine wr_if_lt (pc := 1) (tgt := 15) (dget kJ1_canEncode_9a6ad 1 rfl) (by decide) (fun c1 => ?_) (fun c1 => ?_)
  · refine wr_iconst (pc := 15) (dget kJ1_canEncode_9a6ad 7 rfl) ic_0 ?_
    exact wr_zret (pc := 16) rfl rfl (dget kJ1_canEncode_9a6ad 8 rfl) ⟨_, rfl, by rw [if_pos (Or.inl c1)], rfl⟩
  · refine wr_iload_n (pc := 4) (dget kJ1_canEncode_9a6ad 2 rfl) 0 rfl ?_
    refine wr_sipush (pc := 5) (dget kJ1_canEncode_9a6ad 3 rfl) (v := 255) rfl ?_
    refine wr_icmp_gt (pc := 8) (tgt := 15) (dget kJ1_canEncode_9a6ad 4 rfl) (by decide) (fun c2 => ?_) (fun c2 => ?_)
    · refine wr_iconst (pc := 15) (dget kJ1_canEncode_9a6ad 7 rfl) ic_0 ?_
      exact wr_zret (pc := 16) rfl rfl (dget kJ1_canEncode_9a6ad 8 rfl) ⟨_, rfl, by rw [if_pos (Or.inr c2)], rfl⟩
    · refine wr_iconst (pc := 11) (dget kJ1_canEncode_9a6ad 5 rfl) ic_1 ?_
      refine wr_goto (pc := 12) (tgt := 16) (dget kJ1_canEncode_9a6ad 6 rfl) (by decide) ?_
      exact wr_zret (pc := 16) rfl rfl (dget kJ1_canEncode_9a6ad 8 rfl) ⟨_, rfl, by rw [if_neg (by intro h; rcases h with h | h; exact c1 h; exact c2 h)], rfl⟩
theorem tS_max {G : GT} {σ : Hp} : CT G mJ9_max_7cf53 [.int 0, .int 0] σ (LI (fun r τ => r = 0 ∧ τ = σ)) := by
  refine CT.ofF (by decide +kernel) (Nat.le_of_ble_eq_true rfl) ?_
  show WP G mJ9_max_7cf53 0 [(0, .int 0), (1, .int 0)] [] σ _
  refine wr_iload_n (pc := 0) (dget kJ9_max_7cf53 0 rfl) 0 rfl ?_
  refine wr_iload_n (pc := 1) (dget kJ9_max_7cf53 1 rfl) 1 rfl ?_
  refine wr_icmp_lt (pc := 2) (tgt := 9) (dget kJ9_max_7cf53 2 rfl) (by decide) (fun c_1 => absurd c_1 (by decide)) (fun c_1 => ?_)
  refine wr_iload_n (pc := 5) (dget kJ9_max_7cf53 3 rfl) 0 rfl ?_
  refine wr_goto (pc := 6) (tgt := 10) (dget kJ9_max_7cf53 4 rfl) (by decide) ?_
  exact wr_iret (pc := 10) rfl (dget kJ9_max_7cf53 6 rfl) ⟨_, rfl, rfl, rfl⟩
theorem tS_min {G : GT} {σ : Hp} {x : Int32} : CT G mJ9_min_7cf53 [.int x, .int x] σ (LI (fun r τ => r = x ∧ τ = σ)) := by
  refine CT.ofF (by decide +kernel) (Nat.le_of_ble_eq_true rfl) ?_
  show WP G mJ9_min_7cf53 0 [(0, .int x), (1, .int x)] [] σ _
  refine wr_iload_n (pc := 0) (dget kJ9_min_7cf53 0 rfl) 0 rfl ?_
  refine wr_iload_n (pc := 1) (dget kJ9_min_7cf53 1 rfl) 1 rfl ?_
  refine wr_icmp_gt (pc := 2) (tgt := 9) (dget kJ9_min_7cf53 2 rfl) (by decide) (fun c_1 => ?_) (fun c_1 => ?_)
  · refine wr_iload_n (pc := 9) (dget kJ9_min_7cf53 5 rfl) 1 rfl ?_
    exact wr_iret (pc := 10) rfl (dget kJ9_min_7cf53 6 rfl) ⟨_, rfl, rfl, rfl⟩
  · refine wr_iload_n (pc := 5) (dget kJ9_min_7cf53 3 rfl) 0 rfl ?_
    refine wr_goto (pc := 6) (tgt := 10) (dget kJ9_min_7cf53 4 rfl) (by decide) ?_
    exact wr_iret (pc := 10) rfl (dget kJ9_min_7cf53 6 rfl) ⟨_, rfl, rfl, rfl⟩
theorem sIxF_step {l : List Int32} {c : Int32} {k : Nat} (hk : k < l.length) : sIxF c (l.drop k) k = if l.getD k 0 = c then nI k else sIxF c (l.drop (k + 1)) (k + 1) := by
  rw [List.drop_eq_getElem_cons hk, sIxF, List.getD_eq_getElem?_getD, List.getElem?_eq_getElem hk]
  rfl
theorem tS_ixc {G : GT} {σ : Hp} {i : Nat} (hi : i < 8) {c : Int32} : CT G mJ1_indexOfChar_4cfef [.ref (G.1 (230 + i)), .int c, .int 0, .int (nI (lnS.getD i 0))] σ (LI (fun r τ => r = sIxF c.toInt8.toInt32 (byS.getD i []) 0 ∧ τ = σ)) := by
  obtain ⟨f1, f2, f3⟩ := st_fact i hi
  refine CT.ofF (by decide +kernel) (Nat.le_of_ble_eq_true rfl) ?_
  show WP G mJ1_indexOfChar_4cfef 0 [(0, .ref (G.1 (230 + i))), (1, .int c), (2, .int 0), (3, .int (nI (lnS.getD i 0)))] [] σ _
  refine wr_iload_n (pc := 0) (dget kJ1_indexOfChar_4cfef 0 rfl) 1 rfl ?_
  refine wr_i2b (pc := 1) (dget kJ1_indexOfChar_4cfef 1 rfl) rfl ?_
  generalize c.toInt8.toInt32 = b
  refine wr_istore (pc := 2) (lv' := [(4, .int b), (0, .ref (G.1 (230 + i))), (1, .int c), (2, .int 0), (3, .int (nI (lnS.getD i 0)))]) (dget kJ1_indexOfChar_4cfef 2 rfl) (by decide) rfl ?_
  refine wr_iload_n (pc := 4) (dget kJ1_indexOfChar_4cfef 3 rfl) 3 rfl ?_
  refine wr_istore (pc := 5) (lv' := [(5, .int 0), (4, .int b), (0, .ref (G.1 (230 + i))), (1, .int c), (2, .int 0), (3, .int (nI (lnS.getD i 0)))]) (dget kJ1_indexOfChar_4cfef 4 rfl) (by decide) rfl ?_
  suffices L : ∀ (d k : Nat), k + d = lnS.getD i 0 → sIxF b (byS.getD i []) 0 = sIxF b ((byS.getD i []).drop k) k → WP G mJ1_indexOfChar_4cfef 7 [(5, .int (nI k)), (4, .int b), (0, .ref (G.1 (230 + i))), (1, .int c), (2, .int 0), (3, .int (nI (lnS.getD i 0)))] [] σ (LI (fun r τ => r = sIxF b (byS.getD i []) 0 ∧ τ = σ)) from L (lnS.getD i 0) 0 (by omega) rfl
  intro d
  induction d with
  | zero =>
    intro k hd he
    refine wr_iload (pc := 7) (dget kJ1_indexOfChar_4cfef 5 rfl) 0 rfl ?_
    refine wr_iload_n (pc := 9) (dget kJ1_indexOfChar_4cfef 6 rfl) 5 rfl ?_
    refine wr_icmp_ge (pc := 10) (tgt := 31) (dget kJ1_indexOfChar_4cfef 7 rfl) (by decide) (fun _ => ?_) (fun q => absurd (nI_le (by omega) (by omega)) q)
    refine wr_iconst (pc := 31) (dget kJ1_indexOfChar_4cfef 17 rfl) ic_m1 ?_
    refine wr_iret (pc := 32) rfl (dget kJ1_indexOfChar_4cfef 18 rfl) ⟨_, rfl, ?_, rfl⟩
    rw [he, List.drop_eq_nil_of_le (by omega)]; rfl
  | succ d ih =>
    intro k hd he
    refine wr_iload (pc := 7) (dget kJ1_indexOfChar_4cfef 5 rfl) 0 rfl ?_
    refine wr_iload_n (pc := 9) (dget kJ1_indexOfChar_4cfef 6 rfl) 5 rfl ?_
    refine wr_icmp_ge (pc := 10) (tgt := 31) (dget kJ1_indexOfChar_4cfef 7 rfl) (by decide) (fun q => absurd ((nI_leI (by omega) (by omega)).mp q) (by omega)) (fun _ => ?_)
    refine wr_aload_n (pc := 13) (dget kJ1_indexOfChar_4cfef 8 rfl) 2 rfl ?_
    refine wr_iload (pc := 14) (dget kJ1_indexOfChar_4cfef 9 rfl) 0 rfl ?_
    refine wr_sby (pc := 16) hi (vp_in_nI (by omega) (by omega)) (dget kJ1_indexOfChar_4cfef 10 rfl) ?_
    rw [show (nI k).toNatClampNeg = k from nI_clamp (by omega)]
    refine wr_iload (pc := 17) (dget kJ1_indexOfChar_4cfef 11 rfl) 1 rfl ?_
    rw [sIxF_step (by omega)] at he
    refine wr_icmp_ne (pc := 19) (tgt := 25) (dget kJ1_indexOfChar_4cfef 12 rfl) (by decide) (fun q => ?_) (fun q => ?_)
    · rw [if_neg q] at he
      refine wr_iinc (pc := 25) (v := nI (k + 1)) (lv' := [(5, .int (nI (k + 1))), (4, .int b), (0, .ref (G.1 (230 + i))), (1, .int c), (2, .int 0), (3, .int (nI (lnS.getD i 0)))]) (dget kJ1_indexOfChar_4cfef 15 rfl) 0 rfl (nI_1 k) (by decide) rfl ?_
      refine wr_goto (pc := 28) (tgt := 7) (dget kJ1_indexOfChar_4cfef 16 rfl) (by decide) ?_
      exact ih (k + 1) (by omega) he
    · rw [if_pos q] at he
      refine wr_iload (pc := 22) (dget kJ1_indexOfChar_4cfef 13 rfl) 0 rfl ?_
      exact wr_iret (pc := 24) rfl (dget kJ1_indexOfChar_4cfef 14 rfl) ⟨_, rfl, he.symm, rfl⟩
theorem tS_ix1 {G : GT} {σ : Hp} {i : Nat} (hi : i < 8) {c : Int32} : CT G mJ1_indexOf_4cfef [.ref (G.1 (230 + i)), .int c, .int 0, .int (nI (lnS.getD i 0))] σ (LI (fun r τ => r = sIx i c ∧ τ = σ)) := by
  obtain ⟨f1, f2, f3⟩ := st_fact i hi
  refine CT.ofF (by decide +kernel) (Nat.le_of_ble_eq_true rfl) ?_
  show WP G mJ1_indexOf_4cfef 0 [(0, .ref (G.1 (230 + i))), (1, .int c), (2, .int 0), (3, .int (nI (lnS.getD i 0)))] [] σ _
  refine wr_iload_n (pc := 0) (dget kJ1_indexOf_4cfef 0 rfl) 1 rfl ?_
  refine wr_callSi (pc := 1) (Mc := mJ1_canEncode_9a6ad) (rest := []) cf_J1_88 cs_J1_canEncode_9a6ad ⟨Nat.le_of_ble_eq_true rfl, Nat.le_of_ble_eq_true rfl⟩ rfl rfl (Nat.le_of_ble_eq_true rfl) (dget kJ1_indexOf_4cfef 1 rfl) tS_can (fun r τ hq => ?_)
  obtain ⟨hr, rfl⟩ := hq
  unfold sIx
  refine wr_if_ne (pc := 4) (tgt := 9) (dget kJ1_indexOf_4cfef 2 rfl) (by decide) (fun q => ?_) (fun q => ?_)
  · have hc : ¬ (c < 0 ∨ 255 < c) := fun h => q (by rw [hr, if_pos h])
    rw [if_neg hc]
    refine wr_iload_n (pc := 9) (dget kJ1_indexOf_4cfef 5 rfl) 2 rfl ?_
    refine wr_iconst (pc := 10) (dget kJ1_indexOf_4cfef 6 rfl) ic_0 ?_
    refine wr_callSi (pc := 11) (Mc := mJ9_max_7cf53) (rest := []) cf_J1_92 cs_J9_max_7cf53 ⟨Nat.le_of_ble_eq_true rfl, Nat.le_of_ble_eq_true rfl⟩ rfl rfl (Nat.le_of_ble_eq_true rfl) (dget kJ1_indexOf_4cfef 7 rfl) tS_max (fun r τ hq => ?_)
    obtain ⟨rfl, rfl⟩ := hq
    refine wr_istore_n (pc := 14) (lv' := [(2, .int 0), (0, .ref (G.1 (230 + i))), (1, .int c), (3, .int (nI (lnS.getD i 0)))]) (dget kJ1_indexOf_4cfef 8 rfl) (by decide) rfl ?_
    refine wr_iload_n (pc := 15) (dget kJ1_indexOf_4cfef 9 rfl) 3 rfl ?_
    refine wr_aload_n (pc := 16) (dget kJ1_indexOf_4cfef 10 rfl) 1 rfl ?_
    refine wr_sln (pc := 17) hi (dget kJ1_indexOf_4cfef 11 rfl) ?_
    refine wr_callSi (pc := 18) (Mc := mJ9_min_7cf53) (rest := []) cf_J1_38 cs_J9_min_7cf53 ⟨Nat.le_of_ble_eq_true rfl, Nat.le_of_ble_eq_true rfl⟩ rfl rfl (Nat.le_of_ble_eq_true rfl) (dget kJ1_indexOf_4cfef 12 rfl) tS_min (fun r τ hq => ?_)
    obtain ⟨rfl, rfl⟩ := hq
    refine wr_istore_n (pc := 21) (lv' := [(3, .int (nI (lnS.getD i 0))), (2, .int 0), (0, .ref (G.1 (230 + i))), (1, .int c)]) (dget kJ1_indexOf_4cfef 13 rfl) (by decide) rfl ?_
    refine wr_iload_n (pc := 22) (dget kJ1_indexOf_4cfef 14 rfl) 1 rfl ?_
    refine wr_iload_n (pc := 23) (dget kJ1_indexOf_4cfef 15 rfl) 0 rfl ?_
    refine wr_icmp_lt (pc := 24) (tgt := 29) (dget kJ1_indexOf_4cfef 16 rfl) (by decide) (fun _ => ?_) (fun q => absurd (nI_lt (a := 0) f2 (by omega)) q)
    refine wr_aload_n (pc := 29) (dget kJ1_indexOf_4cfef 19 rfl) 2 rfl ?_
    refine wr_iload_n (pc := 30) (dget kJ1_indexOf_4cfef 20 rfl) 3 rfl ?_
    refine wr_iload_n (pc := 31) (dget kJ1_indexOf_4cfef 21 rfl) 1 rfl ?_
    refine wr_iload_n (pc := 32) (dget kJ1_indexOf_4cfef 22 rfl) 0 rfl ?_
    refine wr_callSi (pc := 33) (Mc := mJ1_indexOfChar_4cfef) (rest := []) cf_J1_95 cs_J1_indexOfChar_4cfef ⟨Nat.le_of_ble_eq_true rfl, Nat.le_of_ble_eq_true rfl⟩ rfl rfl (Nat.le_of_ble_eq_true rfl) (dget kJ1_indexOf_4cfef 23 rfl) (tS_ixc hi) (fun r τ hq => ?_)
    exact wr_iret (pc := 36) rfl (dget kJ1_indexOf_4cfef 24 rfl) ⟨_, rfl, hq⟩
  · have hc : c < 0 ∨ 255 < c := by
      by_cases h : c < 0 ∨ 255 < c
      · exact h
      · rw [hr, if_neg h] at q; exact absurd q (by decide)
    rw [if_pos hc]
    refine wr_iconst (pc := 7) (dget kJ1_indexOf_4cfef 3 rfl) ic_m1 ?_
    exact wr_iret (pc := 8) rfl (dget kJ1_indexOf_4cfef 4 rfl) ⟨_, rfl, rfl, rfl⟩
theorem tS_ix2 {G : GT} {σ : Hp} {i : Nat} (hi : i < 8) {c : Int32} : CT G mJ0_indexOf_7cf53 [.ref (G.1 (210 + i)), .int c, .int 0] σ (LI (fun r τ => r = sIx i c ∧ τ = σ)) := by
  refine CT.ofF (by decide +kernel) (Nat.le_of_ble_eq_true rfl) ?_
  show WP G mJ0_indexOf_7cf53 0 [(0, .ref (G.1 (210 + i))), (1, .int c), (2, .int 0)] [] σ _
  refine wr_aload_n (pc := 0) (dget kJ0_indexOf_7cf53 0 rfl) 0 rfl ?_
  refine wr_callStr (pc := 1) (As := []) (rest := []) hi cf_J0_492 cv_J0_isLatin1_aae02 rfl ⟨Nat.le_of_ble_eq_true rfl, Nat.le_of_ble_eq_true rfl⟩ rfl rfl (Nat.le_of_ble_eq_true rfl) (dget kJ0_indexOf_7cf53 1 rfl) (tS_lat hi) (fun v τ hq => ?_)
  obtain ⟨r, rfl, rfl, rfl⟩ := hq
  refine wr_if_eq (pc := 4) (tgt := 23) (dget kJ0_indexOf_7cf53 2 rfl) (by decide) (fun q => absurd q (by decide)) (fun _ => ?_)
  refine wr_aload_n (pc := 7) (dget kJ0_indexOf_7cf53 3 rfl) 0 rfl ?_
  refine wr_sval (pc := 8) hi (tin7 11 (by decide +kernel)) (dget kJ0_indexOf_7cf53 4 rfl) ?_
  refine wr_iload_n (pc := 11) (dget kJ0_indexOf_7cf53 5 rfl) 1 rfl ?_
  refine wr_iload_n (pc := 12) (dget kJ0_indexOf_7cf53 6 rfl) 2 rfl ?_
  refine wr_aload_n (pc := 13) (dget kJ0_indexOf_7cf53 7 rfl) 0 rfl ?_
  refine wr_callStr (pc := 14) (As := []) (rest := [.int 0, .int c, .ref (G.1 (230 + i))]) hi cf_J0_505 cv_J0_length_8abf5 rfl ⟨Nat.le_of_ble_eq_true rfl, Nat.le_of_ble_eq_true rfl⟩ rfl rfl (Nat.le_of_ble_eq_true rfl) (dget kJ0_indexOf_7cf53 8 rfl) (tS_len hi) (fun v τ hq => ?_)
  obtain ⟨r, rfl, rfl, rfl⟩ := hq
  refine wr_callSi (pc := 17) (Mc := mJ1_indexOf_4cfef) (rest := []) cf_J0_637 cs_J1_indexOf_4cfef ⟨Nat.le_of_ble_eq_true rfl, Nat.le_of_ble_eq_true rfl⟩ rfl rfl (Nat.le_of_ble_eq_true rfl) (dget kJ0_indexOf_7cf53 9 rfl) (tS_ix1 hi) (fun r τ hq => ?_)
  refine wr_goto (pc := 20) (tgt := 36) (dget kJ0_indexOf_7cf53 10 rfl) (by decide) ?_
  exact wr_iret (pc := 36) rfl (dget kJ0_indexOf_7cf53 18 rfl) ⟨_, rfl, hq⟩
theorem tJ0_indexOf_0f7a4 {G : GT} {o : Nat} {p1 : Int32} {σ : Hp} {post : Int32 → Hp → Prop} (h : vJ0_indexOf_0f7a4 o p1 σ post) : CT G mJ0_indexOf_0f7a4 [.ref (G.1 o), .int p1] σ (LI post) := by
  obtain ⟨i, hi, rfl, h⟩ := h
  refine CT.ofF (by decide +kernel) (Nat.le_of_ble_eq_true rfl) ?_
  show WP G mJ0_indexOf_0f7a4 0 [(0, .ref (G.1 (210 + i))), (1, .int p1)] [] σ _
  refine wr_aload_n (pc := 0) (dget kJ0_indexOf_0f7a4 0 rfl) 0 rfl ?_
  refine wr_iload_n (pc := 1) (dget kJ0_indexOf_0f7a4 1 rfl) 1 rfl ?_
  refine wr_iconst (pc := 2) (dget kJ0_indexOf_0f7a4 2 rfl) ic_0 ?_
  refine wr_callStr (pc := 3) (As := [.int p1, .int 0]) (rest := []) hi cf_J0_633 cv_J0_indexOf_7cf53 rfl ⟨Nat.le_of_ble_eq_true rfl, Nat.le_of_ble_eq_true rfl⟩ rfl rfl (Nat.le_of_ble_eq_true rfl) (dget kJ0_indexOf_0f7a4 3 rfl) (tS_ix2 hi) (fun v τ hq => ?_)
  obtain ⟨r, rfl, rfl, rfl⟩ := hq
  exact wr_iret (pc := 6) rfl (dget kJ0_indexOf_0f7a4 4 rfl) ⟨_, rfl, h⟩
theorem wr_callStri {G : GT} {M : MT} {pc : Nat} {lv : List (Nat × Value)} {rest : List Value} {σ : Hp} {Q : Option Value → Hp → Prop} {idx o : Nat} {p1 : Int32} {post : Int32 → Hp → Prop} (hF : CF M.1.cls idx mJ0_indexOf_0f7a4 1) (hR : mJ0_indexOf_0f7a4.2.2.2.2.1 + 1 ≤ M.2.2.2.2.1 ∧ 8 + (mJ0_indexOf_0f7a4.2.2.1 + 11) + mJ0_indexOf_0f7a4.2.2.2.2.2 ≤ M.2.2.2.2.2) (hw : (rest.map fun v => v.category).sum ≤ 8) (hdg : decode M.2.1 pc = .ok (.invokevirtual idx, 3)) (h : vJ0_indexOf_0f7a4 o p1 σ post) (K : ∀ (r : Int32) τ, post r τ → WP G M (pc + 3) lv (.int r :: rest) τ Q) : WP G M pc lv (.int p1 :: .ref (G.1 o) :: rest) σ Q := by
  have h2 := tJ0_indexOf_0f7a4 (G := G) h
  obtain ⟨i, hi, rfl, -⟩ := h
  exact wr_callStr hi hF cv_J0_indexOf_0f7a4 rfl hR rfl rfl hw hdg h2 (fun v τ hq => by obtain ⟨r, rfl, hq⟩ := hq; exact K r τ hq)
def vJ9_floorMod_7cf53 (p1 : Int32) (p2 : Int32) (σ : Hp) (post : Int32 → Hp → Prop) : Prop := (¬ p2 = 0 ∧ (∀ x2_1 : Int32, x2_1 = (p1 - p1 / p2 * p2) → ((0 ≤ (p1 ^^^ p2) → post x2_1 σ) ∧ (¬ 0 ≤ (p1 ^^^ p2) → ((x2_1 = 0 → post x2_1 σ) ∧ (¬ x2_1 = 0 → post (x2_1 + p2) σ))))))
set_option maxHeartbeats 4000000 in
set_option maxRecDepth 100000 in
theorem tJ9_floorMod_7cf53 {G : GT} {p1 : Int32} {p2 : Int32} {σ : Hp} {post : Int32 → Hp → Prop} (h : vJ9_floorMod_7cf53 p1 p2 σ post) : CT G mJ9_floorMod_7cf53 [.int p1, .int p2] σ (LI post) := by
  refine CT.ofF (by decide +kernel) (Nat.le_of_ble_eq_true rfl) ?_
  show WP G mJ9_floorMod_7cf53 0 [(0, .int p1), (1, .int p2)] [] σ (LI post)
  unfold vJ9_floorMod_7cf53 at h
  refine wr_iload_n (pc := 0) (dget kJ9_floorMod_7cf53 0 rfl) 0 rfl ?_
  refine wr_iload_n (pc := 1) (dget kJ9_floorMod_7cf53 1 rfl) 1 rfl ?_
  obtain ⟨q_4, h⟩ := h
  refine wr_irem (pc := 2) (dget kJ9_floorMod_7cf53 2 rfl) q_4 ?_
  refine wr_topi (fun x2_1 e_x2_1 => ?_)
  have h := h x2_1 e_x2_1
  refine wr_istore_n (pc := 3) (lv' := [(2, .int x2_1), (0, .int p1), (1, .int p2)]) (dget kJ9_floorMod_7cf53 3 rfl) (by decide) rfl ?_
  refine wr_iload_n (pc := 4) (dget kJ9_floorMod_7cf53 4 rfl) 1 rfl ?_
  refine wr_iload_n (pc := 5) (dget kJ9_floorMod_7cf53 5 rfl) 2 rfl ?_
  refine wr_ixor (pc := 6) (dget kJ9_floorMod_7cf53 6 rfl) ?_
  refine wr_if_ge (pc := 7) (tgt := 18) (dget kJ9_floorMod_7cf53 7 rfl) (by decide) (fun c_2 => ?_) (fun c_2 => ?_)
  · have h := h.1 c_2
    refine wr_iload_n (pc := 18) (dget kJ9_floorMod_7cf53 14 rfl) 0 rfl ?_
    exact wr_iret (pc := 19) rfl (dget kJ9_floorMod_7cf53 15 rfl) ⟨_, rfl, h⟩
  · have h := h.2 c_2
    refine wr_iload_n (pc := 10) (dget kJ9_floorMod_7cf53 8 rfl) 0 rfl ?_
    refine wr_if_eq (pc := 11) (tgt := 18) (dget kJ9_floorMod_7cf53 9 rfl) (by decide) (fun c_3 => ?_) (fun c_3 => ?_)
    · have h := h.1 c_3
      refine wr_iload_n (pc := 18) (dget kJ9_floorMod_7cf53 14 rfl) 0 rfl ?_
      exact wr_iret (pc := 19) rfl (dget kJ9_floorMod_7cf53 15 rfl) ⟨_, rfl, h⟩
    · have h := h.2 c_3
      refine wr_iload_n (pc := 14) (dget kJ9_floorMod_7cf53 10 rfl) 0 rfl ?_
      refine wr_iload_n (pc := 15) (dget kJ9_floorMod_7cf53 11 rfl) 2 rfl ?_
      refine wr_iadd (pc := 16) (dget kJ9_floorMod_7cf53 12 rfl) ?_
      exact wr_iret (pc := 17) rfl (dget kJ9_floorMod_7cf53 13 rfl) ⟨_, rfl, h⟩
def vX8_isSet (p1 : Int32) (p2 : Int32) (σ : Hp) (post : Int32 → Hp → Prop) : Prop := ((((p1 >>> (p2 &&& 31)) &&& (1 : Int32)) = (1 : Int32) → post (1 : Int32) σ) ∧ (¬ ((p1 >>> (p2 &&& 31)) &&& (1 : Int32)) = (1 : Int32) → post (0 : Int32) σ))
set_option maxHeartbeats 4000000 in
set_option maxRecDepth 100000 in
theorem tX8_isSet {G : GT} {p1 : Int32} {p2 : Int32} {σ : Hp} {post : Int32 → Hp → Prop} (h : vX8_isSet p1 p2 σ post) : CT G mX8_isSet [.int p1, .int p2] σ (LI post) := by
  refine CT.of (by decide +kernel) (Nat.le_of_ble_eq_true rfl) ?_
  show WP G mX8_isSet 0 [(0, .int p1), (1, .int p2)] [] σ (LI post)
  unfold vX8_isSet at h
  refine wr_iload_n (pc := 0) (dget kX8_isSet 0 rfl) 0 rfl ?_
  refine wr_iload_n (pc := 1) (dget kX8_isSet 1 rfl) 1 rfl ?_
  refine wr_ishr (pc := 2) (dget kX8_isSet 2 rfl) ?_
  refine wr_iconst (pc := 3) (dget kX8_isSet 3 rfl) ic_1 ?_
  refine wr_iand (pc := 4) (dget kX8_isSet 4 rfl) ?_
  refine wr_iconst (pc := 5) (dget kX8_isSet 5 rfl) ic_1 ?_
  refine wr_icmp_ne (pc := 6) (tgt := 13) (dget kX8_isSet 6 rfl) (by decide) (fun c_1 => ?_) (fun c_1 => ?_)
  · have h := h.2 c_1
    refine wr_iconst (pc := 13) (dget kX8_isSet 9 rfl) ic_0 ?_
    exact wr_zret (pc := 14) rfl (by decide) (dget kX8_isSet 10 rfl) ⟨_, rfl, h⟩
  · have h := h.1 c_1
    refine wr_iconst (pc := 9) (dget kX8_isSet 7 rfl) ic_1 ?_
    refine wr_goto (pc := 10) (tgt := 14) (dget kX8_isSet 8 rfl) (by decide) ?_
    exact wr_zret (pc := 14) rfl (by decide) (dget kX8_isSet 10 rfl) ⟨_, rfl, h⟩
def vJ6_bitCount_0f7a4 (p1 : Int32) (σ : Hp) (post : Int32 → Hp → Prop) : Prop := (∀ x0_1 : Int32, x0_1 = (p1 - (((p1).toUInt32 >>> (((1 : Int32)).toUInt32 &&& Int32.toUInt32 31)).toInt32 &&& (1431655765 : Int32))) → (∀ x0_2 : Int32, x0_2 = ((x0_1 &&& (858993459 : Int32)) + (((x0_1).toUInt32 >>> (((2 : Int32)).toUInt32 &&& Int32.toUInt32 31)).toInt32 &&& (858993459 : Int32))) → (∀ x0_3 : Int32, x0_3 = ((x0_2 + ((x0_2).toUInt32 >>> (((4 : Int32)).toUInt32 &&& Int32.toUInt32 31)).toInt32) &&& (252645135 : Int32)) → (∀ x0_4 : Int32, x0_4 = (x0_3 + ((x0_3).toUInt32 >>> (((8 : Int32)).toUInt32 &&& Int32.toUInt32 31)).toInt32) → (∀ x0_5 : Int32, x0_5 = (x0_4 + ((x0_4).toUInt32 >>> (((16 : Int32)).toUInt32 &&& Int32.toUInt32 31)).toInt32) → post (x0_5 &&& (63 : Int32)) σ)))))
set_option maxHeartbeats 4000000 in
set_option maxRecDepth 100000 in
theorem tJ6_bitCount_0f7a4 {G : GT} {p1 : Int32} {σ : Hp} {post : Int32 → Hp → Prop} (h : vJ6_bitCount_0f7a4 p1 σ post) : CT G mJ6_bitCount_0f7a4 [.int p1] σ (LI post) := by
  refine CT.of (by decide +kernel) (Nat.le_of_ble_eq_true rfl) ?_
  show WP G mJ6_bitCount_0f7a4 0 [(0, .int p1)] [] σ (LI post)
  unfold vJ6_bitCount_0f7a4 at h
  refine wr_iload_n (pc := 0) (dget kJ6_bitCount_0f7a4 0 rfl) 0 rfl ?_
  refine wr_iload_n (pc := 1) (dget kJ6_bitCount_0f7a4 1 rfl) 0 rfl ?_
  refine wr_iconst (pc := 2) (dget kJ6_bitCount_0f7a4 2 rfl) ic_1 ?_
  refine wr_iushr (pc := 3) (dget kJ6_bitCount_0f7a4 3 rfl) rfl ?_
  refine wr_ldcw (pc := 4) ki_J6_265 (dget kJ6_bitCount_0f7a4 4 rfl) ?_
  refine wr_iand (pc := 7) (dget kJ6_bitCount_0f7a4 5 rfl) ?_
  refine wr_isub (pc := 8) (dget kJ6_bitCount_0f7a4 6 rfl) ?_
  refine wr_topi (fun x0_1 e_x0_1 => ?_)
  have h := h x0_1 e_x0_1
  refine wr_istore_n (pc := 9) (lv' := [(0, .int x0_1)]) (dget kJ6_bitCount_0f7a4 7 rfl) (by decide) rfl ?_
  refine wr_iload_n (pc := 10) (dget kJ6_bitCount_0f7a4 8 rfl) 0 rfl ?_
  refine wr_ldcw (pc := 11) ki_J6_266 (dget kJ6_bitCount_0f7a4 9 rfl) ?_
  refine wr_iand (pc := 14) (dget kJ6_bitCount_0f7a4 10 rfl) ?_
  refine wr_iload_n (pc := 15) (dget kJ6_bitCount_0f7a4 11 rfl) 0 rfl ?_
  refine wr_iconst (pc := 16) (dget kJ6_bitCount_0f7a4 12 rfl) ic_2 ?_
  refine wr_iushr (pc := 17) (dget kJ6_bitCount_0f7a4 13 rfl) rfl ?_
  refine wr_ldcw (pc := 18) ki_J6_266 (dget kJ6_bitCount_0f7a4 14 rfl) ?_
  refine wr_iand (pc := 21) (dget kJ6_bitCount_0f7a4 15 rfl) ?_
  refine wr_iadd (pc := 22) (dget kJ6_bitCount_0f7a4 16 rfl) ?_
  refine wr_topi (fun x0_2 e_x0_2 => ?_)
  have h := h x0_2 e_x0_2
  refine wr_istore_n (pc := 23) (lv' := [(0, .int x0_2)]) (dget kJ6_bitCount_0f7a4 17 rfl) (by decide) rfl ?_
  refine wr_iload_n (pc := 24) (dget kJ6_bitCount_0f7a4 18 rfl) 0 rfl ?_
  refine wr_iload_n (pc := 25) (dget kJ6_bitCount_0f7a4 19 rfl) 0 rfl ?_
  refine wr_iconst (pc := 26) (dget kJ6_bitCount_0f7a4 20 rfl) ic_4 ?_
  refine wr_iushr (pc := 27) (dget kJ6_bitCount_0f7a4 21 rfl) rfl ?_
  refine wr_iadd (pc := 28) (dget kJ6_bitCount_0f7a4 22 rfl) ?_
  refine wr_ldcw (pc := 29) ki_J6_267 (dget kJ6_bitCount_0f7a4 23 rfl) ?_
  refine wr_iand (pc := 32) (dget kJ6_bitCount_0f7a4 24 rfl) ?_
  refine wr_topi (fun x0_3 e_x0_3 => ?_)
  have h := h x0_3 e_x0_3
  refine wr_istore_n (pc := 33) (lv' := [(0, .int x0_3)]) (dget kJ6_bitCount_0f7a4 25 rfl) (by decide) rfl ?_
  refine wr_iload_n (pc := 34) (dget kJ6_bitCount_0f7a4 26 rfl) 0 rfl ?_
  refine wr_iload_n (pc := 35) (dget kJ6_bitCount_0f7a4 27 rfl) 0 rfl ?_
  refine wr_bipush (pc := 36) (dget kJ6_bitCount_0f7a4 28 rfl) bp_8 ?_
  refine wr_iushr (pc := 38) (dget kJ6_bitCount_0f7a4 29 rfl) rfl ?_
  refine wr_iadd (pc := 39) (dget kJ6_bitCount_0f7a4 30 rfl) ?_
  refine wr_topi (fun x0_4 e_x0_4 => ?_)
  have h := h x0_4 e_x0_4
  refine wr_istore_n (pc := 40) (lv' := [(0, .int x0_4)]) (dget kJ6_bitCount_0f7a4 31 rfl) (by decide) rfl ?_
  refine wr_iload_n (pc := 41) (dget kJ6_bitCount_0f7a4 32 rfl) 0 rfl ?_
  refine wr_iload_n (pc := 42) (dget kJ6_bitCount_0f7a4 33 rfl) 0 rfl ?_
  refine wr_bipush (pc := 43) (dget kJ6_bitCount_0f7a4 34 rfl) bp_16 ?_
  refine wr_iushr (pc := 45) (dget kJ6_bitCount_0f7a4 35 rfl) rfl ?_
  refine wr_iadd (pc := 46) (dget kJ6_bitCount_0f7a4 36 rfl) ?_
  refine wr_topi (fun x0_5 e_x0_5 => ?_)
  have h := h x0_5 e_x0_5
  refine wr_istore_n (pc := 47) (lv' := [(0, .int x0_5)]) (dget kJ6_bitCount_0f7a4 37 rfl) (by decide) rfl ?_
  refine wr_iload_n (pc := 48) (dget kJ6_bitCount_0f7a4 38 rfl) 0 rfl ?_
  refine wr_bipush (pc := 49) (dget kJ6_bitCount_0f7a4 39 rfl) bp_63 ?_
  refine wr_iand (pc := 51) (dget kJ6_bitCount_0f7a4 40 rfl) ?_
  exact wr_iret (pc := 52) rfl (dget kJ6_bitCount_0f7a4 41 rfl) ⟨_, rfl, h⟩
def vJ7_fill_53178_5 (post : Hp → Prop) (ex : Hp → Prop) (a0 : Nat) (x1 : Int32) (x3 : Int32) : Nat → Int32 → Hp → Prop
  | 0 => fun _ _ => False
  | n + 1 => fun x2 σ => ((x3 ≤ x2 → (ex σ)) ∧ (¬ x3 ≤ x2 → (vp_in x2 (iln a0) ∧ ∀ σ_3 : Hp, σ_3 = wI σ a0 x2.toNatClampNeg x1 → (∀ x2_4 : Int32, x2_4 = x2 + (1 : Int32) → vJ7_fill_53178_5 post ex a0 x1 x3 n x2_4 σ_3))))
set_option maxHeartbeats 4000000 in
set_option maxRecDepth 100000 in
theorem tJ7_fill_53178_5 {G : GT} {post : Hp → Prop} {ex : Hp → Prop} {a0 : Nat} {x1 : Int32} {x3 : Int32} (hex : ∀  (τ : Hp), ex  τ → WP G mJ7_fill_53178 20 [] [] τ (LV post)) : ∀ (n : Nat) (x2 : Int32) (σ : Hp), vJ7_fill_53178_5 post ex a0 x1 x3 n x2 σ → WP G mJ7_fill_53178 5 [(0, .ref (G.1 a0)), (1, .int x1), (2, .int x2), (3, .int x3)] [] σ (LV post) := by
  intro n
  induction n with
  | zero => intro x2 σ h; exact False.elim h
  | succ n ih =>
    intro x2 σ h
    simp only [vJ7_fill_53178_5] at h
    refine wr_iload_n (pc := 5) (dget kJ7_fill_53178 5 rfl) 2 rfl ?_
    refine wr_iload_n (pc := 6) (dget kJ7_fill_53178 6 rfl) 3 rfl ?_
    refine wr_icmp_ge (pc := 7) (tgt := 20) (dget kJ7_fill_53178 7 rfl) (by decide) (fun c_1 => ?_) (fun c_1 => ?_)
    · have h := h.1 c_1
      refine wr_sub [] rfl ?_
      exact hex  _ h
    · have h := h.2 c_1
      refine wr_aload_n (pc := 10) (dget kJ7_fill_53178 8 rfl) 0 rfl ?_
      refine wr_iload_n (pc := 11) (dget kJ7_fill_53178 9 rfl) 2 rfl ?_
      refine wr_iload_n (pc := 12) (dget kJ7_fill_53178 10 rfl) 1 rfl ?_
      obtain ⟨q_2, h⟩ := h
      refine wr_iastl (pc := 13) rfl q_2 (dget kJ7_fill_53178 11 rfl) ?_
      refine wr_tops (fun σ_3 e_σ_3 => ?_)
      have h := h σ_3 e_σ_3
      obtain ⟨x2_4, e_x2_4⟩ : ∃ y : Int32, y = x2 + (1 : Int32) := ⟨_, rfl⟩
      have h := h x2_4 e_x2_4
      refine wr_iinc (pc := 14) (v := x2_4) (lv' := [(2, .int x2_4), (0, .ref (G.1 a0)), (1, .int x1), (3, .int x3)]) (dget kJ7_fill_53178 12 rfl) 2 rfl (by rw [e_x2_4, ic_1]) (by decide) rfl ?_
      refine wr_goto (pc := 17) (tgt := 5) (dget kJ7_fill_53178 13 rfl) (by decide) ?_
      refine wr_sub [1, 2, 0, 3] rfl ?_
      exact ih _ _ h
def vJ7_fill_53178 (a1 : Nat) (p2 : Int32) (σ : Hp) (post : Hp → Prop) : Prop := (kd a1 = 10 ∧ (∀ x3_2 : Int32, x3_2 = (nI (ln a1)) → (∃ fu : Nat, vJ7_fill_53178_5 post (fun σ_3 => post σ_3) a1 p2 x3_2 fu (0 : Int32) σ)))
set_option maxHeartbeats 4000000 in
set_option maxRecDepth 100000 in
theorem tJ7_fill_53178 {G : GT} {a1 : Nat} {p2 : Int32} {σ : Hp} {post : Hp → Prop} (h : vJ7_fill_53178 a1 p2 σ post) : CT G mJ7_fill_53178 [.ref (G.1 a1), .int p2] σ (LV post) := by
  refine CT.of (by decide +kernel) (Nat.le_of_ble_eq_true rfl) ?_
  show WP G mJ7_fill_53178 0 [(0, .ref (G.1 a1)), (1, .int p2)] [] σ (LV post)
  unfold vJ7_fill_53178 at h
  refine wr_iconst (pc := 0) (dget kJ7_fill_53178 0 rfl) ic_0 ?_
  refine wr_istore_n (pc := 1) (lv' := [(2, .int (0 : Int32)), (0, .ref (G.1 a1)), (1, .int p2)]) (dget kJ7_fill_53178 1 rfl) (by decide) rfl ?_
  refine wr_aload_n (pc := 2) (dget kJ7_fill_53178 2 rfl) 1 rfl ?_
  obtain ⟨q_1, h⟩ := h
  refine wr_alen (pc := 3) q_1 (dget kJ7_fill_53178 3 rfl) ?_
  refine wr_topi (fun x3_2 e_x3_2 => ?_)
  have h := h x3_2 e_x3_2
  refine wr_istore_n (pc := 4) (lv' := [(3, .int x3_2), (2, .int (0 : Int32)), (0, .ref (G.1 a1)), (1, .int p2)]) (dget kJ7_fill_53178 4 rfl) (by decide) rfl ?_
  obtain ⟨fu, h⟩ := h
  refine wr_sub [2, 3, 1, 0] rfl ?_
  refine tJ7_fill_53178_5 (fun σ_3 h => ?_) fu _ _ h
  exact wr_vret (pc := 20) rfl (dget kJ7_fill_53178 14 rfl) ⟨rfl, h⟩
def vX8_within (p1 : Int32) (p2 : Int32) (σ : Hp) (post : Int32 → Hp → Prop) : Prop := ((p1 < 0 → post (0 : Int32) σ) ∧ (¬ p1 < 0 → ((p2 ≤ p1 → post (0 : Int32) σ) ∧ (¬ p2 ≤ p1 → post (1 : Int32) σ))))
set_option maxHeartbeats 4000000 in
set_option maxRecDepth 100000 in
theorem tX8_within {G : GT} {p1 : Int32} {p2 : Int32} {σ : Hp} {post : Int32 → Hp → Prop} (h : vX8_within p1 p2 σ post) : CT G mX8_within [.int p1, .int p2] σ (LI post) := by
  refine CT.of (by decide +kernel) (Nat.le_of_ble_eq_true rfl) ?_
  show WP G mX8_within 0 [(0, .int p1), (1, .int p2)] [] σ (LI post)
  unfold vX8_within at h
  refine wr_iload_n (pc := 0) (dget kX8_within 0 rfl) 0 rfl ?_
  refine wr_if_lt (pc := 1) (tgt := 13) (dget kX8_within 1 rfl) (by decide) (fun c_1 => ?_) (fun c_1 => ?_)
  · have h := h.1 c_1
    refine wr_iconst (pc := 13) (dget kX8_within 7 rfl) ic_0 ?_
    exact wr_zret (pc := 14) rfl (by decide) (dget kX8_within 8 rfl) ⟨_, rfl, h⟩
  · have h := h.2 c_1
    refine wr_iload_n (pc := 4) (dget kX8_within 2 rfl) 0 rfl ?_
    refine wr_iload_n (pc := 5) (dget kX8_within 3 rfl) 1 rfl ?_
    refine wr_icmp_ge (pc := 6) (tgt := 13) (dget kX8_within 4 rfl) (by decide) (fun c_2 => ?_) (fun c_2 => ?_)
    · have h := h.1 c_2
      refine wr_iconst (pc := 13) (dget kX8_within 7 rfl) ic_0 ?_
      exact wr_zret (pc := 14) rfl (by decide) (dget kX8_within 8 rfl) ⟨_, rfl, h⟩
    · have h := h.2 c_2
      refine wr_iconst (pc := 9) (dget kX8_within 5 rfl) ic_1 ?_
      refine wr_goto (pc := 10) (tgt := 14) (dget kX8_within 6 rfl) (by decide) ?_
      exact wr_zret (pc := 14) rfl (by decide) (dget kX8_within 8 rfl) ⟨_, rfl, h⟩
def vJ9_max_7cf53 (p1 : Int32) (p2 : Int32) (σ : Hp) (post : Int32 → Hp → Prop) : Prop := ((p1 < p2 → post p2 σ) ∧ (¬ p1 < p2 → post p1 σ))
set_option maxHeartbeats 4000000 in
set_option maxRecDepth 100000 in
theorem tJ9_max_7cf53 {G : GT} {p1 : Int32} {p2 : Int32} {σ : Hp} {post : Int32 → Hp → Prop} (h : vJ9_max_7cf53 p1 p2 σ post) : CT G mJ9_max_7cf53 [.int p1, .int p2] σ (LI post) := by
  refine CT.ofF (by decide +kernel) (Nat.le_of_ble_eq_true rfl) ?_
  show WP G mJ9_max_7cf53 0 [(0, .int p1), (1, .int p2)] [] σ (LI post)
  unfold vJ9_max_7cf53 at h
  refine wr_iload_n (pc := 0) (dget kJ9_max_7cf53 0 rfl) 0 rfl ?_
  refine wr_iload_n (pc := 1) (dget kJ9_max_7cf53 1 rfl) 1 rfl ?_
  refine wr_icmp_lt (pc := 2) (tgt := 9) (dget kJ9_max_7cf53 2 rfl) (by decide) (fun c_1 => ?_) (fun c_1 => ?_)
  · have h := h.1 c_1
    refine wr_iload_n (pc := 9) (dget kJ9_max_7cf53 5 rfl) 1 rfl ?_
    exact wr_iret (pc := 10) rfl (dget kJ9_max_7cf53 6 rfl) ⟨_, rfl, h⟩
  · have h := h.2 c_1
    refine wr_iload_n (pc := 5) (dget kJ9_max_7cf53 3 rfl) 0 rfl ?_
    refine wr_goto (pc := 6) (tgt := 10) (dget kJ9_max_7cf53 4 rfl) (by decide) ?_
    exact wr_iret (pc := 10) rfl (dget kJ9_max_7cf53 6 rfl) ⟨_, rfl, h⟩
def vJ9_min_7cf53 (p1 : Int32) (p2 : Int32) (σ : Hp) (post : Int32 → Hp → Prop) : Prop := ((p2 < p1 → post p2 σ) ∧ (¬ p2 < p1 → post p1 σ))
set_option maxHeartbeats 4000000 in
set_option maxRecDepth 100000 in
theorem tJ9_min_7cf53 {G : GT} {p1 : Int32} {p2 : Int32} {σ : Hp} {post : Int32 → Hp → Prop} (h : vJ9_min_7cf53 p1 p2 σ post) : CT G mJ9_min_7cf53 [.int p1, .int p2] σ (LI post) := by
  refine CT.ofF (by decide +kernel) (Nat.le_of_ble_eq_true rfl) ?_
  show WP G mJ9_min_7cf53 0 [(0, .int p1), (1, .int p2)] [] σ (LI post)
  unfold vJ9_min_7cf53 at h
  refine wr_iload_n (pc := 0) (dget kJ9_min_7cf53 0 rfl) 0 rfl ?_
  refine wr_iload_n (pc := 1) (dget kJ9_min_7cf53 1 rfl) 1 rfl ?_
  refine wr_icmp_gt (pc := 2) (tgt := 9) (dget kJ9_min_7cf53 2 rfl) (by decide) (fun c_1 => ?_) (fun c_1 => ?_)
  · have h := h.1 c_1
    refine wr_iload_n (pc := 9) (dget kJ9_min_7cf53 5 rfl) 1 rfl ?_
    exact wr_iret (pc := 10) rfl (dget kJ9_min_7cf53 6 rfl) ⟨_, rfl, h⟩
  · have h := h.2 c_1
    refine wr_iload_n (pc := 5) (dget kJ9_min_7cf53 3 rfl) 0 rfl ?_
    refine wr_goto (pc := 6) (tgt := 10) (dget kJ9_min_7cf53 4 rfl) (by decide) ?_
    exact wr_iret (pc := 10) rfl (dget kJ9_min_7cf53 6 rfl) ⟨_, rfl, h⟩
def vJ6_numberOfTrailingZeros_0f7a4_62 (post : Int32 → Hp → Prop) (x0 : Int32) (x1 : Int32) (σ : Hp) : Prop := ((x0 ≤ (4 : Int32) → post (x1 + ((x0).toUInt32 >>> (((1 : Int32)).toUInt32 &&& Int32.toUInt32 31)).toInt32) σ) ∧ (¬ x0 ≤ (4 : Int32) → (∀ x1_2 : Int32, x1_2 = x1 + (2 : Int32) → (∀ x0_3 : Int32, x0_3 = ((x0).toUInt32 >>> (((2 : Int32)).toUInt32 &&& Int32.toUInt32 31)).toInt32 → post (x1_2 + ((x0_3).toUInt32 >>> (((1 : Int32)).toUInt32 &&& Int32.toUInt32 31)).toInt32) σ))))
set_option maxHeartbeats 4000000 in
set_option maxRecDepth 100000 in
theorem tJ6_numberOfTrailingZeros_0f7a4_62 {G : GT} {post : Int32 → Hp → Prop} {x0 : Int32} {x1 : Int32} {σ : Hp} (h : vJ6_numberOfTrailingZeros_0f7a4_62 post x0 x1 σ) : WP G mJ6_numberOfTrailingZeros_0f7a4 62 [(0, .int x0), (1, .int x1)] [] σ (LI post) := by
  unfold vJ6_numberOfTrailingZeros_0f7a4_62 at h
  refine wr_iload_n (pc := 62) (dget kJ6_numberOfTrailingZeros_0f7a4 40 rfl) 0 rfl ?_
  refine wr_iconst (pc := 63) (dget kJ6_numberOfTrailingZeros_0f7a4 41 rfl) ic_4 ?_
  refine wr_icmp_le (pc := 64) (tgt := 74) (dget kJ6_numberOfTrailingZeros_0f7a4 42 rfl) (by decide) (fun c_1 => ?_) (fun c_1 => ?_)
  · have h := h.1 c_1
    refine wr_iload_n (pc := 74) (dget kJ6_numberOfTrailingZeros_0f7a4 48 rfl) 1 rfl ?_
    refine wr_iload_n (pc := 75) (dget kJ6_numberOfTrailingZeros_0f7a4 49 rfl) 0 rfl ?_
    refine wr_iconst (pc := 76) (dget kJ6_numberOfTrailingZeros_0f7a4 50 rfl) ic_1 ?_
    refine wr_iushr (pc := 77) (dget kJ6_numberOfTrailingZeros_0f7a4 51 rfl) rfl ?_
    refine wr_iadd (pc := 78) (dget kJ6_numberOfTrailingZeros_0f7a4 52 rfl) ?_
    exact wr_iret (pc := 79) rfl (dget kJ6_numberOfTrailingZeros_0f7a4 53 rfl) ⟨_, rfl, h⟩
  · have h := h.2 c_1
    obtain ⟨x1_2, e_x1_2⟩ : ∃ y : Int32, y = x1 + (2 : Int32) := ⟨_, rfl⟩
    have h := h x1_2 e_x1_2
    refine wr_iinc (pc := 67) (v := x1_2) (lv' := [(1, .int x1_2), (0, .int x0)]) (dget kJ6_numberOfTrailingZeros_0f7a4 43 rfl) 1 rfl (by rw [e_x1_2, ic_2]) (by decide) rfl ?_
    refine wr_iload_n (pc := 70) (dget kJ6_numberOfTrailingZeros_0f7a4 44 rfl) 1 rfl ?_
    refine wr_iconst (pc := 71) (dget kJ6_numberOfTrailingZeros_0f7a4 45 rfl) ic_2 ?_
    refine wr_iushr (pc := 72) (dget kJ6_numberOfTrailingZeros_0f7a4 46 rfl) rfl ?_
    refine wr_topi (fun x0_3 e_x0_3 => ?_)
    have h := h x0_3 e_x0_3
    refine wr_istore_n (pc := 73) (lv' := [(0, .int x0_3), (1, .int x1_2)]) (dget kJ6_numberOfTrailingZeros_0f7a4 47 rfl) (by decide) rfl ?_
    refine wr_iload_n (pc := 74) (dget kJ6_numberOfTrailingZeros_0f7a4 48 rfl) 1 rfl ?_
    refine wr_iload_n (pc := 75) (dget kJ6_numberOfTrailingZeros_0f7a4 49 rfl) 0 rfl ?_
    refine wr_iconst (pc := 76) (dget kJ6_numberOfTrailingZeros_0f7a4 50 rfl) ic_1 ?_
    refine wr_iushr (pc := 77) (dget kJ6_numberOfTrailingZeros_0f7a4 51 rfl) rfl ?_
    refine wr_iadd (pc := 78) (dget kJ6_numberOfTrailingZeros_0f7a4 52 rfl) ?_
    exact wr_iret (pc := 79) rfl (dget kJ6_numberOfTrailingZeros_0f7a4 53 rfl) ⟨_, rfl, h⟩
def vJ6_numberOfTrailingZeros_0f7a4_34 (post : Int32 → Hp → Prop) (x0 : Int32) (x1 : Int32) (σ : Hp) : Prop := ((x0 ≤ (256 : Int32) → ((x0 ≤ (16 : Int32) → vJ6_numberOfTrailingZeros_0f7a4_62 post x0 x1 σ) ∧ (¬ x0 ≤ (16 : Int32) → (∀ x1_3 : Int32, x1_3 = x1 + (4 : Int32) → (∀ x0_4 : Int32, x0_4 = ((x0).toUInt32 >>> (((4 : Int32)).toUInt32 &&& Int32.toUInt32 31)).toInt32 → vJ6_numberOfTrailingZeros_0f7a4_62 post x0_4 x1_3 σ))))) ∧ (¬ x0 ≤ (256 : Int32) → (∀ x1_5 : Int32, x1_5 = x1 + (8 : Int32) → (∀ x0_6 : Int32, x0_6 = ((x0).toUInt32 >>> (((8 : Int32)).toUInt32 &&& Int32.toUInt32 31)).toInt32 → ((x0_6 ≤ (16 : Int32) → vJ6_numberOfTrailingZeros_0f7a4_62 post x0_6 x1_5 σ) ∧ (¬ x0_6 ≤ (16 : Int32) → (∀ x1_8 : Int32, x1_8 = x1_5 + (4 : Int32) → (∀ x0_9 : Int32, x0_9 = ((x0_6).toUInt32 >>> (((4 : Int32)).toUInt32 &&& Int32.toUInt32 31)).toInt32 → vJ6_numberOfTrailingZeros_0f7a4_62 post x0_9 x1_8 σ))))))))
set_option maxHeartbeats 4000000 in
set_option maxRecDepth 100000 in
theorem tJ6_numberOfTrailingZeros_0f7a4_34 {G : GT} {post : Int32 → Hp → Prop} {x0 : Int32} {x1 : Int32} {σ : Hp} (h : vJ6_numberOfTrailingZeros_0f7a4_34 post x0 x1 σ) : WP G mJ6_numberOfTrailingZeros_0f7a4 34 [(0, .int x0), (1, .int x1)] [] σ (LI post) := by
  unfold vJ6_numberOfTrailingZeros_0f7a4_34 at h
  refine wr_iload_n (pc := 34) (dget kJ6_numberOfTrailingZeros_0f7a4 24 rfl) 0 rfl ?_
  refine wr_sipush (pc := 35) (dget kJ6_numberOfTrailingZeros_0f7a4 25 rfl) sp_256 ?_
  refine wr_icmp_le (pc := 38) (tgt := 49) (dget kJ6_numberOfTrailingZeros_0f7a4 26 rfl) (by decide) (fun c_1 => ?_) (fun c_1 => ?_)
  · have h := h.1 c_1
    refine wr_iload_n (pc := 49) (dget kJ6_numberOfTrailingZeros_0f7a4 32 rfl) 0 rfl ?_
    refine wr_bipush (pc := 50) (dget kJ6_numberOfTrailingZeros_0f7a4 33 rfl) bp_16 ?_
    refine wr_icmp_le (pc := 52) (tgt := 62) (dget kJ6_numberOfTrailingZeros_0f7a4 34 rfl) (by decide) (fun c_2 => ?_) (fun c_2 => ?_)
    · have h := h.1 c_2
      exact tJ6_numberOfTrailingZeros_0f7a4_62 h
    · have h := h.2 c_2
      obtain ⟨x1_3, e_x1_3⟩ : ∃ y : Int32, y = x1 + (4 : Int32) := ⟨_, rfl⟩
      have h := h x1_3 e_x1_3
      refine wr_iinc (pc := 55) (v := x1_3) (lv' := [(1, .int x1_3), (0, .int x0)]) (dget kJ6_numberOfTrailingZeros_0f7a4 35 rfl) 1 rfl (by rw [e_x1_3, ic_4]) (by decide) rfl ?_
      refine wr_iload_n (pc := 58) (dget kJ6_numberOfTrailingZeros_0f7a4 36 rfl) 1 rfl ?_
      refine wr_iconst (pc := 59) (dget kJ6_numberOfTrailingZeros_0f7a4 37 rfl) ic_4 ?_
      refine wr_iushr (pc := 60) (dget kJ6_numberOfTrailingZeros_0f7a4 38 rfl) rfl ?_
      refine wr_topi (fun x0_4 e_x0_4 => ?_)
      have h := h x0_4 e_x0_4
      refine wr_istore_n (pc := 61) (lv' := [(0, .int x0_4), (1, .int x1_3)]) (dget kJ6_numberOfTrailingZeros_0f7a4 39 rfl) (by decide) rfl ?_
      exact tJ6_numberOfTrailingZeros_0f7a4_62 h
  · have h := h.2 c_1
    obtain ⟨x1_5, e_x1_5⟩ : ∃ y : Int32, y = x1 + (8 : Int32) := ⟨_, rfl⟩
    have h := h x1_5 e_x1_5
    refine wr_iinc (pc := 41) (v := x1_5) (lv' := [(1, .int x1_5), (0, .int x0)]) (dget kJ6_numberOfTrailingZeros_0f7a4 27 rfl) 1 rfl (by rw [e_x1_5, ic_8]) (by decide) rfl ?_
    refine wr_iload_n (pc := 44) (dget kJ6_numberOfTrailingZeros_0f7a4 28 rfl) 1 rfl ?_
    refine wr_bipush (pc := 45) (dget kJ6_numberOfTrailingZeros_0f7a4 29 rfl) bp_8 ?_
    refine wr_iushr (pc := 47) (dget kJ6_numberOfTrailingZeros_0f7a4 30 rfl) rfl ?_
    refine wr_topi (fun x0_6 e_x0_6 => ?_)
    have h := h x0_6 e_x0_6
    refine wr_istore_n (pc := 48) (lv' := [(0, .int x0_6), (1, .int x1_5)]) (dget kJ6_numberOfTrailingZeros_0f7a4 31 rfl) (by decide) rfl ?_
    refine wr_iload_n (pc := 49) (dget kJ6_numberOfTrailingZeros_0f7a4 32 rfl) 0 rfl ?_
    refine wr_bipush (pc := 50) (dget kJ6_numberOfTrailingZeros_0f7a4 33 rfl) bp_16 ?_
    refine wr_icmp_le (pc := 52) (tgt := 62) (dget kJ6_numberOfTrailingZeros_0f7a4 34 rfl) (by decide) (fun c_7 => ?_) (fun c_7 => ?_)
    · have h := h.1 c_7
      exact tJ6_numberOfTrailingZeros_0f7a4_62 h
    · have h := h.2 c_7
      obtain ⟨x1_8, e_x1_8⟩ : ∃ y : Int32, y = x1_5 + (4 : Int32) := ⟨_, rfl⟩
      have h := h x1_8 e_x1_8
      refine wr_iinc (pc := 55) (v := x1_8) (lv' := [(1, .int x1_8), (0, .int x0_6)]) (dget kJ6_numberOfTrailingZeros_0f7a4 35 rfl) 1 rfl (by rw [e_x1_8, ic_4]) (by decide) rfl ?_
      refine wr_iload_n (pc := 58) (dget kJ6_numberOfTrailingZeros_0f7a4 36 rfl) 1 rfl ?_
      refine wr_iconst (pc := 59) (dget kJ6_numberOfTrailingZeros_0f7a4 37 rfl) ic_4 ?_
      refine wr_iushr (pc := 60) (dget kJ6_numberOfTrailingZeros_0f7a4 38 rfl) rfl ?_
      refine wr_topi (fun x0_9 e_x0_9 => ?_)
      have h := h x0_9 e_x0_9
      refine wr_istore_n (pc := 61) (lv' := [(0, .int x0_9), (1, .int x1_8)]) (dget kJ6_numberOfTrailingZeros_0f7a4 39 rfl) (by decide) rfl ?_
      exact tJ6_numberOfTrailingZeros_0f7a4_62 h
def vJ6_numberOfTrailingZeros_0f7a4 (p1 : Int32) (σ : Hp) (post : Int32 → Hp → Prop) : Prop := (∀ x0_1 : Int32, x0_1 = ((p1 ^^^ (-1 : Int32)) &&& (p1 - (1 : Int32))) → ((0 < x0_1 → ((x0_1 ≤ (65536 : Int32) → vJ6_numberOfTrailingZeros_0f7a4_34 post x0_1 (1 : Int32) σ) ∧ (¬ x0_1 ≤ (65536 : Int32) → (∀ x1_4 : Int32, x1_4 = (1 : Int32) + (16 : Int32) → (∀ x0_5 : Int32, x0_5 = ((x0_1).toUInt32 >>> (((16 : Int32)).toUInt32 &&& Int32.toUInt32 31)).toInt32 → vJ6_numberOfTrailingZeros_0f7a4_34 post x0_5 x1_4 σ))))) ∧ (¬ 0 < x0_1 → post (x0_1 &&& (32 : Int32)) σ)))
set_option maxHeartbeats 4000000 in
set_option maxRecDepth 100000 in
theorem tJ6_numberOfTrailingZeros_0f7a4 {G : GT} {p1 : Int32} {σ : Hp} {post : Int32 → Hp → Prop} (h : vJ6_numberOfTrailingZeros_0f7a4 p1 σ post) : CT G mJ6_numberOfTrailingZeros_0f7a4 [.int p1] σ (LI post) := by
  refine CT.of (by decide +kernel) (Nat.le_of_ble_eq_true rfl) ?_
  show WP G mJ6_numberOfTrailingZeros_0f7a4 0 [(0, .int p1)] [] σ (LI post)
  unfold vJ6_numberOfTrailingZeros_0f7a4 at h
  refine wr_iload_n (pc := 0) (dget kJ6_numberOfTrailingZeros_0f7a4 0 rfl) 0 rfl ?_
  refine wr_iconst (pc := 1) (dget kJ6_numberOfTrailingZeros_0f7a4 1 rfl) ic_m1 ?_
  refine wr_ixor (pc := 2) (dget kJ6_numberOfTrailingZeros_0f7a4 2 rfl) ?_
  refine wr_iload_n (pc := 3) (dget kJ6_numberOfTrailingZeros_0f7a4 3 rfl) 0 rfl ?_
  refine wr_iconst (pc := 4) (dget kJ6_numberOfTrailingZeros_0f7a4 4 rfl) ic_1 ?_
  refine wr_isub (pc := 5) (dget kJ6_numberOfTrailingZeros_0f7a4 5 rfl) ?_
  refine wr_iand (pc := 6) (dget kJ6_numberOfTrailingZeros_0f7a4 6 rfl) ?_
  refine wr_topi (fun x0_1 e_x0_1 => ?_)
  have h := h x0_1 e_x0_1
  refine wr_istore_n (pc := 7) (lv' := [(0, .int x0_1)]) (dget kJ6_numberOfTrailingZeros_0f7a4 7 rfl) (by decide) rfl ?_
  refine wr_iload_n (pc := 8) (dget kJ6_numberOfTrailingZeros_0f7a4 8 rfl) 0 rfl ?_
  refine wr_if_gt (pc := 9) (tgt := 17) (dget kJ6_numberOfTrailingZeros_0f7a4 9 rfl) (by decide) (fun c_2 => ?_) (fun c_2 => ?_)
  · have h := h.1 c_2
    refine wr_iconst (pc := 17) (dget kJ6_numberOfTrailingZeros_0f7a4 14 rfl) ic_1 ?_
    refine wr_istore_n (pc := 18) (lv' := [(1, .int (1 : Int32)), (0, .int x0_1)]) (dget kJ6_numberOfTrailingZeros_0f7a4 15 rfl) (by decide) rfl ?_
    refine wr_iload_n (pc := 19) (dget kJ6_numberOfTrailingZeros_0f7a4 16 rfl) 1 rfl ?_
    refine wr_ldcw (pc := 20) ki_J6_264 (dget kJ6_numberOfTrailingZeros_0f7a4 17 rfl) ?_
    refine wr_icmp_le (pc := 23) (tgt := 34) (dget kJ6_numberOfTrailingZeros_0f7a4 18 rfl) (by decide) (fun c_3 => ?_) (fun c_3 => ?_)
    · have h := h.1 c_3
      refine wr_sub [1, 0] rfl ?_
      exact tJ6_numberOfTrailingZeros_0f7a4_34 h
    · have h := h.2 c_3
      obtain ⟨x1_4, e_x1_4⟩ : ∃ y : Int32, y = (1 : Int32) + (16 : Int32) := ⟨_, rfl⟩
      have h := h x1_4 e_x1_4
      refine wr_iinc (pc := 26) (v := x1_4) (lv' := [(1, .int x1_4), (0, .int x0_1)]) (dget kJ6_numberOfTrailingZeros_0f7a4 19 rfl) 0 rfl (by rw [e_x1_4, ic_16]) (by decide) rfl ?_
      refine wr_iload_n (pc := 29) (dget kJ6_numberOfTrailingZeros_0f7a4 20 rfl) 1 rfl ?_
      refine wr_bipush (pc := 30) (dget kJ6_numberOfTrailingZeros_0f7a4 21 rfl) bp_16 ?_
      refine wr_iushr (pc := 32) (dget kJ6_numberOfTrailingZeros_0f7a4 22 rfl) rfl ?_
      refine wr_topi (fun x0_5 e_x0_5 => ?_)
      have h := h x0_5 e_x0_5
      refine wr_istore_n (pc := 33) (lv' := [(0, .int x0_5), (1, .int x1_4)]) (dget kJ6_numberOfTrailingZeros_0f7a4 23 rfl) (by decide) rfl ?_
      exact tJ6_numberOfTrailingZeros_0f7a4_34 h
  · have h := h.2 c_2
    refine wr_iload_n (pc := 12) (dget kJ6_numberOfTrailingZeros_0f7a4 10 rfl) 0 rfl ?_
    refine wr_bipush (pc := 13) (dget kJ6_numberOfTrailingZeros_0f7a4 11 rfl) bp_32 ?_
    refine wr_iand (pc := 15) (dget kJ6_numberOfTrailingZeros_0f7a4 12 rfl) ?_
    exact wr_iret (pc := 16) rfl (dget kJ6_numberOfTrailingZeros_0f7a4 13 rfl) ⟨_, rfl, h⟩
def vJ9_max_f86c9 (p1 : Int64) (p2 : Int64) (σ : Hp) (post : Int64 → Hp → Prop) : Prop := (((lg_cmp p1 p2) < 0 → post p2 σ) ∧ (¬ (lg_cmp p1 p2) < 0 → post p1 σ))
set_option maxHeartbeats 4000000 in
set_option maxRecDepth 100000 in
theorem tJ9_max_f86c9 {G : GT} {p1 : Int64} {p2 : Int64} {σ : Hp} {post : Int64 → Hp → Prop} (h : vJ9_max_f86c9 p1 p2 σ post) : CT G mJ9_max_f86c9 [.long p1, .long p2] σ (LL post) := by
  refine CT.ofF (by decide +kernel) (Nat.le_of_ble_eq_true rfl) ?_
  show WP G mJ9_max_f86c9 0 [(0, .long p1), (2, .long p2)] [] σ (LL post)
  unfold vJ9_max_f86c9 at h
  refine wr_lload_n (pc := 0) (dget kJ9_max_f86c9 0 rfl) 0 rfl ?_
  refine wr_lload_n (pc := 1) (dget kJ9_max_f86c9 1 rfl) 1 rfl ?_
  refine wr_lcmp (pc := 2) (dget kJ9_max_f86c9 2 rfl) ?_
  refine wr_if_lt (pc := 3) (tgt := 10) (dget kJ9_max_f86c9 3 rfl) (by decide) (fun c_1 => ?_) (fun c_1 => ?_)
  · have h := h.1 c_1
    refine wr_lload_n (pc := 10) (dget kJ9_max_f86c9 6 rfl) 1 rfl ?_
    exact wr_lret (pc := 11) rfl (dget kJ9_max_f86c9 7 rfl) ⟨_, rfl, h⟩
  · have h := h.2 c_1
    refine wr_lload_n (pc := 6) (dget kJ9_max_f86c9 4 rfl) 0 rfl ?_
    refine wr_goto (pc := 7) (tgt := 11) (dget kJ9_max_f86c9 5 rfl) (by decide) ?_
    exact wr_lret (pc := 11) rfl (dget kJ9_max_f86c9 7 rfl) ⟨_, rfl, h⟩
