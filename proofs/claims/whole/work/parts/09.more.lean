def LI (post : Int32 → Hp → Prop) : Option Value → Hp → Prop := fun v τ => ∃ r : Int32, v = some (.int r) ∧ post r τ
def LL (post : Int64 → Hp → Prop) : Option Value → Hp → Prop := fun v τ => ∃ r : Int64, v = some (.long r) ∧ post r τ
def LV (post : Hp → Prop) : Option Value → Hp → Prop := fun v τ => v = none ∧ post τ
def LR (G : GT) (post : Nat → Hp → Prop) : Option Value → Hp → Prop := fun v τ => ∃ r : Nat, v = some (.ref (G.1 r)) ∧ post r τ
theorem nar_z {x : Int32} (h : x = 0 ∨ x = 1) : narrow .boolean (.int x) = .int x := by
  rcases h with rfl | rfl <;> decide
theorem sw_ne {x k : Int32} {a : Int} (h : ¬ x = k) (hk : k.toInt = a) : ¬ x.toInt = a := fun q => h (Int32.toInt_inj.mp (by rw [hk]; exact q))
section WMORE
variable {G : GT} {M : MT} {pc : Nat} {lv : List (Nat × Value)} {rest : List Value} {σ : Hp} {Q : Option Value → Hp → Prop}
theorem wr_tops (k : ∀ σ', σ' = σ → WP G M pc lv rest σ' Q) : WP G M pc lv rest σ Q := k σ rfl
theorem wr_topi {x : Int32} (k : ∀ y : Int32, y = x → WP G M pc lv (.int y :: rest) σ Q) : WP G M pc lv (.int x :: rest) σ Q := k x rfl
theorem wr_topl {x : Int64} (k : ∀ y : Int64, y = x → WP G M pc lv (.long y :: rest) σ Q) : WP G M pc lv (.long x :: rest) σ Q := k x rfl
theorem wr_getRl {idx ci j o r : Nat} {fin : Bool} {tj : FieldType} (hf : FL M.1.cls idx ci j fin tj) (hk : kd o = ci) (hs : fk ci j = 2) (hr : rt o j = r) (hdg : decode M.2.1 pc = .ok (.getfield idx, 3)) (k : WP G M (pc + 3) lv (.ref (G.1 r) :: rest) σ Q) : WP G M pc lv (.ref (G.1 o) :: rest) σ Q := wr_getR hf hk hs hdg (by rw [hr]; exact k)
theorem wr_ialdl {a n : Nat} {i : Int32} (hn : iln a = n) (hin : vp_in i n) (hdg : decode M.2.1 pc = .ok (.iaload, 1)) (k : WP G M (pc + 1) lv (.int (σ.1 a i.toNatClampNeg) :: rest) σ Q) : WP G M pc lv (.int i :: .ref (G.1 a) :: rest) σ Q := wr_iald (by rw [hn]; exact hin) hdg k
theorem wr_laldl {a n : Nat} {i : Int32} (hn : lln a = n) (hin : vp_in i n) (hdg : decode M.2.1 pc = .ok (.laload, 1)) (k : WP G M (pc + 1) lv (.long (σ.2.1 a i.toNatClampNeg) :: rest) σ Q) : WP G M pc lv (.int i :: .ref (G.1 a) :: rest) σ Q := wr_lald (by rw [hn]; exact hin) hdg k
theorem wr_aaldl {a n : Nat} {i : Int32} (hn : rln a = n) (hin : vp_in i n) (hdg : decode M.2.1 pc = .ok (.aaload, 1)) (k : WP G M (pc + 1) lv (.ref (G.1 (rt a i.toNatClampNeg)) :: rest) σ Q) : WP G M pc lv (.int i :: .ref (G.1 a) :: rest) σ Q := wr_aald (by rw [hn]; exact hin) hdg k
theorem wr_iastl {a n : Nat} {i x : Int32} (hn : iln a = n) (hin : vp_in i n) (hdg : decode M.2.1 pc = .ok (.iastore, 1)) (k : WP G M (pc + 1) lv rest (wI σ a i.toNatClampNeg x) Q) : WP G M pc lv (.int x :: .int i :: .ref (G.1 a) :: rest) σ Q := wr_iast (by rw [hn]; exact hin) hdg k
theorem wr_lastl {a n : Nat} {i : Int32} {x : Int64} (hn : lln a = n) (hin : vp_in i n) (hdg : decode M.2.1 pc = .ok (.lastore, 1)) (k : WP G M (pc + 1) lv rest (wL σ a i.toNatClampNeg x) Q) : WP G M pc lv (.long x :: .int i :: .ref (G.1 a) :: rest) σ Q := wr_last (by rw [hn]; exact hin) hdg k
theorem wr_callVi {Mc : MT} {idx o ci n : Nat} {As st : List Value} {post : Int32 → Hp → Prop} (hF : CF M.1.cls idx Mc n) (hV : CV Mc) (hk : kd o = ci) (hc : (vwCl[ci]?).map (fun r => r.1) = some Mc.1.cls) (hR : Mc.2.2.2.2.1 + 1 ≤ M.2.2.2.2.1 ∧ 8 + (Mc.2.2.1 + 11) + Mc.2.2.2.2.2 ≤ M.2.2.2.2.2) (hn : As.length = n) (hst : As.reverse ++ .ref (G.1 o) :: rest = st) (hw : (rest.map fun v => v.category).sum ≤ 8) (hdg : decode M.2.1 pc = .ok (.invokevirtual idx, 3)) (hM : CT G Mc (.ref (G.1 o) :: As) σ (LI post)) (K : ∀ (r : Int32) τ, post r τ → WP G M (pc + 3) lv (.int r :: rest) τ Q) : WP G M pc lv st σ Q := wr_callV hF hV hk hc hR hn hst hw hdg hM (fun v τ hq => by obtain ⟨r, rfl, hq⟩ := hq; exact K r τ hq)
theorem wr_callSi {Mc : MT} {idx n : Nat} {As st : List Value} {post : Int32 → Hp → Prop} (hF : CF M.1.cls idx Mc n) (hV : CS Mc) (hR : Mc.2.2.2.2.1 + 1 ≤ M.2.2.2.2.1 ∧ 8 + (Mc.2.2.1 + 11) + Mc.2.2.2.2.2 ≤ M.2.2.2.2.2) (hn : As.length = n) (hst : As.reverse ++ rest = st) (hw : (rest.map fun v => v.category).sum ≤ 8) (hdg : decode M.2.1 pc = .ok (.invokestatic idx, 3)) (hM : CT G Mc As σ (LI post)) (K : ∀ (r : Int32) τ, post r τ → WP G M (pc + 3) lv (.int r :: rest) τ Q) : WP G M pc lv st σ Q := wr_callS hF hV hR hn hst hw hdg hM (fun v τ hq => by obtain ⟨r, rfl, hq⟩ := hq; exact K r τ hq)
theorem wr_callVl {Mc : MT} {idx o ci n : Nat} {As st : List Value} {post : Int64 → Hp → Prop} (hF : CF M.1.cls idx Mc n) (hV : CV Mc) (hk : kd o = ci) (hc : (vwCl[ci]?).map (fun r => r.1) = some Mc.1.cls) (hR : Mc.2.2.2.2.1 + 1 ≤ M.2.2.2.2.1 ∧ 8 + (Mc.2.2.1 + 11) + Mc.2.2.2.2.2 ≤ M.2.2.2.2.2) (hn : As.length = n) (hst : As.reverse ++ .ref (G.1 o) :: rest = st) (hw : (rest.map fun v => v.category).sum ≤ 8) (hdg : decode M.2.1 pc = .ok (.invokevirtual idx, 3)) (hM : CT G Mc (.ref (G.1 o) :: As) σ (LL post)) (K : ∀ (r : Int64) τ, post r τ → WP G M (pc + 3) lv (.long r :: rest) τ Q) : WP G M pc lv st σ Q := wr_callV hF hV hk hc hR hn hst hw hdg hM (fun v τ hq => by obtain ⟨r, rfl, hq⟩ := hq; exact K r τ hq)
theorem wr_callSl {Mc : MT} {idx n : Nat} {As st : List Value} {post : Int64 → Hp → Prop} (hF : CF M.1.cls idx Mc n) (hV : CS Mc) (hR : Mc.2.2.2.2.1 + 1 ≤ M.2.2.2.2.1 ∧ 8 + (Mc.2.2.1 + 11) + Mc.2.2.2.2.2 ≤ M.2.2.2.2.2) (hn : As.length = n) (hst : As.reverse ++ rest = st) (hw : (rest.map fun v => v.category).sum ≤ 8) (hdg : decode M.2.1 pc = .ok (.invokestatic idx, 3)) (hM : CT G Mc As σ (LL post)) (K : ∀ (r : Int64) τ, post r τ → WP G M (pc + 3) lv (.long r :: rest) τ Q) : WP G M pc lv st σ Q := wr_callS hF hV hR hn hst hw hdg hM (fun v τ hq => by obtain ⟨r, rfl, hq⟩ := hq; exact K r τ hq)
theorem wr_callVv {Mc : MT} {idx o ci n : Nat} {As st : List Value} {post : Hp → Prop} (hF : CF M.1.cls idx Mc n) (hV : CV Mc) (hk : kd o = ci) (hc : (vwCl[ci]?).map (fun r => r.1) = some Mc.1.cls) (hR : Mc.2.2.2.2.1 + 1 ≤ M.2.2.2.2.1 ∧ 8 + (Mc.2.2.1 + 11) + Mc.2.2.2.2.2 ≤ M.2.2.2.2.2) (hn : As.length = n) (hst : As.reverse ++ .ref (G.1 o) :: rest = st) (hw : (rest.map fun v => v.category).sum ≤ 8) (hdg : decode M.2.1 pc = .ok (.invokevirtual idx, 3)) (hM : CT G Mc (.ref (G.1 o) :: As) σ (LV post)) (K : ∀ τ, post τ → WP G M (pc + 3) lv (rest) τ Q) : WP G M pc lv st σ Q := wr_callV hF hV hk hc hR hn hst hw hdg hM (fun v τ hq => by obtain ⟨rfl, hq⟩ := hq; exact K τ hq)
theorem wr_callSv {Mc : MT} {idx n : Nat} {As st : List Value} {post : Hp → Prop} (hF : CF M.1.cls idx Mc n) (hV : CS Mc) (hR : Mc.2.2.2.2.1 + 1 ≤ M.2.2.2.2.1 ∧ 8 + (Mc.2.2.1 + 11) + Mc.2.2.2.2.2 ≤ M.2.2.2.2.2) (hn : As.length = n) (hst : As.reverse ++ rest = st) (hw : (rest.map fun v => v.category).sum ≤ 8) (hdg : decode M.2.1 pc = .ok (.invokestatic idx, 3)) (hM : CT G Mc As σ (LV post)) (K : ∀ τ, post τ → WP G M (pc + 3) lv (rest) τ Q) : WP G M pc lv st σ Q := wr_callS hF hV hR hn hst hw hdg hM (fun v τ hq => by obtain ⟨rfl, hq⟩ := hq; exact K τ hq)
theorem wr_callVr {Mc : MT} {idx o ci n : Nat} {As st : List Value} {post : Nat → Hp → Prop} (hF : CF M.1.cls idx Mc n) (hV : CV Mc) (hk : kd o = ci) (hc : (vwCl[ci]?).map (fun r => r.1) = some Mc.1.cls) (hR : Mc.2.2.2.2.1 + 1 ≤ M.2.2.2.2.1 ∧ 8 + (Mc.2.2.1 + 11) + Mc.2.2.2.2.2 ≤ M.2.2.2.2.2) (hn : As.length = n) (hst : As.reverse ++ .ref (G.1 o) :: rest = st) (hw : (rest.map fun v => v.category).sum ≤ 8) (hdg : decode M.2.1 pc = .ok (.invokevirtual idx, 3)) (hM : CT G Mc (.ref (G.1 o) :: As) σ (LR G post)) (K : ∀ (r : Nat) τ, post r τ → WP G M (pc + 3) lv (.ref (G.1 r) :: rest) τ Q) : WP G M pc lv st σ Q := wr_callV hF hV hk hc hR hn hst hw hdg hM (fun v τ hq => by obtain ⟨r, rfl, hq⟩ := hq; exact K r τ hq)
theorem wr_callSr {Mc : MT} {idx n : Nat} {As st : List Value} {post : Nat → Hp → Prop} (hF : CF M.1.cls idx Mc n) (hV : CS Mc) (hR : Mc.2.2.2.2.1 + 1 ≤ M.2.2.2.2.1 ∧ 8 + (Mc.2.2.1 + 11) + Mc.2.2.2.2.2 ≤ M.2.2.2.2.2) (hn : As.length = n) (hst : As.reverse ++ rest = st) (hw : (rest.map fun v => v.category).sum ≤ 8) (hdg : decode M.2.1 pc = .ok (.invokestatic idx, 3)) (hM : CT G Mc As σ (LR G post)) (K : ∀ (r : Nat) τ, post r τ → WP G M (pc + 3) lv (.ref (G.1 r) :: rest) τ Q) : WP G M pc lv st σ Q := wr_callS hF hV hR hn hst hw hdg hM (fun v τ hq => by obtain ⟨r, rfl, hq⟩ := hq; exact K r τ hq)
/-- a call of a method of a String constant -/
theorem wr_callStr {Mc : MT} {idx i n : Nat} {As st : List Value} {Q' : Option Value → Hp → Prop} (hi : i < 8) (hF : CF M.1.cls idx Mc n) (hV : CV Mc) (hc : Mc.1.cls = "java/lang/String") (hR : Mc.2.2.2.2.1 + 1 ≤ M.2.2.2.2.1 ∧ 8 + (Mc.2.2.1 + 11) + Mc.2.2.2.2.2 ≤ M.2.2.2.2.2) (hn : As.length = n) (hst : As.reverse ++ .ref (G.1 (210 + i)) :: rest = st) (hw : (rest.map fun v => v.category).sum ≤ 8) (hdg : decode M.2.1 pc = .ok (.invokevirtual idx, 3)) (hM : CT G Mc (.ref (G.1 (210 + i)) :: As) σ Q') (K : ∀ v τ, Q' v τ → WP G M (pc + 3) lv (v.toList ++ rest) τ Q) : WP G M pc lv st σ Q := by
  subst hst
  intro p l e s m a b me c H L ls C hP hS hl
  obtain ⟨f1, f2, f3, f4⟩ := hF
  have hts : ∀ w ∈ tb, w.before a s = true := fun w hw => C.2.2.2.2.2.2.2.1.use hw
  have hrecv := vk_recv C.2.2.2.2.2.2.2.2.2.2.2.2.2 hi hS
  rw [← hc] at hrecv
  have hp := wp_pre C hP hS (.ref (G.1 (210 + i)) :: As)
  rcases f4 with f4 | ⟨host, f4⟩
  · exact wp_after (va_runV (g := F0 m pc ls (As.reverse ++ .ref (G.1 (210 + i)) :: rest)) (Ts := tb) (C := Mc.1.cls) ⟨C.1, C.2.1, C.2.2.2.1, C.2.2.2.2.1, hts⟩ (hM l) ⟨callB_of n hts (goodCode f1) rfl rfl rfl (hts _ f2) (hts _ f4) f3 hR, hts _ hV.1, hts _ hV.2⟩ ⟨hp.1, hrecv, hp.2⟩ rfl hn hl.1 rfl (lv_room (m := m) (pc := pc) (ls := ls) hw) hdg ⟨Nat.zero_le _, Nat.zero_le _⟩) C hS hl K
  · exact wp_after (va_runVN (g := F0 m pc ls (As.reverse ++ .ref (G.1 (210 + i)) :: rest)) (Ts := tb) (C := Mc.1.cls) (host := host) ⟨C.1, C.2.1, C.2.2.2.1, C.2.2.2.2.1, hts⟩ (hM l) ⟨va_cnB n hts (goodCode f1) rfl rfl rfl (C.2.2.2.2.2.2.2.1 _ f4) (hts _ f2) f3 hR, hts _ hV.1, hts _ hV.2⟩ ⟨hp.1, hrecv, hp.2⟩ rfl hn hl.1 rfl (lv_room (m := m) (pc := pc) (ls := ls) hw) hdg ⟨Nat.zero_le _, Nat.zero_le _⟩) C hS hl K
end WMORE

theorem kd_0 : kd 0 = 8 := by decide
theorem rt_0_0 : rt 0 0 = 1 := by decide
theorem rt_0_1 : rt 0 1 = 2 := by decide
theorem rt_0_2 : rt 0 2 = 10 := by decide
theorem rt_0_3 : rt 0 3 = 15 := by decide
theorem rt_0_4 : rt 0 4 = 19 := by decide
theorem rt_0_5 : rt 0 5 = 23 := by decide
theorem rt_0_6 : rt 0 6 = 35 := by decide
theorem rt_0_7 : rt 0 7 = 47 := by decide
theorem rt_0_8 : rt 0 8 = 51 := by decide
theorem rt_0_11 : rt 0 11 = 52 := by decide
theorem rt_0_12 : rt 0 12 = 53 := by decide
theorem kd_1 : kd 1 = 13 := by decide
theorem rl_1 : rln 1 = 3 := by decide
theorem rt_1_0 : rt 1 0 = 54 := by decide
theorem rt_1_1 : rt 1 1 = 57 := by decide
theorem rt_1_2 : rt 1 2 = 60 := by decide
theorem kd_2 : kd 2 = 6 := by decide
theorem rt_2_0 : rt 2 0 = 3 := by decide
theorem rt_2_1 : rt 2 1 = 4 := by decide
theorem rt_2_2 : rt 2 2 = 5 := by decide
theorem rt_2_3 : rt 2 3 = 6 := by decide
theorem rt_2_4 : rt 2 4 = 7 := by decide
theorem rt_2_6 : rt 2 6 = 8 := by decide
theorem rt_2_7 : rt 2 7 = 9 := by decide
theorem kd_3 : kd 3 = 10 := by decide
theorem il_3 : iln 3 = 3 := by decide
theorem kd_4 : kd 4 = 10 := by decide
theorem il_4 : iln 4 = 12 := by decide
theorem kd_5 : kd 5 = 10 := by decide
theorem il_5 : iln 5 = 12 := by decide
theorem kd_6 : kd 6 = 10 := by decide
theorem il_6 : iln 6 = 12 := by decide
theorem kd_7 : kd 7 = 10 := by decide
theorem il_7 : iln 7 = 12 := by decide
theorem kd_8 : kd 8 = 10 := by decide
theorem il_8 : iln 8 = 36 := by decide
theorem kd_9 : kd 9 = 10 := by decide
theorem il_9 : iln 9 = 36 := by decide
theorem kd_10 : kd 10 = 1 := by decide
theorem rt_10_0 : rt 10 0 = 11 := by decide
theorem rt_10_1 : rt 10 1 = 12 := by decide
theorem rt_10_2 : rt 10 2 = 13 := by decide
theorem rt_10_3 : rt 10 3 = 14 := by decide
theorem kd_11 : kd 11 = 10 := by decide
theorem il_11 : iln 11 = 8 := by decide
theorem kd_12 : kd 12 = 10 := by decide
theorem il_12 : iln 12 = 8 := by decide
theorem kd_13 : kd 13 = 10 := by decide
theorem il_13 : iln 13 = 8 := by decide
theorem kd_14 : kd 14 = 10 := by decide
theorem il_14 : iln 14 = 24 := by decide
theorem kd_15 : kd 15 = 0 := by decide
theorem rt_15_2 : rt 15 2 = 16 := by decide
theorem rt_15_3 : rt 15 3 = 17 := by decide
theorem rt_15_4 : rt 15 4 = 18 := by decide
theorem rt_15_0 : rt 15 0 = 2 := by decide
theorem rt_15_1 : rt 15 1 = 10 := by decide
theorem kd_16 : kd 16 = 10 := by decide
theorem il_16 : iln 16 = 72 := by decide
theorem kd_17 : kd 17 = 10 := by decide
theorem il_17 : iln 17 = 24 := by decide
theorem kd_18 : kd 18 = 10 := by decide
theorem il_18 : iln 18 = 24 := by decide
theorem kd_19 : kd 19 = 0 := by decide
theorem rt_19_2 : rt 19 2 = 20 := by decide
theorem rt_19_3 : rt 19 3 = 21 := by decide
theorem rt_19_4 : rt 19 4 = 22 := by decide
theorem rt_19_0 : rt 19 0 = 2 := by decide
theorem rt_19_1 : rt 19 1 = 10 := by decide
theorem kd_20 : kd 20 = 10 := by decide
theorem il_20 : iln 20 = 72 := by decide
theorem kd_21 : kd 21 = 10 := by decide
theorem il_21 : iln 21 = 24 := by decide
theorem kd_22 : kd 22 = 10 := by decide
theorem il_22 : iln 22 = 24 := by decide
theorem kd_23 : kd 23 = 2 := by decide
theorem rt_23_1 : rt 23 1 = 24 := by decide
theorem rt_23_2 : rt 23 2 = 28 := by decide
theorem rt_23_6 : rt 23 6 = 29 := by decide
theorem rt_23_7 : rt 23 7 = 30 := by decide
theorem rt_23_8 : rt 23 8 = 31 := by decide
theorem rt_23_9 : rt 23 9 = 32 := by decide
theorem rt_23_10 : rt 23 10 = 33 := by decide
theorem rt_23_13 : rt 23 13 = 34 := by decide
theorem rt_23_0 : rt 23 0 = 2 := by decide
theorem kd_24 : kd 24 = 5 := by decide
theorem rt_24_0 : rt 24 0 = 25 := by decide
theorem rt_24_1 : rt 24 1 = 26 := by decide
theorem rt_24_2 : rt 24 2 = 27 := by decide
theorem kd_25 : kd 25 = 10 := by decide
theorem il_25 : iln 25 = 12 := by decide
theorem kd_26 : kd 26 = 10 := by decide
theorem il_26 : iln 26 = 12 := by decide
theorem kd_27 : kd 27 = 10 := by decide
theorem il_27 : iln 27 = 12 := by decide
theorem kd_28 : kd 28 = 10 := by decide
theorem il_28 : iln 28 = 12 := by decide
theorem kd_29 : kd 29 = 10 := by decide
theorem il_29 : iln 29 = 24 := by decide
theorem kd_30 : kd 30 = 10 := by decide
theorem il_30 : iln 30 = 24 := by decide
theorem kd_31 : kd 31 = 11 := by decide
theorem ll_31 : lln 31 = 24 := by decide
theorem kd_32 : kd 32 = 10 := by decide
theorem il_32 : iln 32 = 12 := by decide
theorem kd_33 : kd 33 = 10 := by decide
theorem il_33 : iln 33 = 12 := by decide
theorem kd_34 : kd 34 = 10 := by decide
theorem il_34 : iln 34 = 24 := by decide
theorem kd_35 : kd 35 = 2 := by decide
theorem rt_35_1 : rt 35 1 = 36 := by decide
theorem rt_35_2 : rt 35 2 = 40 := by decide
theorem rt_35_6 : rt 35 6 = 41 := by decide
theorem rt_35_7 : rt 35 7 = 42 := by decide
theorem rt_35_8 : rt 35 8 = 43 := by decide
theorem rt_35_9 : rt 35 9 = 44 := by decide
theorem rt_35_10 : rt 35 10 = 45 := by decide
theorem rt_35_13 : rt 35 13 = 46 := by decide
theorem rt_35_0 : rt 35 0 = 2 := by decide
theorem kd_36 : kd 36 = 5 := by decide
theorem rt_36_0 : rt 36 0 = 37 := by decide
theorem rt_36_1 : rt 36 1 = 38 := by decide
theorem rt_36_2 : rt 36 2 = 39 := by decide
theorem kd_37 : kd 37 = 10 := by decide
theorem il_37 : iln 37 = 12 := by decide
theorem kd_38 : kd 38 = 10 := by decide
theorem il_38 : iln 38 = 12 := by decide
theorem kd_39 : kd 39 = 10 := by decide
theorem il_39 : iln 39 = 12 := by decide
theorem kd_40 : kd 40 = 10 := by decide
theorem il_40 : iln 40 = 12 := by decide
theorem kd_41 : kd 41 = 10 := by decide
theorem il_41 : iln 41 = 24 := by decide
theorem kd_42 : kd 42 = 10 := by decide
theorem il_42 : iln 42 = 24 := by decide
theorem kd_43 : kd 43 = 11 := by decide
theorem ll_43 : lln 43 = 24 := by decide
theorem kd_44 : kd 44 = 10 := by decide
theorem il_44 : iln 44 = 12 := by decide
theorem kd_45 : kd 45 = 10 := by decide
theorem il_45 : iln 45 = 12 := by decide
theorem kd_46 : kd 46 = 10 := by decide
theorem il_46 : iln 46 = 24 := by decide
theorem kd_47 : kd 47 = 3 := by decide
theorem rt_47_0 : rt 47 0 = 48 := by decide
theorem rt_47_1 : rt 47 1 = 49 := by decide
theorem rt_47_2 : rt 47 2 = 50 := by decide
theorem kd_48 : kd 48 = 10 := by decide
theorem il_48 : iln 48 = 8 := by decide
theorem kd_49 : kd 49 = 10 := by decide
theorem il_49 : iln 49 = 8 := by decide
theorem kd_50 : kd 50 = 10 := by decide
theorem il_50 : iln 50 = 8 := by decide
theorem kd_51 : kd 51 = 12 := by decide
theorem rl_51 : rln 51 = 4 := by decide
theorem rt_51_0 : rt 51 0 = 63 := by decide
theorem rt_51_1 : rt 51 1 = 65 := by decide
theorem rt_51_2 : rt 51 2 = 67 := by decide
theorem rt_51_3 : rt 51 3 = 69 := by decide
theorem kd_52 : kd 52 = 10 := by decide
theorem il_52 : iln 52 = 108 := by decide
theorem kd_53 : kd 53 = 10 := by decide
theorem il_53 : iln 53 = 120 := by decide
theorem kd_54 : kd 54 = 7 := by decide
theorem rt_54_3 : rt 54 3 = 55 := by decide
theorem rt_54_4 : rt 54 4 = 56 := by decide
theorem kd_55 : kd 55 = 10 := by decide
theorem il_55 : iln 55 = 8 := by decide
theorem kd_56 : kd 56 = 10 := by decide
theorem il_56 : iln 56 = 6 := by decide
theorem kd_57 : kd 57 = 7 := by decide
theorem rt_57_3 : rt 57 3 = 58 := by decide
theorem rt_57_4 : rt 57 4 = 59 := by decide
theorem kd_58 : kd 58 = 10 := by decide
theorem il_58 : iln 58 = 59 := by decide
theorem kd_59 : kd 59 = 10 := by decide
theorem il_59 : iln 59 = 48 := by decide
theorem kd_60 : kd 60 = 7 := by decide
theorem rt_60_3 : rt 60 3 = 61 := by decide
theorem rt_60_4 : rt 60 4 = 62 := by decide
theorem kd_61 : kd 61 = 10 := by decide
theorem il_61 : iln 61 = 47 := by decide
theorem kd_62 : kd 62 = 10 := by decide
theorem il_62 : iln 62 = 36 := by decide
theorem kd_63 : kd 63 = 4 := by decide
theorem rt_63_0 : rt 63 0 = 64 := by decide
theorem kd_64 : kd 64 = 10 := by decide
theorem il_64 : iln 64 = 60 := by decide
theorem kd_65 : kd 65 = 4 := by decide
theorem rt_65_0 : rt 65 0 = 66 := by decide
theorem kd_66 : kd 66 = 10 := by decide
theorem il_66 : iln 66 = 60 := by decide
theorem kd_67 : kd 67 = 4 := by decide
theorem rt_67_0 : rt 67 0 = 68 := by decide
theorem kd_68 : kd 68 = 10 := by decide
theorem il_68 : iln 68 = 60 := by decide
theorem kd_69 : kd 69 = 4 := by decide
theorem rt_69_0 : rt 69 0 = 70 := by decide
theorem kd_70 : kd 70 = 10 := by decide
theorem il_70 : iln 70 = 60 := by decide
theorem kd_71 : kd 71 = 9 := by decide
theorem rt_71_0 : rt 71 0 = 72 := by decide
theorem rt_71_1 : rt 71 1 = 73 := by decide
theorem rt_71_2 : rt 71 2 = 74 := by decide
theorem rt_71_3 : rt 71 3 = 75 := by decide
theorem rt_71_5 : rt 71 5 = 76 := by decide
theorem rt_71_6 : rt 71 6 = 77 := by decide
theorem rt_71_7 : rt 71 7 = 78 := by decide
theorem rt_71_9 : rt 71 9 = 79 := by decide
theorem rt_71_11 : rt 71 11 = 80 := by decide
theorem rt_71_12 : rt 71 12 = 81 := by decide
theorem rt_71_14 : rt 71 14 = 82 := by decide
theorem rt_71_16 : rt 71 16 = 83 := by decide
theorem rt_71_17 : rt 71 17 = 84 := by decide
theorem rt_71_18 : rt 71 18 = 85 := by decide
theorem rt_71_19 : rt 71 19 = 86 := by decide
theorem rt_71_20 : rt 71 20 = 87 := by decide
theorem rt_71_21 : rt 71 21 = 88 := by decide
theorem rt_71_22 : rt 71 22 = 89 := by decide
theorem rt_71_23 : rt 71 23 = 90 := by decide
theorem rt_71_25 : rt 71 25 = 91 := by decide
theorem rt_71_26 : rt 71 26 = 92 := by decide
theorem kd_72 : kd 72 = 10 := by decide
theorem il_72 : iln 72 = 4 := by decide
theorem kd_73 : kd 73 = 10 := by decide
theorem il_73 : iln 73 = 4 := by decide
theorem kd_74 : kd 74 = 10 := by decide
theorem il_74 : iln 74 = 240 := by decide
theorem kd_75 : kd 75 = 10 := by decide
theorem il_75 : iln 75 = 60 := by decide
theorem kd_76 : kd 76 = 10 := by decide
theorem il_76 : iln 76 = 180 := by decide
theorem kd_77 : kd 77 = 10 := by decide
theorem il_77 : iln 77 = 3 := by decide
theorem kd_78 : kd 78 = 10 := by decide
theorem il_78 : iln 78 = 3 := by decide
theorem kd_79 : kd 79 = 10 := by decide
theorem il_79 : iln 79 = 48 := by decide
theorem kd_80 : kd 80 = 10 := by decide
theorem il_80 : iln 80 = 36 := by decide
theorem kd_81 : kd 81 = 10 := by decide
theorem il_81 : iln 81 = 2 := by decide
theorem kd_82 : kd 82 = 10 := by decide
theorem il_82 : iln 82 = 24 := by decide
theorem kd_83 : kd 83 = 10 := by decide
theorem il_83 : iln 83 = 12 := by decide
theorem kd_84 : kd 84 = 10 := by decide
theorem il_84 : iln 84 = 12 := by decide
theorem kd_85 : kd 85 = 10 := by decide
theorem il_85 : iln 85 = 12 := by decide
theorem kd_86 : kd 86 = 10 := by decide
theorem il_86 : iln 86 = 12 := by decide
theorem kd_87 : kd 87 = 10 := by decide
theorem il_87 : iln 87 = 12 := by decide
theorem kd_88 : kd 88 = 10 := by decide
theorem il_88 : iln 88 = 288 := by decide
theorem kd_89 : kd 89 = 10 := by decide
theorem il_89 : iln 89 = 288 := by decide
theorem kd_90 : kd 90 = 10 := by decide
theorem il_90 : iln 90 = 288 := by decide
theorem kd_91 : kd 91 = 10 := by decide
theorem il_91 : iln 91 = 24 := by decide
theorem kd_92 : kd 92 = 10 := by decide
theorem il_92 : iln 92 = 120 := by decide
theorem fk_0_0 : fk 0 0 = 2 := by decide
theorem fk_0_1 : fk 0 1 = 2 := by decide
theorem fk_0_2 : fk 0 2 = 2 := by decide
theorem fk_0_3 : fk 0 3 = 2 := by decide
theorem fk_0_4 : fk 0 4 = 2 := by decide
theorem fk_1_0 : fk 1 0 = 2 := by decide
theorem fk_1_1 : fk 1 1 = 2 := by decide
theorem fk_1_2 : fk 1 2 = 2 := by decide
theorem fk_1_3 : fk 1 3 = 2 := by decide
theorem fk_1_4 : fk 1 4 = 0 := by decide
theorem fk_2_0 : fk 2 0 = 2 := by decide
theorem fk_2_1 : fk 2 1 = 2 := by decide
theorem fk_2_2 : fk 2 2 = 2 := by decide
theorem fk_2_3 : fk 2 3 = 0 := by decide
theorem fk_2_4 : fk 2 4 = 0 := by decide
theorem fk_2_5 : fk 2 5 = 3 := by decide
theorem fk_2_6 : fk 2 6 = 2 := by decide
theorem fk_2_7 : fk 2 7 = 2 := by decide
theorem fk_2_8 : fk 2 8 = 2 := by decide
theorem fk_2_9 : fk 2 9 = 2 := by decide
theorem fk_2_10 : fk 2 10 = 2 := by decide
theorem fk_2_11 : fk 2 11 = 0 := by decide
theorem fk_2_12 : fk 2 12 = 0 := by decide
theorem fk_2_13 : fk 2 13 = 2 := by decide
theorem fk_2_14 : fk 2 14 = 0 := by decide
theorem fk_2_15 : fk 2 15 = 0 := by decide
theorem fk_2_16 : fk 2 16 = 1 := by decide
theorem fk_3_0 : fk 3 0 = 2 := by decide
theorem fk_3_1 : fk 3 1 = 2 := by decide
theorem fk_3_2 : fk 3 2 = 2 := by decide
theorem fk_3_3 : fk 3 3 = 0 := by decide
theorem fk_4_0 : fk 4 0 = 2 := by decide
theorem fk_4_1 : fk 4 1 = 0 := by decide
theorem fk_4_2 : fk 4 2 = 0 := by decide
theorem fk_4_3 : fk 4 3 = 0 := by decide
theorem fk_5_0 : fk 5 0 = 2 := by decide
theorem fk_5_1 : fk 5 1 = 2 := by decide
theorem fk_5_2 : fk 5 2 = 2 := by decide
theorem fk_5_3 : fk 5 3 = 0 := by decide
theorem fk_6_0 : fk 6 0 = 2 := by decide
theorem fk_6_1 : fk 6 1 = 2 := by decide
theorem fk_6_2 : fk 6 2 = 2 := by decide
theorem fk_6_3 : fk 6 3 = 2 := by decide
theorem fk_6_4 : fk 6 4 = 2 := by decide
theorem fk_6_5 : fk 6 5 = 0 := by decide
theorem fk_6_6 : fk 6 6 = 2 := by decide
theorem fk_6_7 : fk 6 7 = 2 := by decide
theorem fk_7_0 : fk 7 0 = 0 := by decide
theorem fk_7_1 : fk 7 1 = 0 := by decide
theorem fk_7_2 : fk 7 2 = 0 := by decide
theorem fk_7_3 : fk 7 3 = 2 := by decide
theorem fk_7_4 : fk 7 4 = 2 := by decide
theorem fk_7_5 : fk 7 5 = 0 := by decide
theorem fk_7_6 : fk 7 6 = 0 := by decide
theorem fk_7_7 : fk 7 7 = 0 := by decide
theorem fk_8_0 : fk 8 0 = 2 := by decide
theorem fk_8_1 : fk 8 1 = 2 := by decide
theorem fk_8_2 : fk 8 2 = 2 := by decide
theorem fk_8_3 : fk 8 3 = 2 := by decide
theorem fk_8_4 : fk 8 4 = 2 := by decide
theorem fk_8_5 : fk 8 5 = 2 := by decide
theorem fk_8_6 : fk 8 6 = 2 := by decide
theorem fk_8_7 : fk 8 7 = 2 := by decide
theorem fk_8_8 : fk 8 8 = 2 := by decide
theorem fk_8_9 : fk 8 9 = 0 := by decide
theorem fk_8_10 : fk 8 10 = 0 := by decide
theorem fk_8_11 : fk 8 11 = 2 := by decide
theorem fk_8_12 : fk 8 12 = 2 := by decide
theorem fk_8_13 : fk 8 13 = 0 := by decide
theorem fk_8_14 : fk 8 14 = 0 := by decide
theorem fk_8_15 : fk 8 15 = 0 := by decide
theorem fk_9_0 : fk 9 0 = 2 := by decide
theorem fk_9_1 : fk 9 1 = 2 := by decide
theorem fk_9_2 : fk 9 2 = 2 := by decide
theorem fk_9_3 : fk 9 3 = 2 := by decide
theorem fk_9_4 : fk 9 4 = 0 := by decide
theorem fk_9_5 : fk 9 5 = 2 := by decide
theorem fk_9_6 : fk 9 6 = 2 := by decide
theorem fk_9_7 : fk 9 7 = 2 := by decide
theorem fk_9_8 : fk 9 8 = 0 := by decide
theorem fk_9_9 : fk 9 9 = 2 := by decide
theorem fk_9_10 : fk 9 10 = 0 := by decide
theorem fk_9_11 : fk 9 11 = 2 := by decide
theorem fk_9_12 : fk 9 12 = 2 := by decide
theorem fk_9_13 : fk 9 13 = 0 := by decide
theorem fk_9_14 : fk 9 14 = 2 := by decide
theorem fk_9_15 : fk 9 15 = 0 := by decide
theorem fk_9_16 : fk 9 16 = 2 := by decide
theorem fk_9_17 : fk 9 17 = 2 := by decide
theorem fk_9_18 : fk 9 18 = 2 := by decide
theorem fk_9_19 : fk 9 19 = 2 := by decide
theorem fk_9_20 : fk 9 20 = 2 := by decide
theorem fk_9_21 : fk 9 21 = 2 := by decide
theorem fk_9_22 : fk 9 22 = 2 := by decide
theorem fk_9_23 : fk 9 23 = 2 := by decide
theorem fk_9_24 : fk 9 24 = 0 := by decide
theorem fk_9_25 : fk 9 25 = 2 := by decide
theorem fk_9_26 : fk 9 26 = 2 := by decide
theorem fk_9_27 : fk 9 27 = 0 := by decide
theorem rtu_0_0_all : ∀ o, o < 93 → kd o = 0 → rt o 0 = 2 := by decide +kernel
theorem rtu_0_0 {o : Nat} (h : kd o = 0) : rt o 0 = 2 := rtu_0_0_all o (kd_lt (by omega)) h
theorem rtu_0_1_all : ∀ o, o < 93 → kd o = 0 → rt o 1 = 10 := by decide +kernel
theorem rtu_0_1 {o : Nat} (h : kd o = 0) : rt o 1 = 10 := rtu_0_1_all o (kd_lt (by omega)) h
theorem rtu_2_0_all : ∀ o, o < 93 → kd o = 2 → rt o 0 = 2 := by decide +kernel
theorem rtu_2_0 {o : Nat} (h : kd o = 2) : rt o 0 = 2 := rtu_2_0_all o (kd_lt (by omega)) h
theorem bp_m10 : (Int8.ofInt (-10)).toInt32 = (-10 : Int32) := by decide
theorem bp_m9 : (Int8.ofInt (-9)).toInt32 = (-9 : Int32) := by decide
theorem bp_m4 : (Int8.ofInt (-4)).toInt32 = (-4 : Int32) := by decide
theorem bp_m3 : (Int8.ofInt (-3)).toInt32 = (-3 : Int32) := by decide
theorem bp_m2 : (Int8.ofInt (-2)).toInt32 = (-2 : Int32) := by decide
theorem bp_6 : (Int8.ofInt (6)).toInt32 = (6 : Int32) := by decide
theorem bp_7 : (Int8.ofInt (7)).toInt32 = (7 : Int32) := by decide
theorem bp_8 : (Int8.ofInt (8)).toInt32 = (8 : Int32) := by decide
theorem bp_9 : (Int8.ofInt (9)).toInt32 = (9 : Int32) := by decide
theorem bp_10 : (Int8.ofInt (10)).toInt32 = (10 : Int32) := by decide
theorem bp_12 : (Int8.ofInt (12)).toInt32 = (12 : Int32) := by decide
theorem bp_13 : (Int8.ofInt (13)).toInt32 = (13 : Int32) := by decide
theorem bp_16 : (Int8.ofInt (16)).toInt32 = (16 : Int32) := by decide
theorem bp_17 : (Int8.ofInt (17)).toInt32 = (17 : Int32) := by decide
theorem bp_23 : (Int8.ofInt (23)).toInt32 = (23 : Int32) := by decide
theorem bp_24 : (Int8.ofInt (24)).toInt32 = (24 : Int32) := by decide
theorem bp_32 : (Int8.ofInt (32)).toInt32 = (32 : Int32) := by decide
theorem bp_47 : (Int8.ofInt (47)).toInt32 = (47 : Int32) := by decide
theorem bp_48 : (Int8.ofInt (48)).toInt32 = (48 : Int32) := by decide
theorem bp_59 : (Int8.ofInt (59)).toInt32 = (59 : Int32) := by decide
theorem bp_60 : (Int8.ofInt (60)).toInt32 = (60 : Int32) := by decide
theorem bp_63 : (Int8.ofInt (63)).toInt32 = (63 : Int32) := by decide
theorem bp_64 : (Int8.ofInt (64)).toInt32 = (64 : Int32) := by decide
theorem bp_97 : (Int8.ofInt (97)).toInt32 = (97 : Int32) := by decide
theorem bp_103 : (Int8.ofInt (103)).toInt32 = (103 : Int32) := by decide
theorem bp_104 : (Int8.ofInt (104)).toInt32 = (104 : Int32) := by decide
theorem bp_108 : (Int8.ofInt (108)).toInt32 = (108 : Int32) := by decide
theorem bp_114 : (Int8.ofInt (114)).toInt32 = (114 : Int32) := by decide
theorem bp_116 : (Int8.ofInt (116)).toInt32 = (116 : Int32) := by decide
theorem bp_120 : (Int8.ofInt (120)).toInt32 = (120 : Int32) := by decide
theorem ic_m1 : Int32.ofInt (-1) = (-1 : Int32) := by decide
theorem ic_0 : Int32.ofInt (0) = (0 : Int32) := by decide
theorem ic_1 : Int32.ofInt (1) = (1 : Int32) := by decide
theorem ic_2 : Int32.ofInt (2) = (2 : Int32) := by decide
theorem ic_3 : Int32.ofInt (3) = (3 : Int32) := by decide
theorem ic_4 : Int32.ofInt (4) = (4 : Int32) := by decide
theorem ic_5 : Int32.ofInt (5) = (5 : Int32) := by decide
theorem ic_8 : Int32.ofInt (8) = (8 : Int32) := by decide
theorem ic_16 : Int32.ofInt (16) = (16 : Int32) := by decide
theorem lc_0 : Int64.ofNat ((0 : Fin 2) : Nat) = (0 : Int64) := by decide
theorem lc_1 : Int64.ofNat ((1 : Fin 2) : Nat) = (1 : Int64) := by decide
theorem sp_256 : (Int16.ofInt (256)).toInt32 = (256 : Int32) := by decide
theorem sp_12345 : (Int16.ofInt (12345)).toInt32 = (12345 : Int32) := by decide
