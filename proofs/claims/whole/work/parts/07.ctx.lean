/-- the String constants of Text.signs: pool entries, texts, lengths, bytes -/
def skL : List (Nat × String) := [(62, "rl"), (64, "0123"), (66, "012"), (68, "abcdefghijkl"), (70, "thg"), (72, "123456789"), (74, "abcdefghijklmnopqrstuvwx"), (76, "012345")]
def lnS : List Nat := [2, 4, 3, 12, 3, 9, 24, 6]
def byS : List (List Int32) := [[114, 108], [48, 49, 50, 51], [48, 49, 50], [97, 98, 99, 100, 101, 102, 103, 104, 105, 106, 107, 108], [116, 104, 103], [49, 50, 51, 52, 53, 54, 55, 56, 57], [97, 98, 99, 100, 101, 102, 103, 104, 105, 106, 107, 108, 109, 110, 111, 112, 113, 114, 115, 116, 117, 118, 119, 120], [48, 49, 50, 51, 52, 53]]
def dtk (j : Nat) : Int32 := ([0, 6, 13, 23] : List Int32).getD j 0
/-- what lies outside the world and is never written: DIGEST_TICKS, the String constants -/
def KC (G : GT) (s : State) : Prop :=
  va_Z "TinDucks" "DIGEST_TICKS" "[I" (.ref (G.1 200)) (AA G) s s.heap ∧ va_T .int (G.1 200) 4 (fun j => .int (dtk j)) (AA G) s s.heap ∧ va_Z "java/lang/String" "COMPACT_STRINGS" "Z" (.int 1) (AA G) s s.heap ∧
  (∀ i : Nat, i < 8 → vk_R RX7 (skL.getD i (0, "")).1 (skL.getD i (0, "")).2 (G.1 (210 + i)) s) ∧ vk_S 8 lnS byS (fun i => G.1 (210 + i)) (fun i => G.1 (230 + i)) (AA G) s s.heap
def Ctx (G : GT) (s : State) : Prop := GOK G ∧ TBl s ∧ va_K G.2.1 vwCl (tys G) s ∧ KC G s
theorem Ctx.moved {G : GT} {s U : State} {H : Heap} {locs : List Loc} (hC : Ctx G s) (hS : va_S (AA G) s.heap H locs) (hU : U.heap = H) (hW : s.WarmedH U.vm) : Ctx G U := by
  obtain ⟨h1, h2, h3, k1, k2, k3, k4, k5⟩ := hC
  subst hU
  refine ⟨h1, h2.warm hW, h3.moved hW.alike, (k1.kept hS.2.1).moved hW.alike, (k2.kept hS.2.1).moved hW.alike, (k3.kept hS.2.1).moved hW.alike, fun i hi => (k4 i hi).warm hW, (k5.kept hS.2.1).moved hW.alike⟩
theorem Ctx.blind {G : GT} {U : State} {g : JFrame} {mk : MethodId} {a : Array Value} (h : Ctx G U) : Ctx G (U.calling g mk a) := by
  obtain ⟨h1, h2, h3, k1, k2, k3, k4, k5⟩ := h
  exact ⟨h1, TBl.same (u := U) (U := U.calling g mk a) rfl h2, va_K.moved (u := U) (U := U.calling g mk a) (Vm.Alike.refl U.vm) h3, va_Z.moved (u := U) (U := U.calling g mk a) (Vm.Alike.refl U.vm) k1, va_T.moved (u := U) (U := U.calling g mk a) (Vm.Alike.refl U.vm) k2, va_Z.moved (u := U) (U := U.calling g mk a) (Vm.Alike.refl U.vm) k3, fun i hi => vk_R.same (u := U) rfl (k4 i hi), vk_S.moved (u := U) (U := U.calling g mk a) (Vm.Alike.refl U.vm) k5⟩
def rmOf (M : MT) : Room := { frames := M.2.2.2.2.1, cells := 0, slots := 0, locals := M.2.2.2.2.2 }
/-- a method's end: its answer and the world's contents meet Q, nothing else has changed -/
def QQ (G : GT) (Q : Option Value → Hp → Prop) : Array Value → State → Outcome → State → Prop := fun _ st oc t => (∃ (v : Option Value) (σ : Hp), oc = .returned v ∧ Q v σ ∧ va_P G.2.1 vwCl (wl G σ) t.heap) ∧ va_F (AA G) st t
def Cx (G : GT) (M : MT) (p : Program) (s : State) (m : MethodId) (meth : Method) (c : Code) : Prop := p.tables.exec = Jvm.exec ∧ c.code = M.2.1 ∧ meth.sig.returnType = M.2.2.2.1 ∧ c.maxLocals = M.2.2.1 ∧ s.vm.findClass M.1.cls = some m.cls ∧ meth.locks = false ∧ Ctx G s
/-- in method M at pc, with these locals, this stack and contents: it comes to its end with Q -/
def WP (G : GT) (M : MT) (pc : Nat) (lv : List (Nat × Value)) (st : List Value) (σ : Hp) (Q : Option Value → Hp → Prop) : Prop :=
  ∀ (p : Program) (l : Launch) (e : Env) (s : State) (m : MethodId) (args : Array Value) (below : List Frame) (meth : Method) (c : Code) (H : Heap) (locs : List Loc) (ls : Array Slot), Cx G M p s m meth c → va_P G.2.1 vwCl (wl G σ) H → va_S (AA G) s.heap H locs → lv_has ls M.2.2.1 lv → W p l e (rmOf M) s m args below meth c H locs 0 0 (MQ below (QQ G Q) args s 0 0 (AA G)) (F0 m pc ls st)
/-- method M's contract at these arguments and contents -/
def CT (G : GT) (M : MT) (av : List Value) (σ : Hp) (Q : Option Value → Hp → Prop) : Prop := ∀ l : Launch, Met l M.1 [Cond.code M.1 M.2.1 M.2.2.1 M.2.2.2.1] (rmOf M) (va_Pc av (fun U => va_P G.2.1 vwCl (wl G σ) U.heap ∧ Ctx G U)) (QQ G Q) 0 0 (AA G)
theorem CT.of {G : GT} {M : MT} {av : List Value} {σ : Hp} {Q : Option Value → Hp → Prop} (hpl : plainName M.1.cls = true) (hav : (lg_sl av).length ≤ M.2.2.1) (h : WP G M 0 (lv_args 0 av) [] σ Q) : CT G M av σ Q := by
  intro l
  refine Met.ofW (cc := M.2.1) (maxL := M.2.2.1) (ret := M.2.2.2.1) hpl rfl ?_
  intro p e s m args below meth c s₁ B hml hv
  obtain ⟨rfl, hP, hC⟩ := hv
  rw [lg_entry_eq]
  exact h p l e s m _ below meth c s.heap [] _ ⟨B.exec, B.bytes, B.returns, hml, findClass_of_methodNamed B.named, B.notSynchronized, hC⟩ hP va_S.rf (lv_entry av hav)
theorem ac_nat : Cond.native arraycopyName ∈ tb := tin3 53 (by decide +kernel)
theorem ac_sta : Cond.static arraycopyName ∈ tb := tin3 52 (by decide +kernel)
theorem ac_ini : Cond.initialized "java/lang/System" ∈ tb := tin1 18 (by decide +kernel)
section WCALL
variable {p : Program} {l : Launch} {e : Env} {s : State} {m : MethodId} {args : Array Value} {below : List Frame} {meth : Method} {c : Code} {H : Heap} {locs : List Loc} {ls : Array Slot} {G : GT} {M Mc : MT} {pc : Nat} {lv : List (Nat × Value)} {st0 rest : List Value} {σ : Hp} {Q Q' : Option Value → Hp → Prop} {aa : Array Value}
theorem wp_after (hrun : va_Run p l e (rmOf M) s m args below meth c H locs 0 0 0 0 (F0 m pc ls st0) rest (QQ G Q' aa) (AA G)) (C : Cx G M p s m meth c) (hS : va_S (AA G) s.heap H locs) (hl : lv_has ls M.2.2.1 lv) (K : ∀ v τ, Q' v τ → WP G M (pc + 3) lv (v.toList ++ rest) τ Q) :
    W p l e (rmOf M) s m args below meth c H locs 0 0 (MQ below (QQ G Q) args s 0 0 (AA G)) (F0 m pc ls st0) := by
  intro T hT X
  obtain ⟨v, st₀, t, T', L, h0, X', hL, e1, e2, ⟨⟨v', τ, hv, hq, hP'⟩, hz, hk⟩, stp⟩ := hrun T hT X
  cases hv
  rw [h0] at hz hk
  obtain ⟨t2, a1, b1⟩ := K v τ hq p l e s m args below meth c T'.heap (locs ++ L) ls C (by rw [e1]; exact hP')
    ⟨Nat.le_trans hS.1 (by rw [e1]; exact hz), fun q h1 h2 => by rw [e1, hk q (Nat.lt_of_lt_of_le h1 hS.1) h2]; exact hS.2.1 q h1 h2, fun q hq => by
      rcases List.mem_append.mp hq with h | h
      · exact hS.2.2 q h
      · exact hL q h⟩ hl T' rfl X'
  exact ⟨t2, stp t2 a1, b1⟩
theorem wp_pre (C : Cx G M p s m meth c) (hP : va_P G.2.1 vwCl (wl G σ) H) (hS : va_S (AA G) s.heap H locs) (av : List Value) : FrameBlind (va_Pc av (fun U => va_P G.2.1 vwCl (wl G σ) U.heap ∧ Ctx G U)) ∧ ∀ U : State, U.heap = H → s.WarmedH U.vm → va_Pc av (fun U => va_P G.2.1 vwCl (wl G σ) U.heap ∧ Ctx G U) av.toArray U :=
  ⟨fun _ _ _ _ q => ⟨q.1, q.2.1, q.2.2.blind⟩, fun U hU hW => ⟨rfl, by rw [hU]; exact hP, Ctx.moved C.2.2.2.2.2.2 hS hU hW⟩⟩
end WCALL
