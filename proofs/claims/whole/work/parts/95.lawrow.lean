/-! ===== one walk for what makes cells: constructors, the law ===== -/
abbrev DT : Type := va_G × (Nat → ClassId)
abbrev tysD (D : DT) : List (ClassId × FieldType) := [(D.2 0, .int), (D.2 1, .long), (D.2 2, .object RX4), (D.2 3, .object RX7)]
/-- the tables, the classes, the rows' classes -/
def DK (D : DT) (U : State) : Prop := TBl U ∧ va_K D.1 vwCl (tysD D) U ∧ (Cond.arrayClass .int).before #[] U = true ∧ (Cond.arrayClass .long).before #[] U = true ∧ va_AO RX4 U ∧ va_AO RX7 U
theorem DK.warm {D : DT} {s U : State} (h : DK D s) (hW : s.WarmedH U.vm) : DK D U := ⟨h.1.warm hW, h.2.1.moved hW.alike, word_at hW (Or.inr ⟨_, rfl⟩) h.2.2.1, word_at hW (Or.inr ⟨_, rfl⟩) h.2.2.2.1, h.2.2.2.2.1.moved hW.alike, h.2.2.2.2.2.moved hW.alike⟩
theorem DK.blind {D : DT} {U : State} {g : JFrame} {mk : MethodId} {a : Array Value} (h : DK D U) : DK D (U.calling g mk a) := ⟨TBl.same (u := U) (U := U.calling g mk a) rfl h.1, va_K.moved (u := U) (U := U.calling g mk a) (Vm.Alike.refl U.vm) h.2.1, h.2.2.1, h.2.2.2.1, va_AO.moved (u := U) (U := U.calling g mk a) (Vm.Alike.refl U.vm) h.2.2.2.2.1, va_AO.moved (u := U) (U := U.calling g mk a) (Vm.Alike.refl U.vm) h.2.2.2.2.2⟩
/-- what stays in a walk: the machine, the code, the tables, which cells are its own -/
def CG (D : DT) (p : Program) (s : State) (m : MethodId) (c : Code) (cc : ByteArray) (nl : Nat) (own : String) (A : Nat → Prop) : Prop := p.tables.exec = Jvm.exec ∧ c.code = cc ∧ c.maxLocals = nl ∧ s.vm.findClass own = some m.cls ∧ DK D s ∧ ∀ q : Nat, s.heap.size ≤ q → A q
/-- at pc, with these locals, this stack, these cells and so much made: it comes to Z -/
def WG (p : Program) (l : Launch) (e : Env) (R : Room) (s : State) (m : MethodId) (args : Array Value) (below : List Frame) (meth : Method) (c : Code) (D : DT) (A : Nat → Prop) (nl : Nat) (Z : State → Prop) (pc : Nat) (lv : List (Nat × Value)) (st : List Value) (ws : va_W) (ck cn : Nat) : Prop :=
  ∀ (H : Heap) (locs : List Loc) (ls : Array Slot), va_P D.1 vwCl ws H → va_D A ws → va_S A s.heap H locs → lv_has ls nl lv → W p l e R s m args below meth c H locs ck cn Z (F0 m pc ls st)
section WGR
variable {p : Program} {l : Launch} {e : Env} {R : Room} {s : State} {m : MethodId} {args : Array Value} {below : List Frame} {meth : Method} {c : Code} {D : DT} {A : Nat → Prop} {nl : Nat} {Z : State → Prop} {cc : ByteArray} {own : String} {pc : Nat} {lv : List (Nat × Value)} {rest : List Value} {ws : va_W} {ck cn : Nat}
theorem CG.w (C : CG D p s m c cc nl own A) {a : Array Value} {w : Cond} (h : w ∈ tb) : w.before a s = true := C.2.2.2.2.1.1.use h
theorem wg_eq {ws' : va_W} (h : ws = ws') (k : WG p l e R s m args below meth c D A nl Z pc lv rest ws' ck cn) : WG p l e R s m args below meth c D A nl Z pc lv rest ws ck cn := by rw [h]; exact k
theorem wg_widen {ck' cn' : Nat} (h1 : ck ≤ ck') (h2 : cn ≤ cn') (k : WG p l e R s m args below meth c D A nl Z pc lv rest ws ck' cn') : WG p l e R s m args below meth c D A nl Z pc lv rest ws ck cn := fun H L ls hP hD hS hl => W.widen h1 h2 (k H L ls hP hD hS hl)
theorem wg_iconst {n : Int} {v : Int32} (C : CG D p s m c cc nl own A) (hdg : decode cc pc = .ok (.iconst n, 1)) (hv : Int32.ofInt n = v)     (k : WG p l e R s m args below meth c D A nl Z (pc + 1) lv (.int v :: rest) ws ck cn) : WG p l e R s m args below meth c D A nl Z pc lv (rest) ws ck cn := fun H L ls hP hD hS hl => lv_iconst C.1 C.2.1 hdg hv (k H L ls hP hD hS hl)
theorem wg_bipush {n : Int} {v : Int32} (C : CG D p s m c cc nl own A) (hdg : decode cc pc = .ok (.bipush n, 2)) (hv : (Int8.ofInt n).toInt32 = v)     (k : WG p l e R s m args below meth c D A nl Z (pc + 2) lv (.int v :: rest) ws ck cn) : WG p l e R s m args below meth c D A nl Z pc lv (rest) ws ck cn := fun H L ls hP hD hS hl => lv_bipush C.1 C.2.1 hdg hv (k H L ls hP hD hS hl)
theorem wg_sipush {n : Int} {v : Int32} (C : CG D p s m c cc nl own A) (hdg : decode cc pc = .ok (.sipush n, 3)) (hv : (Int16.ofInt n).toInt32 = v)     (k : WG p l e R s m args below meth c D A nl Z (pc + 3) lv (.int v :: rest) ws ck cn) : WG p l e R s m args below meth c D A nl Z pc lv (rest) ws ck cn := fun H L ls hP hD hS hl => lv_sipush C.1 C.2.1 hdg hv (k H L ls hP hD hS hl)
theorem wg_iadd {x y : Int32} (C : CG D p s m c cc nl own A) (hdg : decode cc pc = .ok (.iadd, 1))      (k : WG p l e R s m args below meth c D A nl Z (pc + 1) lv (.int (x + y) :: rest) ws ck cn) : WG p l e R s m args below meth c D A nl Z pc lv (.int y :: .int x :: rest) ws ck cn := fun H L ls hP hD hS hl => lv_iadd C.1 C.2.1 hdg (k H L ls hP hD hS hl)
theorem wg_isub {x y : Int32} (C : CG D p s m c cc nl own A) (hdg : decode cc pc = .ok (.isub, 1))      (k : WG p l e R s m args below meth c D A nl Z (pc + 1) lv (.int (x - y) :: rest) ws ck cn) : WG p l e R s m args below meth c D A nl Z pc lv (.int y :: .int x :: rest) ws ck cn := fun H L ls hP hD hS hl => lv_isub C.1 C.2.1 hdg (k H L ls hP hD hS hl)
theorem wg_imul {x y : Int32} (C : CG D p s m c cc nl own A) (hdg : decode cc pc = .ok (.imul, 1))      (k : WG p l e R s m args below meth c D A nl Z (pc + 1) lv (.int (x * y) :: rest) ws ck cn) : WG p l e R s m args below meth c D A nl Z pc lv (.int y :: .int x :: rest) ws ck cn := fun H L ls hP hD hS hl => lv_imul C.1 C.2.1 hdg (k H L ls hP hD hS hl)
theorem wg_iand {x y : Int32} (C : CG D p s m c cc nl own A) (hdg : decode cc pc = .ok (.iand, 1))      (k : WG p l e R s m args below meth c D A nl Z (pc + 1) lv (.int (x &&& y) :: rest) ws ck cn) : WG p l e R s m args below meth c D A nl Z pc lv (.int y :: .int x :: rest) ws ck cn := fun H L ls hP hD hS hl => lv_iand C.1 C.2.1 hdg (k H L ls hP hD hS hl)
theorem wg_dup {va : Value} (C : CG D p s m c cc nl own A) (hdg : decode cc pc = .ok (.dup, 1)) (hva : va.category = 1)     (k : WG p l e R s m args below meth c D A nl Z (pc + 1) lv (va :: va :: rest) ws ck cn) : WG p l e R s m args below meth c D A nl Z pc lv (va :: rest) ws ck cn := fun H L ls hP hD hS hl => lv_dup C.1 C.2.1 hdg hva (k H L ls hP hD hS hl)
theorem wg_goto {off : Int} {tgt : Nat} (C : CG D p s m c cc nl own A) (hdg : decode cc pc = .ok (.goto off, 3)) (ht : (pc : Int) + off = (tgt : Int)) (k : WG p l e R s m args below meth c D A nl Z tgt lv rest ws ck cn) : WG p l e R s m args below meth c D A nl Z pc lv rest ws ck cn := fun H L ls hP hD hS hl => lv_goto C.1 C.2.1 hdg ht (k H L ls hP hD hS hl)
theorem wg_if_eq {x : Int32} {off : Int} {tgt : Nat} (C : CG D p s m c cc nl own A) (hdg : decode cc pc = .ok (.ifCond .eq off, 3)) (ht : (pc : Int) + off = (tgt : Int))     (kt : x = 0 → WG p l e R s m args below meth c D A nl Z tgt lv rest ws ck cn) (kf : ¬ x = 0 → WG p l e R s m args below meth c D A nl Z (pc + 3) lv rest ws ck cn) : WG p l e R s m args below meth c D A nl Z pc lv (.int x :: rest) ws ck cn := fun H L ls hP hD hS hl => lv_if_eq C.1 C.2.1 hdg ht (fun q => kt q H L ls hP hD hS hl) (fun q => kf q H L ls hP hD hS hl)
theorem wg_icmp_eq {x y : Int32} {off : Int} {tgt : Nat} (C : CG D p s m c cc nl own A) (hdg : decode cc pc = .ok (.if_icmp .eq off, 3)) (ht : (pc : Int) + off = (tgt : Int))     (kt : x = y → WG p l e R s m args below meth c D A nl Z tgt lv rest ws ck cn) (kf : ¬ x = y → WG p l e R s m args below meth c D A nl Z (pc + 3) lv rest ws ck cn) : WG p l e R s m args below meth c D A nl Z pc lv (.int y :: .int x :: rest) ws ck cn := fun H L ls hP hD hS hl => lv_icmp_eq C.1 C.2.1 hdg ht (fun q => kt q H L ls hP hD hS hl) (fun q => kf q H L ls hP hD hS hl)
theorem wg_icmp_ge {x y : Int32} {off : Int} {tgt : Nat} (C : CG D p s m c cc nl own A) (hdg : decode cc pc = .ok (.if_icmp .ge off, 3)) (ht : (pc : Int) + off = (tgt : Int))     (kt : y ≤ x → WG p l e R s m args below meth c D A nl Z tgt lv rest ws ck cn) (kf : ¬ y ≤ x → WG p l e R s m args below meth c D A nl Z (pc + 3) lv rest ws ck cn) : WG p l e R s m args below meth c D A nl Z pc lv (.int y :: .int x :: rest) ws ck cn := fun H L ls hP hD hS hl => lv_icmp_ge C.1 C.2.1 hdg ht (fun q => kt q H L ls hP hD hS hl) (fun q => kf q H L ls hP hD hS hl)
theorem wg_icmp_gt {x y : Int32} {off : Int} {tgt : Nat} (C : CG D p s m c cc nl own A) (hdg : decode cc pc = .ok (.if_icmp .gt off, 3)) (ht : (pc : Int) + off = (tgt : Int))     (kt : y < x → WG p l e R s m args below meth c D A nl Z tgt lv rest ws ck cn) (kf : ¬ y < x → WG p l e R s m args below meth c D A nl Z (pc + 3) lv rest ws ck cn) : WG p l e R s m args below meth c D A nl Z pc lv (.int y :: .int x :: rest) ws ck cn := fun H L ls hP hD hS hl => lv_icmp_gt C.1 C.2.1 hdg ht (fun q => kt q H L ls hP hD hS hl) (fun q => kf q H L ls hP hD hS hl)
theorem wg_sub {lv' : List (Nat × Value)} (ks : List Nat) (hk : lv_pick lv ks = lv') (k : WG p l e R s m args below meth c D A nl Z pc lv' rest ws ck cn) : WG p l e R s m args below meth c D A nl Z pc lv rest ws ck cn := fun H L ls hP hD hS hl => k H L ls hP hD hS (lv_sub hl ks hk)
theorem wg_iload_n {i : Fin 4} {x : Int32} (C : CG D p s m c cc nl own A) (hdg : decode cc pc = .ok (.iload_n i, 1)) (j : Nat) (hj : lv[j]? = some (i.1, .int x)) (k : WG p l e R s m args below meth c D A nl Z (pc + 1) lv (.int x :: rest) ws ck cn) : WG p l e R s m args below meth c D A nl Z pc lv rest ws ck cn := fun H L ls hP hD hS hl => lv_iload_n C.1 C.2.1 hdg rfl (lv_at hl j hj) (k H L ls hP hD hS hl)
theorem wg_iload {i : Nat} {x : Int32} (C : CG D p s m c cc nl own A) (hdg : decode cc pc = .ok (.iload i, 2)) (j : Nat) (hj : lv[j]? = some (i, .int x)) (k : WG p l e R s m args below meth c D A nl Z (pc + 2) lv (.int x :: rest) ws ck cn) : WG p l e R s m args below meth c D A nl Z pc lv rest ws ck cn := fun H L ls hP hD hS hl => lv_iload C.1 C.2.1 hdg (lv_at hl j hj) (k H L ls hP hD hS hl)
theorem wg_aload_n {i : Fin 4} {x : Nat} (C : CG D p s m c cc nl own A) (hdg : decode cc pc = .ok (.aload_n i, 1)) (j : Nat) (hj : lv[j]? = some (i.1, .ref x)) (k : WG p l e R s m args below meth c D A nl Z (pc + 1) lv (.ref x :: rest) ws ck cn) : WG p l e R s m args below meth c D A nl Z pc lv rest ws ck cn := fun H L ls hP hD hS hl => lv_aload_n C.1 C.2.1 hdg rfl (lv_at hl j hj) (k H L ls hP hD hS hl)
theorem wg_istore_n {i : Fin 4} {x : Int32} {lv' : List (Nat × Value)} (C : CG D p s m c cc nl own A) (hdg : decode cc pc = .ok (.istore_n i, 1)) (hn : i.1 < nl) (hv : (i.1, Value.int x) :: lv.filter (fun q => !(q.1 == i.1) && !(q.1 + 1 == i.1 && q.2.category == 2)) = lv') (k : WG p l e R s m args below meth c D A nl Z (pc + 1) lv' rest ws ck cn) : WG p l e R s m args below meth c D A nl Z pc lv (.int x :: rest) ws ck cn := fun H L ls hP hD hS hl => lv_istore_n C.1 C.2.1 hdg rfl hl hn hv (fun ls hl => k H L ls hP hD hS hl)
theorem wg_astore_n {i : Fin 4} {x : Nat} {lv' : List (Nat × Value)} (C : CG D p s m c cc nl own A) (hdg : decode cc pc = .ok (.astore_n i, 1)) (hn : i.1 < nl) (hv : (i.1, Value.ref x) :: lv.filter (fun q => !(q.1 == i.1) && !(q.1 + 1 == i.1 && q.2.category == 2)) = lv') (k : WG p l e R s m args below meth c D A nl Z (pc + 1) lv' rest ws ck cn) : WG p l e R s m args below meth c D A nl Z pc lv (.ref x :: rest) ws ck cn := fun H L ls hP hD hS hl => lv_astore_n C.1 C.2.1 hdg rfl hl hn hv (fun ls hl => k H L ls hP hD hS hl)
theorem wg_iinc {i : Nat} {n : Int} {x v : Int32} {lv' : List (Nat × Value)} (C : CG D p s m c cc nl own A) (hdg : decode cc pc = .ok (.iinc i n, 3)) (j : Nat) (hj : lv[j]? = some (i, .int x)) (hx : x + Int32.ofInt n = v) (hn : i < nl) (hv : (i, Value.int v) :: lv.filter (fun q => !(q.1 == i) && !(q.1 + 1 == i && q.2.category == 2)) = lv') (k : WG p l e R s m args below meth c D A nl Z (pc + 3) lv' rest ws ck cn) : WG p l e R s m args below meth c D A nl Z pc lv rest ws ck cn := fun H L ls hP hD hS hl => lv_iinc (v := v) C.1 C.2.1 hdg hl hj hx hn hv (fun ls hl => k H L ls hP hD hS hl)
theorem wg_lcmp {x y : Int64} (C : CG D p s m c cc nl own A) (hdg : decode cc pc = .ok (.lcmp, 1)) (k : WG p l e R s m args below meth c D A nl Z (pc + 1) lv (.int (lg_cmp x y) :: rest) ws ck cn) : WG p l e R s m args below meth c D A nl Z pc lv (.long y :: .long x :: rest) ws ck cn := fun H L ls hP hD hS hl => W.lcmp C.1 C.2.1 hdg (k H L ls hP hD hS hl)
theorem wg_tabIn {dflt lo hi : Int} {offs : Array Int} {len : Nat} {x : Int32} {off : Int} {tgt : Nat} (C : CG D p s m c cc nl own A) (hdg : decode cc pc = .ok (.tableswitch dflt lo hi offs, len)) (h1 : ¬ x.toInt < lo) (h2 : ¬ hi < x.toInt) (ho : offs[(x.toInt - lo).toNat]? = some off) (ht : (pc : Int) + off = (tgt : Int)) (k : WG p l e R s m args below meth c D A nl Z tgt lv rest ws ck cn) : WG p l e R s m args below meth c D A nl Z pc lv (.int x :: rest) ws ck cn := fun H L ls hP hD hS hl => lv_tableIn C.1 C.2.1 hdg h1 h2 ho ht (k H L ls hP hD hS hl)
theorem wg_tabOut {dflt lo hi : Int} {offs : Array Int} {len : Nat} {x : Int32} {tgt : Nat} (C : CG D p s m c cc nl own A) (hdg : decode cc pc = .ok (.tableswitch dflt lo hi offs, len)) (h : x.toInt < lo ∨ hi < x.toInt) (ht : (pc : Int) + dflt = (tgt : Int)) (k : WG p l e R s m args below meth c D A nl Z tgt lv rest ws ck cn) : WG p l e R s m args below meth c D A nl Z pc lv (.int x :: rest) ws ck cn := fun H L ls hP hD hS hl => lv_tableOut C.1 C.2.1 hdg h ht (k H L ls hP hD hS hl)
theorem wg_get {idx ci j a : Nat} {fin : Bool} {tj : FieldType} {v : Value} {fs : List Value} (C : CG D p s m c cc nl own A) (hf : FL own idx ci j fin tj) (q0 : Nat) (he : ws[q0]? = some (a, .inr (ci, fs))) (hv : fs[j]? = some v) (hdg : decode cc pc = .ok (.getfield idx, 3)) (k : WG p l e R s m args below meth c D A nl Z (pc + 3) lv (v :: rest) ws ck cn) : WG p l e R s m args below meth c D A nl Z pc lv (.ref a :: rest) ws ck cn := by
  obtain ⟨C0, T, N, ty, ⟨h1, h2, h3, h4⟩, h5, h6, -⟩ := hf
  intro H L ls hP hD hS hl
  exact va_get (Ts := tb) (C := C0) (T := T) (N := N) (ci := ci) (fs := fs) (v := v) C.1 C.2.1 (fun w hw => C.w hw) h2 C.2.2.2.1 C.2.2.2.2.1.2.1 hP q0 he h1 j h5 (C.w h6) (fun _ h => h) hv hdg (k H L ls hP hD hS hl)
theorem wg_put {idx ci j a : Nat} {tj : FieldType} {v : Value} {fs : List Value} {wt : va_W} (C : CG D p s m c cc nl own A) (hf : FL own idx ci j false tj) (hn : narrow tj v = v) (hft : fits tj v = true) (hjl : j < fs.length) (hdg : decode cc pc = .ok (.putfield idx, 3)) (k : WG p l e R s m args below meth c D A nl Z (pc + 3) lv rest ((a, .inr (ci, fs.set j v)) :: wt) ck cn) : WG p l e R s m args below meth c D A nl Z pc lv (v :: .ref a :: rest) ((a, .inr (ci, fs)) :: wt) ck cn := by
  obtain ⟨C0, T, N, ty, ⟨h1, h2, h3, h4⟩, h5, h6, h7, h8⟩ := hf
  intro H L ls hP hD hS hl
  exact va_put (Ts := tb) (C := C0) (T := T) (N := N) (ci := ci) (fs := fs) (v := v) (ty := tj) C.1 C.2.1 (fun w hw => C.w hw) h2 ty h3 h4 C.2.2.2.1 C.2.2.2.2.1.2.1 hP hD hS 0 rfl h1 j h5 (C.w h6) (fun _ h => h) h7 (by rw [h3 j h5, h8]) hn hft hjl hdg (fun H1 L1 hP1 hD1 hS1 => k H1 L1 ls hP1 hD1 hS1 hl)
theorem wg_putF {idx ci j a : Nat} {tj : FieldType} {v : Value} {fs : List Value} {wt : va_W} (C : CG D p s m c cc nl own A) (hin : meth.name = "<init>") (hf : FL own idx ci j true tj) (ho : (vwCl[ci]?).map (fun r => (r.2.1 j).1) = some own) (hn : narrow tj v = v) (hft : fits tj v = true) (hjl : j < fs.length) (hdg : decode cc pc = .ok (.putfield idx, 3)) (k : WG p l e R s m args below meth c D A nl Z (pc + 3) lv rest ((a, .inr (ci, fs.set j v)) :: wt) ck cn) : WG p l e R s m args below meth c D A nl Z pc lv (v :: .ref a :: rest) ((a, .inr (ci, fs)) :: wt) ck cn := by
  obtain ⟨C0, T, N, ty, ⟨h1, h2, h3, h4⟩, h5, h6, h7, h8⟩ := hf
  rw [h1] at ho
  intro H L ls hP hD hS hl
  exact va_putF (Ts := tb) (C := C0) (T := T) (N := N) (ci := ci) (fs := fs) (v := v) (ty := tj) C.1 C.2.1 (fun w hw => C.w hw) h2 ty h3 h4 C.2.2.2.1 C.2.2.2.2.1.2.1 hP hD hS 0 rfl h1 j h5 (C.w h6) (fun _ h => h) h7 hin (Option.some.inj ho) (by rw [h3 j h5, h8]) hn hft hjl hdg (fun H1 L1 hP1 hD1 hS1 => k H1 L1 ls hP1 hD1 hS1 hl)
theorem wg_new {ci N idx : Nat} {C0 : String} {T : u_T} {ty : Nat → FieldType} {fs : List Value} (C : CG D p s m c cc nl own A) (hcl : CLk ci C0 T N ty) (hk : Cond.classLink own idx C0 ∈ tb) (hi : Cond.instantiable C0 N ∈ tb) (hini : Cond.initialized C0 ∈ tb) (hfs : ∀ j, j < N → defaultValue (ty j) = vp_V fs j) (hc1 : ck + 1 ≤ R.cells) (hs1 : cn + N ≤ R.slots) (hdg : decode cc pc = .ok (.new idx, 3)) (k : ∀ q, WG p l e R s m args below meth c D A nl Z (pc + 3) lv (.ref q :: rest) (ws ++ [(q, .inr (ci, fs))]) (ck + 1) (cn + N)) : WG p l e R s m args below meth c D A nl Z pc lv rest ws ck cn := by
  obtain ⟨h1, h2, h3, h4⟩ := hcl
  intro H L ls hP hD hS hl
  exact va_new (Ts := tb) (C := C0) (T := T) (N := N) (ci := ci) (fs := fs) C.1 C.2.1 (fun w hw => C.w hw) h2 ty h3 C.2.2.2.1 (C.w hk) (C.w hi) (C.w hini) C.2.2.2.2.1.2.1 hP hD hS C.2.2.2.2.2 h1 hfs hc1 hs1 hdg (fun q H1 hP1 hD1 hS1 => k q H1 L ls hP1 hD1 hS1 hl)
theorem wg_newI {x : Int32} {N : Nat} (C : CG D p s m c cc nl own A) (hn : ¬ x < 0) (hN : x.toNatClampNeg = N) (hby : N * 4 ≤ 536870912) (hc1 : ck + 1 ≤ R.cells) (hs1 : cn + N ≤ R.slots) (hdg : decode cc pc = .ok (.newarray .int, 2)) (k : ∀ q, WG p l e R s m args below meth c D A nl Z (pc + 2) lv (.ref q :: rest) (ws ++ [(q, .inl (D.2 0, N, .inl (fun _ => 0)))]) (ck + 1) (cn + N)) : WG p l e R s m args below meth c D A nl Z pc lv (.int x :: rest) ws ck cn := by
  intro H L ls hP hD hS hl
  refine va_newa (atype := .int) (ty := .int) (a0 := (N, .inl (fun _ => 0))) C.1 C.2.1 (show (Cond.arrayClass (newarray.typeOf .int)).before args s = true from C.2.2.2.2.1.2.2.1) rfl C.2.2.2.2.1.2.1 hP hD hS C.2.2.2.2.2 (fun _ => rfl) hn hN hby hc1 hs1 hdg (fun q cA H1 hK1 hP1 hD1 hS1 => ?_)
  have e : cA = D.2 0 := Option.some.inj ((hK1.2 4 (cA, .int) rfl).2.symm.trans (hK1.2 0 (D.2 0, .int) rfl).2)
  subst e
  exact k q H1 L ls hP1 hD1 hS1 hl
theorem wg_newL {x : Int32} {N : Nat} (C : CG D p s m c cc nl own A) (hn : ¬ x < 0) (hN : x.toNatClampNeg = N) (hby : N * 8 ≤ 536870912) (hc1 : ck + 1 ≤ R.cells) (hs1 : cn + N ≤ R.slots) (hdg : decode cc pc = .ok (.newarray .long, 2)) (k : ∀ q, WG p l e R s m args below meth c D A nl Z (pc + 2) lv (.ref q :: rest) (ws ++ [(q, .inl (D.2 1, N, .inr (.inl (fun _ => 0))))]) (ck + 1) (cn + N)) : WG p l e R s m args below meth c D A nl Z pc lv (.int x :: rest) ws ck cn := by
  intro H L ls hP hD hS hl
  refine va_newa (atype := .long) (ty := .long) (a0 := (N, .inr (.inl (fun _ => 0)))) C.1 C.2.1 (show (Cond.arrayClass (newarray.typeOf .long)).before args s = true from C.2.2.2.2.1.2.2.2.1) rfl C.2.2.2.2.1.2.1 hP hD hS C.2.2.2.2.2 (fun _ => rfl) hn hN hby hc1 hs1 hdg (fun q cA H1 hK1 hP1 hD1 hS1 => ?_)
  have e : cA = D.2 1 := Option.some.inj ((hK1.2 4 (cA, .long) rfl).2.symm.trans (hK1.2 1 (D.2 1, .long) rfl).2)
  subst e
  exact k q H1 L ls hP1 hD1 hS1 hl
theorem wg_newq {x : Int32} {N idx t0 : Nat} {C0 : String} {cA0 : ClassId} (C : CG D p s m c cc nl own A) (ht : (tysD D)[t0]? = some (cA0, .object C0)) (hao : va_AO C0 s) (hk : Cond.classLink own idx C0 ∈ tb) (hn : ¬ x < 0) (hN : x.toNatClampNeg = N) (hby : N * 4 ≤ 536870912) (hc1 : ck + 1 ≤ R.cells) (hs1 : cn + N ≤ R.slots) (hdg : decode cc pc = .ok (.anewarray idx, 3)) (k : ∀ q, WG p l e R s m args below meth c D A nl Z (pc + 3) lv (.ref q :: rest) (ws ++ [(q, .inl (cA0, N, .inr (.inr (.inr (.inr (fun _ => none))))))]) (ck + 1) (cn + N)) : WG p l e R s m args below meth c D A nl Z pc lv (.int x :: rest) ws ck cn := by
  intro H L ls hP hD hS hl
  refine va_newq C.1 C.2.1 C.2.2.2.1 (C.w hk) hao C.2.2.2.2.1.2.1 hP hD hS C.2.2.2.2.2 hn hN hby hc1 hs1 hdg (fun q cA H1 hK1 hP1 hD1 hS1 => ?_)
  obtain ⟨_, _, -, -, -, f1⟩ := (hK1.2 4 (cA, .object C0) rfl).2
  obtain ⟨_, _, -, -, -, f2⟩ := (C.2.2.2.2.1.2.1.2 t0 _ ht).2
  have e : cA = cA0 := Option.some.inj (f1.symm.trans f2)
  subst e
  exact k q H1 L ls hP1 hD1 hS1 hl
theorem wg_iast {i x : Int32} {a N : Nat} {f : Nat → Int32} {t : Nat × va_E} {wt : va_W} (C : CG D p s m c cc nl own A) (q0 : Nat) (he : wt[q0]? = some (a, .inl (D.2 0, N, .inl f))) (hin : vp_in i N) (hdg : decode cc pc = .ok (.iastore, 1)) (k : WG p l e R s m args below meth c D A nl Z (pc + 1) lv rest (t :: wt.set q0 (a, .inl (D.2 0, N, .inl (upd f i.toNatClampNeg x)))) ck cn) : WG p l e R s m args below meth c D A nl Z pc lv (.int x :: .int i :: .ref a :: rest) (t :: wt) ck cn := by
  intro H L ls hP hD hS hl
  exact va_iast C.1 C.2.1 C.2.2.2.2.1.2.1 hP hD hS (q0 + 1) 0 he rfl hin hdg (fun H1 L1 hP1 hD1 hS1 => k H1 L1 ls hP1 hD1 hS1 hl)
theorem wg_astq {i : Int32} {a N v ci t0 : Nat} {f : Nat → Option Nat} {t : Nat × va_E} {wt : va_W} {r : vw_C} {vs : List Value} {cA0 : ClassId} (C : CG D p s m c cc nl own A) (q0 qk : Nat) (he : wt[q0]? = some (a, .inl (cA0, N, .inr (.inr (.inr (.inr f)))))) (ht : (tysD D)[t0]? = some (cA0, .object r.1)) (hv : wt[qk]? = some (v, .inr (ci, vs))) (hc : vwCl[ci]? = some r) (hin : vp_in i N) (hdg : decode cc pc = .ok (.aastore, 1)) (k : WG p l e R s m args below meth c D A nl Z (pc + 1) lv rest (t :: wt.set q0 (a, .inl (cA0, N, .inr (.inr (.inr (.inr (va_up f i.toNatClampNeg (some v)))))))) ck cn) : WG p l e R s m args below meth c D A nl Z pc lv (.ref v :: .int i :: .ref a :: rest) (t :: wt) ck cn := by
  intro H L ls hP hD hS hl
  exact va_astq C.1 C.2.1 C.2.2.2.2.1.2.1 hP hD hS (q0 + 1) t0 (qk + 1) ci he ht hv hc hin hdg (fun H1 L1 hP1 hD1 hS1 => k H1 L1 ls hP1 hD1 hS1 hl)
theorem oi_1 : Cond.instanceMethod Lib.objectInit ∈ tb := tin1 26 (by decide +kernel)
theorem oi_2 : Cond.code Lib.objectInit ⟨#[0xb1]⟩ 1 none ∈ tb := tin1 27 (by decide +kernel)
theorem wg_obj {idx a : Nat} (C : CG D p s m c cc nl own A) (hk : Cond.methodLink own idx Lib.objectInit ∈ tb) (hdg : decode cc pc = .ok (.invokespecial idx, 3)) (hfr : 1 ≤ R.frames) (hlo : 12 ≤ R.locals) (k : WG p l e R s m args below meth c D A nl Z (pc + 3) lv [] ws ck cn) : WG p l e R s m args below meth c D A nl Z pc lv [.ref a] ws ck cn := by
  intro H L ls hP hD hS hl
  exact W.objInit C.1 C.2.1 C.2.2.2.1 (C.w hk) (C.w oi_1) (C.w oi_2) rfl (by rw [C.2.2.1]; exact hl.1) rfl hdg hfr hlo (k H L ls hP hD hS hl)
end WGR
/-! ===== constructors ===== -/
def rmN (M : MT) (mc ms : Nat) : Room := { frames := M.2.2.2.2.1, cells := mc, slots := ms, locals := M.2.2.2.2.2 }
abbrev QN (D : DT) (wc : va_W) (sz : Nat) (Qn : va_W → Prop) : Array Value → State → Outcome → State → Prop := va_Qv Qn (fun w1 t => va_P D.1 vwCl w1 t.heap ∧ va_D (va_A wc sz) w1) (va_A wc sz)
/-- a constructor's contract: out of the cells wc it makes cells with Qn, at most mc of ms slots are new -/
def CN (D : DT) (M : MT) (mc ms : Nat) (av : List Value) (wc : va_W) (Qn : va_W → Prop) : Prop := ∀ (l : Launch) (sz : Nat), Met l M.1 [Cond.code M.1 M.2.1 M.2.2.1 M.2.2.2.1] (rmN M mc ms) (va_Pc av (fun U => U.heap.size = sz ∧ va_P D.1 vwCl wc U.heap ∧ DK D U ∧ va_D (fun _ => True) wc)) (QN D wc sz Qn) mc ms (va_A wc sz)
theorem CN.of {D : DT} {M : MT} {mc ms : Nat} {av : List Value} {wc : va_W} {Qn : va_W → Prop} (hpl : plainName M.1.cls = true) (hav : (lg_sl av).length ≤ M.2.2.1)
    (h : ∀ (p : Program) (l : Launch) (e : Env) (s : State) (m : MethodId) (args : Array Value) (below : List Frame) (meth : Method) (c : Code), CG D p s m c M.2.1 M.2.2.1 M.1.cls (va_A wc s.heap.size) → meth.sig.returnType = M.2.2.2.1 → meth.locks = false → meth.name = M.1.name →
      WG p l e (rmN M mc ms) s m args below meth c D (va_A wc s.heap.size) M.2.2.1 (MQ below (QN D wc s.heap.size Qn) args s mc ms (va_A wc s.heap.size)) 0 (lv_args 0 av) [] wc 0 0) : CN D M mc ms av wc Qn := by
  intro l sz
  refine Met.ofW (cc := M.2.1) (maxL := M.2.2.1) (ret := M.2.2.2.1) hpl rfl ?_
  intro p e s m args below meth c s₁ B hml hv
  obtain ⟨rfl, hsz, hP, hC, hD⟩ := hv
  subst hsz
  rw [lg_entry_eq]
  exact h p l e s m _ below meth c ⟨B.exec, B.bytes, hml, findClass_of_methodNamed B.named, hC, fun q h => Or.inr h⟩ B.returns B.notSynchronized (name_of_methodNamed B.named B.method).1 s.heap [] _ hP hD.self va_S.rf (lv_entry av hav)
theorem va_nd_range (n : Nat) : ∀ k, va_nd (List.range' k n) = true := by
  induction n with
  | zero => intro k; rfl
  | succ n ih =>
    intro k
    rw [List.range'_succ]
    have h := ih (k + 1)
    simp only [va_nd, Bool.and_eq_true] at h ⊢
    refine ⟨?_, h⟩
    simp
section WGC
variable {p : Program} {l : Launch} {e : Env} {R : Room} {s : State} {m : MethodId} {args : Array Value} {below : List Frame} {meth : Method} {c : Code} {D : DT} {A : Nat → Prop} {nl : Nat} {Z : State → Prop} {cc : ByteArray} {own : String} {pc : Nat} {lv : List (Nat × Value)} {rest : List Value} {ws : va_W} {ck cn : Nat}
theorem wg_vret {wc : va_W} {Qn : va_W → Prop} {mc ms : Nat} (C : CG D p s m c cc nl own (va_A wc s.heap.size)) (hr : meth.sig.returnType = none) (hlk : meth.locks = false) (hdg : decode cc pc = .ok (.return_, 1)) (hk : ck ≤ mc) (hn : cn ≤ ms) (hq : Qn ws) : WG p l e R s m args below meth c D (va_A wc s.heap.size) nl (MQ below (QN D wc s.heap.size Qn) args s mc ms (va_A wc s.heap.size)) pc lv [] ws ck cn :=
  fun H L ls hP hD hS hl => W.widen hk hn (W.vret C.1 C.2.1 hr (fun t ht hW => ⟨⟨ws, rfl, hq, by rw [ht]; exact hP, hD⟩, hS.F ht⟩) hS.2.2 hdg hlk)
/-- a constructor's call: its own cell stands last -/
theorem wg_init {Mc : MT} {idx n mc ms b : Nat} {As st : List Value} {x : va_E} {Qn : va_W → Prop} (C : CG D p s m c cc nl own A) (hF : CF own idx Mc n) (hI : Cond.instanceMethod Mc.1 ∈ tb) (hnm : Mc.1.name = "<init>") (hret : Mc.2.2.2.1 = none) (hR : Mc.2.2.2.2.1 + 1 ≤ R.frames ∧ 8 + (Mc.2.2.1 + 11) + Mc.2.2.2.2.2 ≤ R.locals) (hn : As.length = n) (hst : As.reverse ++ .ref b :: rest = st) (hw : (rest.map fun v => v.category).sum ≤ 8) (hdg : decode cc pc = .ok (.invokespecial idx, 3)) (hM : CN D Mc mc ms (.ref b :: As) [(b, x)] Qn) (hfit : ck + mc ≤ R.cells ∧ cn + ms ≤ R.slots)
    (K : ∀ w1, Qn w1 → WG p l e R s m args below meth c D A nl Z (pc + 3) lv rest (ws ++ w1) (ck + mc) (cn + ms)) : WG p l e R s m args below meth c D A nl Z pc lv st (ws ++ [(b, x)]) ck cn := by
  subst hst
  obtain ⟨y, bytes, mL, rt0, fr, lo⟩ := Mc
  dsimp only at hF hI hnm hret hR hM
  subst hret
  intro H L ls hP hD hS hl
  obtain ⟨f1, f2, f3, f4⟩ := hF
  have hts : ∀ w ∈ tb, w.before args s = true := fun w hw => C.w hw
  have hlen : (List.map (fun i => (ws ++ [(b, x)])[i]?) [ws.length]) = ([(b, x)] : va_W).map some := by simp
  have hlr : (List.map (fun i => (ws ++ [(b, x)])[i]?) (List.range' 0 ws.length)) = ws.map some := by
    apply List.ext_getElem?
    intro i
    by_cases hi : i < ws.length
    · simp [hi, List.getElem?_append_left hi]
    · simp [hi]
  have hPc : va_P D.1 vwCl [(b, x)] H := hP.sub [ws.length] (by simp)
  have hDc : va_D A [(b, x)] := hD.sub [ws.length] rfl hlen
  have hFc := va_free (wc := [(b, x)]) hD hS C.2.2.2.2.2 [ws.length] hlen
  have hp : PreS s H (va_Pc (.ref b :: As) (fun U => U.heap.size = H.size ∧ va_P D.1 vwCl [(b, x)] U.heap ∧ DK D U ∧ va_D (fun _ => True) [(b, x)])) (.ref b :: As) := ⟨fun a U g mk q => ⟨q.1, q.2.1, q.2.2.1, q.2.2.2.1.blind, q.2.2.2.2⟩, fun U hU hW => ⟨rfl, by rw [hU], by rw [hU]; exact hPc, C.2.2.2.2.1.warm hW, hDc.weaken (fun _ _ _ _ => trivial)⟩⟩
  have fin : va_Run p l e R s m args below meth c H L ck cn mc ms (F0 m pc ls (As.reverse ++ .ref b :: rest)) rest (QN D [(b, x)] H.size Qn (Value.ref b :: As).toArray) (va_A [(b, x)] H.size) := by
    rcases f4 with f4 | ⟨host, f4⟩
    · exact va_runI (g := F0 m pc ls (As.reverse ++ .ref b :: rest)) (Ts := tb) ⟨C.1, C.2.1, C.2.2.1, C.2.2.2.1, hts⟩ (hM l H.size) ⟨callB_of n hts (goodCode (Mc := (y, bytes, mL, none, fr, lo)) f1) rfl rfl rfl (hts _ f2) (hts _ f4) f3 hR, hnm, hts _ hI⟩ hp rfl hn hl.1 rfl (lv_room (m := m) (pc := pc) (ls := ls) hw) hdg hfit
    · exact va_runIN (g := F0 m pc ls (As.reverse ++ .ref b :: rest)) (Ts := tb) (host := host) ⟨C.1, C.2.1, C.2.2.1, C.2.2.2.1, hts⟩ (hM l H.size) ⟨va_cnB n hts (goodCode (Mc := (y, bytes, mL, none, fr, lo)) f1) rfl rfl rfl (C.2.2.2.2.1.1 _ f4) (hts _ f2) f3 hR, hnm, hts _ hI⟩ hp rfl hn hl.1 rfl (lv_room (m := m) (pc := pc) (ls := ls) hw) hdg hfit
  refine va_callv fin hS (fun q _ h => hFc q h) hFc (fun u t H1 locs ht hvm hw1 hB hz1 hk1 hS1 => ?_)
  obtain ⟨hP1, hD1⟩ := hB
  rw [ht] at hP1
  obtain ⟨hP2, hD2⟩ := va_join (wr := ws) (w1 := u) hP hD [ws.length] (List.range' 0 ws.length) hlen hlr (va_nd_range _ _) (by intro i hi; simp at hi ⊢; omega) hk1 hFc hP1 hD1
  exact K u hw1 H1 locs ls hP2 hD2 hS1 hl
/-- a call of a method by its contract in the whole world -/
theorem wg_callV {G : GT} {σ : Hp} {Mc : MT} {idx o ci n : Nat} {As st : List Value} {Q' : Option Value → Hp → Prop} (C : CG G.2 p s m c cc nl own (fun q => s.heap.size ≤ q)) (hX : Ctx G s) (hG : ∀ q, AA G q → s.heap.size ≤ q) (hF : CF own idx Mc n) (hV : CV Mc) (hk : kd o = ci) (hc : (vwCl[ci]?).map (fun r => r.1) = some Mc.1.cls) (hR : Mc.2.2.2.2.1 + 1 ≤ R.frames ∧ 8 + (Mc.2.2.1 + 11) + Mc.2.2.2.2.2 ≤ R.locals) (hn : As.length = n) (hst : As.reverse ++ .ref (G.1 o) :: rest = st) (hw : (rest.map fun v => v.category).sum ≤ 8) (hfit : ck ≤ R.cells ∧ cn ≤ R.slots) (hdg : decode cc pc = .ok (.invokevirtual idx, 3)) (hM : CT G Mc (.ref (G.1 o) :: As) σ Q')
    (K : ∀ v τ, Q' v τ → WG p l e R s m args below meth c G.2 (fun q => s.heap.size ≤ q) nl Z (pc + 3) lv (v.toList ++ rest) (wl G τ) ck cn) : WG p l e R s m args below meth c G.2 (fun q => s.heap.size ≤ q) nl Z pc lv st (wl G σ) ck cn := by
  subst hst
  intro H L ls hP hD hS hl
  obtain ⟨f1, f2, f3, f4⟩ := hF
  have hts : ∀ w ∈ tb, w.before args s = true := fun w hw => C.w hw
  obtain ⟨r, hr1, hr2⟩ : ∃ r, vwCl[ci]? = some r ∧ r.1 = Mc.1.cls := by
    cases h : vwCl[ci]? with
    | none => rw [h] at hc; cases hc
    | some r => rw [h] at hc; exact ⟨r, rfl, Option.some.inj hc⟩
  have hci : ci < 10 := (List.getElem?_eq_some_iff.mp hr1).1
  have hrecv := va_recv (a := G.1 o) (fs := (List.range (ln o)).map (fv G σ o)) C.2.2.2.2.1.2.1 hP hr1 (q0 := o) (by rw [wl_get (kd_lt (by omega)), ce, if_pos (by omega), hk])
  rw [hr2] at hrecv
  have hS' : va_S (AA G) s.heap H [] := ⟨hS.1, fun q h1 _ => hS.2.1 q h1 (Nat.not_le.mpr h1), fun _ h => by cases h⟩
  have hp1 : FrameBlind (va_Pc (.ref (G.1 o) :: As) (fun U => va_P G.2.1 vwCl (wl G σ) U.heap ∧ Ctx G U)) := fun _ _ _ _ q => ⟨q.1, q.2.1, q.2.2.blind⟩
  have hp2 : ∀ U : State, U.heap = H → s.WarmedH U.vm → va_Pc (.ref (G.1 o) :: As) (fun U => va_P G.2.1 vwCl (wl G σ) U.heap ∧ Ctx G U) (Value.ref (G.1 o) :: As).toArray U := fun U hU hW => ⟨rfl, by rw [hU]; exact hP, hX.moved hS' hU hW⟩
  have fin : va_Run p l e R s m args below meth c H L ck cn 0 0 (F0 m pc ls (As.reverse ++ .ref (G.1 o) :: rest)) rest (QQ G Q' (Value.ref (G.1 o) :: As).toArray) (AA G) := by
    rcases f4 with f4 | ⟨host, f4⟩
    · exact va_runV (g := F0 m pc ls (As.reverse ++ .ref (G.1 o) :: rest)) (Ts := tb) (C := Mc.1.cls) ⟨C.1, C.2.1, C.2.2.1, C.2.2.2.1, hts⟩ (hM l) ⟨callB_of n hts (goodCode f1) rfl rfl rfl (hts _ f2) (hts _ f4) f3 hR, hts _ hV.1, hts _ hV.2⟩ ⟨hp1, hrecv, hp2⟩ rfl hn hl.1 rfl (lv_room (m := m) (pc := pc) (ls := ls) hw) hdg hfit
    · exact va_runVN (g := F0 m pc ls (As.reverse ++ .ref (G.1 o) :: rest)) (Ts := tb) (C := Mc.1.cls) (host := host) ⟨C.1, C.2.1, C.2.2.1, C.2.2.2.1, hts⟩ (hM l) ⟨va_cnB n hts (goodCode f1) rfl rfl rfl (C.2.2.2.2.1.1 _ f4) (hts _ f2) f3 hR, hts _ hV.1, hts _ hV.2⟩ ⟨hp1, hrecv, hp2⟩ rfl hn hl.1 rfl (lv_room (m := m) (pc := pc) (ls := ls) hw) hdg hfit
  intro T hT X
  obtain ⟨v, st₀, t, T', L1, h0, X', hL, e1, e2, ⟨⟨v', τ, hv, hq, hP'⟩, hz, hk1⟩, stp⟩ := fin T hT X
  cases hv
  rw [h0] at hz hk1
  obtain ⟨t2, a1, b1⟩ := K v τ hq T'.heap (L ++ L1) ls (by rw [e1]; exact hP') ((wl_D hX.1).weaken (fun _ q _ h => hG q.1 h))
    ⟨Nat.le_trans hS.1 (by rw [e1]; exact hz), fun q h1 h2 => by rw [e1, hk1 q (Nat.lt_of_lt_of_le h1 hS.1) (fun z => h2 (hG q z))]; exact hS.2.1 q h1 h2, fun q hq => by
      rcases List.mem_append.mp hq with h | h
      · exact hS.2.2 q h
      · exact hG _ (hL q h)⟩ hl T' rfl X'
  exact ⟨t2, stp t2 a1, b1⟩
theorem wg_sld {b L0 : Nat} {xs : Nat → Int32} {i : Int32} (C : CG D p s m c cc nl own (fun q => s.heap.size ≤ q)) (hX : va_X b L0 xs s s.heap) (hbl : b < s.heap.size) (hin : vp_in i L0) (hdg : decode cc pc = .ok (.iaload, 1)) (k : WG p l e R s m args below meth c D (fun q => s.heap.size ≤ q) nl Z (pc + 1) lv (.int (xs i.toNatClampNeg) :: rest) ws ck cn) : WG p l e R s m args below meth c D (fun q => s.heap.size ≤ q) nl Z pc lv (.int i :: .ref b :: rest) ws ck cn :=
  fun H L ls hP hD hS hl => va_sld C.1 C.2.1 hX hbl (Nat.not_le.mpr hbl) hS hin hdg (k H L ls hP hD hS hl)
theorem wg_slen {b L0 : Nat} {xs : Nat → Int32} (C : CG D p s m c cc nl own (fun q => s.heap.size ≤ q)) (hX : va_X b L0 xs s s.heap) (hbl : b < s.heap.size) (hdg : decode cc pc = .ok (.arraylength, 1)) (k : WG p l e R s m args below meth c D (fun q => s.heap.size ≤ q) nl Z (pc + 1) lv (.int (Int32.ofNat L0) :: rest) ws ck cn) : WG p l e R s m args below meth c D (fun q => s.heap.size ≤ q) nl Z pc lv (.ref b :: rest) ws ck cn :=
  fun H L ls hP hD hS hl => va_slen C.1 C.2.1 hX hbl (Nat.not_le.mpr hbl) hS hdg (k H L ls hP hD hS hl)
theorem wg_end {b : Nat} (hx : p.tables.exec = Jvm.exec) (hb : c.code = code) (hr : meth.sig.returnType = ret) (hlocks : meth.locks = false) (hdg : decode code pc = .ok (.ireturn, 1)) : WG p l e room_1 s m #[Value.ref b] below meth c D (fun q => s.heap.size ≤ q) nl (lw_Z below #[Value.ref b] s) pc lv [.int 1] ws 600000 7302250 := fun H L ls hP hD hS hl => va_forget (fun q hq => hS.2.2 q hq) (lw_ret hx hb hr hlocks hdg)
end WGC
