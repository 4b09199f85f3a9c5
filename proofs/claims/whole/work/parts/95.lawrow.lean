/-! ===== rows for the law itself ===== -/
section WL
variable {G : GT} {p : Program} {l : Launch} {e : Env} {s : State} {m : MethodId} {below : List Frame} {meth : Method} {c : Code} {b L : Nat} {xs : Nat → Int32} {pc : Nat} {lv : List (Nat × Value)} {st rest : List Value} {σ : Hp}
/-- in the law at pc, with both objects made: it comes to its end with true -/
def WL (G : GT) (p : Program) (l : Launch) (e : Env) (s : State) (m : MethodId) (below : List Frame) (meth : Method) (c : Code) (b : Nat) (pc : Nat) (lv : List (Nat × Value)) (st : List Value) (σ : Hp) : Prop :=
  ∀ (H : Heap) (locs : List Loc) (ls : Array Slot), va_P G.2.1 vwCl (wl G σ) H → va_S (fun q => s.heap.size ≤ q) s.heap H locs → lv_has ls 4 lv → W p l e room_1 s m #[Value.ref b] below meth c H locs 600000 7302250 (lw_Z below #[Value.ref b] s) (F0 m pc ls st)
theorem wl_iload_n {i : Fin 4} {x : Int32} (hx : p.tables.exec = Jvm.exec) (hb : c.code = code) (hdg : decode code pc = .ok (.iload_n i, 1)) (j : Nat) (hj : lv[j]? = some (i.val, .int x)) (k : WL G p l e s m below meth c b (pc + 1) lv (.int x :: rest) σ) : WL G p l e s m below meth c b pc lv rest σ := fun H L ls hP hS hl => lv_iload_n hx hb hdg rfl (lv_at hl j hj) (k H L ls hP hS hl)
theorem wl_aload_n {i : Fin 4} {x : Nat} (hx : p.tables.exec = Jvm.exec) (hb : c.code = code) (hdg : decode code pc = .ok (.aload_n i, 1)) (j : Nat) (hj : lv[j]? = some (i.val, .ref x)) (k : WL G p l e s m below meth c b (pc + 1) lv (.ref x :: rest) σ) : WL G p l e s m below meth c b pc lv rest σ := fun H L ls hP hS hl => lv_aload_n hx hb hdg rfl (lv_at hl j hj) (k H L ls hP hS hl)
theorem wl_end (hx : p.tables.exec = Jvm.exec) (hb : c.code = code) (hr : meth.sig.returnType = ret) (hlocks : meth.locks = false) (hdg : decode code pc = .ok (.ireturn, 1)) : WL G p l e s m below meth c b pc lv [.int 1] σ := fun H L ls hP hS hl => va_forget (fun q hq => hS.2.2 q hq) (lw_ret hx hb hr hlocks hdg)
end WL
