def isNestW : Cond → Bool
  | .methodLinkNest .. => true
  | _ => false
def okW (w : Cond) : Bool := w.onTables && (w.keeps || isNestW w)
/-- the tables' words that stay while the machine warms up -/
def tb : List Cond := lw_tbl.filter okW
theorem tb_in {w : Cond} (h : w ∈ lw_tbl) (ho : okW w = true) : w ∈ tb := List.mem_filter.mpr ⟨h, ho⟩
theorem tinl1 (i : Nat) {w : Cond} (h : tables_1_1[i]? = some w) : w ∈ lw_tbl := List.mem_append_right _ (List.mem_append_left _ (List.mem_of_getElem? h))
theorem tin1 (i : Nat) {w : Cond} (h : tables_1_1[i]? = some w ∧ okW w = true) : w ∈ tb := tb_in (tinl1 i h.1) h.2
theorem tinl2 (i : Nat) {w : Cond} (h : tables_1_2[i]? = some w) : w ∈ lw_tbl := List.mem_append_right _ (List.mem_append_right _ (List.mem_append_left _ (List.mem_of_getElem? h)))
theorem tin2 (i : Nat) {w : Cond} (h : tables_1_2[i]? = some w ∧ okW w = true) : w ∈ tb := tb_in (tinl2 i h.1) h.2
theorem tinl3 (i : Nat) {w : Cond} (h : tables_1_3[i]? = some w) : w ∈ lw_tbl := List.mem_append_right _ (List.mem_append_right _ (List.mem_append_right _ (List.mem_append_left _ (List.mem_of_getElem? h))))
theorem tin3 (i : Nat) {w : Cond} (h : tables_1_3[i]? = some w ∧ okW w = true) : w ∈ tb := tb_in (tinl3 i h.1) h.2
theorem tinl4 (i : Nat) {w : Cond} (h : tables_1_4[i]? = some w) : w ∈ lw_tbl := List.mem_append_right _ (List.mem_append_right _ (List.mem_append_right _ (List.mem_append_right _ (List.mem_append_left _ (List.mem_of_getElem? h)))))
theorem tin4 (i : Nat) {w : Cond} (h : tables_1_4[i]? = some w ∧ okW w = true) : w ∈ tb := tb_in (tinl4 i h.1) h.2
theorem tinl5 (i : Nat) {w : Cond} (h : tables_1_5[i]? = some w) : w ∈ lw_tbl := List.mem_append_right _ (List.mem_append_right _ (List.mem_append_right _ (List.mem_append_right _ (List.mem_append_right _ (List.mem_append_left _ (List.mem_of_getElem? h))))))
theorem tin5 (i : Nat) {w : Cond} (h : tables_1_5[i]? = some w ∧ okW w = true) : w ∈ tb := tb_in (tinl5 i h.1) h.2
theorem tinl6 (i : Nat) {w : Cond} (h : tables_1_6[i]? = some w) : w ∈ lw_tbl := List.mem_append_right _ (List.mem_append_right _ (List.mem_append_right _ (List.mem_append_right _ (List.mem_append_right _ (List.mem_append_right _ (List.mem_append_left _ (List.mem_of_getElem? h)))))))
theorem tin6 (i : Nat) {w : Cond} (h : tables_1_6[i]? = some w ∧ okW w = true) : w ∈ tb := tb_in (tinl6 i h.1) h.2
theorem tinl7 (i : Nat) {w : Cond} (h : tables_1_7[i]? = some w) : w ∈ lw_tbl := List.mem_append_right _ (List.mem_append_right _ (List.mem_append_right _ (List.mem_append_right _ (List.mem_append_right _ (List.mem_append_right _ (List.mem_append_right _ (List.mem_of_getElem? h)))))))
theorem tin7 (i : Nat) {w : Cond} (h : tables_1_7[i]? = some w ∧ okW w = true) : w ∈ tb := tb_in (tinl7 i h.1) h.2
theorem tinp (i : Nat) {w : Cond} (h : (k2_sels lw_privs)[i]? = some w ∧ okW w = true) : w ∈ tb := tb_in (List.mem_append_left _ (List.mem_of_getElem? h.1)) h.2
/-- a class of the world: its number, its fields' table -/
def CLk (ci : Nat) (C : String) (T : u_T) (N : Nat) (ty : Nat → FieldType) : Prop := vwCl[ci]? = some (C, T, N) ∧ (∀ w ∈ u_ws C T N, w ∈ tb) ∧ (∀ k, k < N → parseFieldDescriptor (T k).2.2.1 = some (ty k)) ∧ (∀ a, a < N → ∀ b, b < N → a ≠ b → (T a).2.1 ≠ (T b).2.1)
/-- entry idx of own's pool is field j of class ci -/
def FL (own : String) (idx ci j : Nat) (fin : Bool) (tj : FieldType) : Prop := ∃ (C : String) (T : u_T) (N : Nat) (ty : Nat → FieldType), CLk ci C T N ty ∧ j < N ∧ Cond.fieldLink own idx (T j).1 (T j).2.1 (T j).2.2.1 ∈ tb ∧ (T j).2.2.2 = fin ∧ ty j = tj
/-- a method: its name, bytes, locals, answer, frames and words of room -/
abbrev MT : Type := MethodName × ByteArray × Nat × Option FieldType × Nat × Nat
/-- entry idx of own's pool is method M; what its call needs of the tables -/
def CF (own : String) (idx : Nat) (M : MT) (n : Nat) : Prop := Cond.code M.1 M.2.1 M.2.2.1 M.2.2.2.1 ∈ tb ∧ Cond.initialized M.1.cls ∈ tb ∧ (M.1.cls ≠ "java/lang/invoke/MethodHandle" ∧ M.1.cls ≠ "java/lang/invoke/VarHandle" ∧ (parseMethodDescriptor M.1.desc).map (fun d => d.parameters.length) = some n) ∧ (Cond.methodLink own idx M.1 ∈ tb ∨ ∃ host, Cond.methodLinkNest own idx M.1 host ∈ tb)
def CV (M : MT) : Prop := Cond.instanceMethod M.1 ∈ tb ∧ Cond.selects M.1.cls M.1 M.1 ∈ tb
def CS (M : MT) : Prop := Cond.static M.1 ∈ tb
theorem wiX0 : ∀ w ∈ u_ws RX0 TX0 5, w ∈ tb := by
  have h : ∀ k, k < 5 → u_lay RX0 TX0 k ∈ tb := by
    intro k hk
    match k, hk with
    | 0, _ => exact tin1 108 (by decide +kernel)
    | 1, _ => exact tin1 110 (by decide +kernel)
    | 2, _ => exact tin1 112 (by decide +kernel)
    | 3, _ => exact tin1 114 (by decide +kernel)
    | 4, _ => exact tin1 116 (by decide +kernel)
    | k + 5, hk => exact absurd hk (by omega)
  intro w hw
  obtain ⟨k, hk, rfl⟩ := List.mem_map.mp hw
  exact h k (List.mem_range.mp hk)
theorem clX0 : CLk 0 RX0 TX0 5 tyX0 := ⟨rfl, wiX0, tyX0_ok, nmX0⟩
theorem wiX1 : ∀ w ∈ u_ws RX1 TX1 5, w ∈ tb := by
  have h : ∀ k, k < 5 → u_lay RX1 TX1 k ∈ tb := by
    intro k hk
    match k, hk with
    | 0, _ => exact tin1 84 (by decide +kernel)
    | 1, _ => exact tin1 86 (by decide +kernel)
    | 2, _ => exact tin1 88 (by decide +kernel)
    | 3, _ => exact tin1 90 (by decide +kernel)
    | 4, _ => exact tin1 92 (by decide +kernel)
    | k + 5, hk => exact absurd hk (by omega)
  intro w hw
  obtain ⟨k, hk, rfl⟩ := List.mem_map.mp hw
  exact h k (List.mem_range.mp hk)
theorem clX1 : CLk 1 RX1 TX1 5 tyX1 := ⟨rfl, wiX1, tyX1_ok, nmX1⟩
theorem wiX2 : ∀ w ∈ u_ws RX2 TX2 17, w ∈ tb := by
  have h : ∀ k, k < 17 → u_lay RX2 TX2 k ∈ tb := by
    intro k hk
    match k, hk with
    | 0, _ => exact tin1 176 (by decide +kernel)
    | 1, _ => exact tin1 178 (by decide +kernel)
    | 2, _ => exact tin1 180 (by decide +kernel)
    | 3, _ => exact tin1 182 (by decide +kernel)
    | 4, _ => exact tin1 184 (by decide +kernel)
    | 5, _ => exact tin1 186 (by decide +kernel)
    | 6, _ => exact tin1 188 (by decide +kernel)
    | 7, _ => exact tin1 190 (by decide +kernel)
    | 8, _ => exact tin1 192 (by decide +kernel)
    | 9, _ => exact tin1 194 (by decide +kernel)
    | 10, _ => exact tin1 196 (by decide +kernel)
    | 11, _ => exact tin1 198 (by decide +kernel)
    | 12, _ => exact tin1 200 (by decide +kernel)
    | 13, _ => exact tin1 202 (by decide +kernel)
    | 14, _ => exact tin1 204 (by decide +kernel)
    | 15, _ => exact tin1 206 (by decide +kernel)
    | 16, _ => exact tin1 208 (by decide +kernel)
    | k + 17, hk => exact absurd hk (by omega)
  intro w hw
  obtain ⟨k, hk, rfl⟩ := List.mem_map.mp hw
  exact h k (List.mem_range.mp hk)
theorem clX2 : CLk 2 RX2 TX2 17 tyX2 := ⟨rfl, wiX2, tyX2_ok, nmX2⟩
theorem wiX3 : ∀ w ∈ u_ws RX3 TX3 4, w ∈ tb := by
  have h : ∀ k, k < 4 → u_lay RX3 TX3 k ∈ tb := by
    intro k hk
    match k, hk with
    | 0, _ => exact tin1 223 (by decide +kernel)
    | 1, _ => exact tin1 225 (by decide +kernel)
    | 2, _ => exact tin1 227 (by decide +kernel)
    | 3, _ => exact tin1 229 (by decide +kernel)
    | k + 4, hk => exact absurd hk (by omega)
  intro w hw
  obtain ⟨k, hk, rfl⟩ := List.mem_map.mp hw
  exact h k (List.mem_range.mp hk)
theorem clX3 : CLk 3 RX3 TX3 4 tyX3 := ⟨rfl, wiX3, tyX3_ok, nmX3⟩
theorem wiX4 : ∀ w ∈ u_ws RX4 TX4 4, w ∈ tb := by
  have h : ∀ k, k < 4 → u_lay RX4 TX4 k ∈ tb := by
    intro k hk
    match k, hk with
    | 0, _ => exact tin2 41 (by decide +kernel)
    | 1, _ => exact tin2 43 (by decide +kernel)
    | 2, _ => exact tin2 45 (by decide +kernel)
    | 3, _ => exact tin2 47 (by decide +kernel)
    | k + 4, hk => exact absurd hk (by omega)
  intro w hw
  obtain ⟨k, hk, rfl⟩ := List.mem_map.mp hw
  exact h k (List.mem_range.mp hk)
theorem clX4 : CLk 4 RX4 TX4 4 tyX4 := ⟨rfl, wiX4, tyX4_ok, nmX4⟩
theorem wiX5 : ∀ w ∈ u_ws RX5 TX5 4, w ∈ tb := by
  have h : ∀ k, k < 4 → u_lay RX5 TX5 k ∈ tb := by
    intro k hk
    match k, hk with
    | 0, _ => exact tin1 142 (by decide +kernel)
    | 1, _ => exact tin1 144 (by decide +kernel)
    | 2, _ => exact tin1 146 (by decide +kernel)
    | 3, _ => exact tin1 148 (by decide +kernel)
    | k + 4, hk => exact absurd hk (by omega)
  intro w hw
  obtain ⟨k, hk, rfl⟩ := List.mem_map.mp hw
  exact h k (List.mem_range.mp hk)
theorem clX5 : CLk 5 RX5 TX5 4 tyX5 := ⟨rfl, wiX5, tyX5_ok, nmX5⟩
theorem wiX6 : ∀ w ∈ u_ws RX6 TX6 8, w ∈ tb := by
  have h : ∀ k, k < 8 → u_lay RX6 TX6 k ∈ tb := by
    intro k hk
    match k, hk with
    | 0, _ => exact tin1 53 (by decide +kernel)
    | 1, _ => exact tin1 55 (by decide +kernel)
    | 2, _ => exact tin1 57 (by decide +kernel)
    | 3, _ => exact tin1 59 (by decide +kernel)
    | 4, _ => exact tin1 61 (by decide +kernel)
    | 5, _ => exact tin1 63 (by decide +kernel)
    | 6, _ => exact tin1 65 (by decide +kernel)
    | 7, _ => exact tin1 67 (by decide +kernel)
    | k + 8, hk => exact absurd hk (by omega)
  intro w hw
  obtain ⟨k, hk, rfl⟩ := List.mem_map.mp hw
  exact h k (List.mem_range.mp hk)
theorem clX6 : CLk 6 RX6 TX6 8 tyX6 := ⟨rfl, wiX6, tyX6_ok, nmX6⟩
theorem wiX7 : ∀ w ∈ u_ws RX7 TX7 8, w ∈ tb := by
  have h : ∀ k, k < 8 → u_lay RX7 TX7 k ∈ tb := by
    intro k hk
    match k, hk with
    | 0, _ => exact tin2 11 (by decide +kernel)
    | 1, _ => exact tin2 13 (by decide +kernel)
    | 2, _ => exact tin2 15 (by decide +kernel)
    | 3, _ => exact tin2 17 (by decide +kernel)
    | 4, _ => exact tin2 19 (by decide +kernel)
    | 5, _ => exact tin2 21 (by decide +kernel)
    | 6, _ => exact tin2 23 (by decide +kernel)
    | 7, _ => exact tin2 25 (by decide +kernel)
    | k + 8, hk => exact absurd hk (by omega)
  intro w hw
  obtain ⟨k, hk, rfl⟩ := List.mem_map.mp hw
  exact h k (List.mem_range.mp hk)
theorem clX7 : CLk 7 RX7 TX7 8 tyX7 := ⟨rfl, wiX7, tyX7_ok, nmX7⟩
theorem wiX8 : ∀ w ∈ u_ws RX8 TX8 16, w ∈ tb := by
  have h : ∀ k, k < 16 → u_lay RX8 TX8 k ∈ tb := by
    intro k hk
    match k, hk with
    | 0, _ => exact tin2 66 (by decide +kernel)
    | 1, _ => exact tin2 68 (by decide +kernel)
    | 2, _ => exact tin2 70 (by decide +kernel)
    | 3, _ => exact tin2 72 (by decide +kernel)
    | 4, _ => exact tin2 74 (by decide +kernel)
    | 5, _ => exact tin2 76 (by decide +kernel)
    | 6, _ => exact tin2 78 (by decide +kernel)
    | 7, _ => exact tin2 80 (by decide +kernel)
    | 8, _ => exact tin2 82 (by decide +kernel)
    | 9, _ => exact tin2 84 (by decide +kernel)
    | 10, _ => exact tin2 86 (by decide +kernel)
    | 11, _ => exact tin2 88 (by decide +kernel)
    | 12, _ => exact tin2 90 (by decide +kernel)
    | 13, _ => exact tin2 92 (by decide +kernel)
    | 14, _ => exact tin2 94 (by decide +kernel)
    | 15, _ => exact tin2 96 (by decide +kernel)
    | k + 16, hk => exact absurd hk (by omega)
  intro w hw
  obtain ⟨k, hk, rfl⟩ := List.mem_map.mp hw
  exact h k (List.mem_range.mp hk)
theorem clX8 : CLk 8 RX8 TX8 16 tyX8 := ⟨rfl, wiX8, tyX8_ok, nmX8⟩
theorem wiX9 : ∀ w ∈ u_ws RX9 TX9 28, w ∈ tb := by
  have h : ∀ k, k < 28 → u_lay RX9 TX9 k ∈ tb := by
    intro k hk
    match k, hk with
    | 0, _ => exact tin5 32 (by decide +kernel)
    | 1, _ => exact tin5 34 (by decide +kernel)
    | 2, _ => exact tin5 36 (by decide +kernel)
    | 3, _ => exact tin5 38 (by decide +kernel)
    | 4, _ => exact tin5 40 (by decide +kernel)
    | 5, _ => exact tin5 42 (by decide +kernel)
    | 6, _ => exact tin5 44 (by decide +kernel)
    | 7, _ => exact tin5 46 (by decide +kernel)
    | 8, _ => exact tin5 48 (by decide +kernel)
    | 9, _ => exact tin5 50 (by decide +kernel)
    | 10, _ => exact tin5 52 (by decide +kernel)
    | 11, _ => exact tin5 54 (by decide +kernel)
    | 12, _ => exact tin5 56 (by decide +kernel)
    | 13, _ => exact tin5 58 (by decide +kernel)
    | 14, _ => exact tin5 60 (by decide +kernel)
    | 15, _ => exact tin5 62 (by decide +kernel)
    | 16, _ => exact tin5 64 (by decide +kernel)
    | 17, _ => exact tin5 66 (by decide +kernel)
    | 18, _ => exact tin5 68 (by decide +kernel)
    | 19, _ => exact tin5 70 (by decide +kernel)
    | 20, _ => exact tin5 72 (by decide +kernel)
    | 21, _ => exact tin5 74 (by decide +kernel)
    | 22, _ => exact tin5 76 (by decide +kernel)
    | 23, _ => exact tin5 78 (by decide +kernel)
    | 24, _ => exact tin5 80 (by decide +kernel)
    | 25, _ => exact tin5 82 (by decide +kernel)
    | 26, _ => exact tin5 84 (by decide +kernel)
    | 27, _ => exact tin5 86 (by decide +kernel)
    | k + 28, hk => exact absurd hk (by omega)
  intro w hw
  obtain ⟨k, hk, rfl⟩ := List.mem_map.mp hw
  exact h k (List.mem_range.mp hk)
theorem clX9 : CLk 9 RX9 TX9 28 tyX9 := ⟨rfl, wiX9, tyX9_ok, nmX9⟩
theorem fl_X8_11 : FL RX8 11 8 0 true (.array (.object "TinDucks$Text")) := ⟨RX8, TX8, 16, tyX8, clX8, by decide, tin2 50 (by decide +kernel), rfl, rfl⟩
theorem fl_X8_18 : FL RX8 18 8 1 true (.object "TinDucks$Stand") := ⟨RX8, TX8, 16, tyX8, clX8, by decide, tin2 51 (by decide +kernel), rfl, rfl⟩
theorem fl_X8_25 : FL RX8 25 8 2 true (.object "TinDucks$Events") := ⟨RX8, TX8, 16, tyX8, clX8, by decide, tin2 52 (by decide +kernel), rfl, rfl⟩
theorem fl_X8_34 : FL RX8 34 8 3 true (.object "TinDucks$Course") := ⟨RX8, TX8, 16, tyX8, clX8, by decide, tin2 53 (by decide +kernel), rfl, rfl⟩
theorem fl_X8_38 : FL RX8 38 8 4 true (.object "TinDucks$Course") := ⟨RX8, TX8, 16, tyX8, clX8, by decide, tin2 54 (by decide +kernel), rfl, rfl⟩
theorem fl_X8_46 : FL RX8 46 8 5 true (.object "TinDucks$Round") := ⟨RX8, TX8, 16, tyX8, clX8, by decide, tin2 55 (by decide +kernel), rfl, rfl⟩
theorem fl_X8_50 : FL RX8 50 8 6 true (.object "TinDucks$Round") := ⟨RX8, TX8, 16, tyX8, clX8, by decide, tin2 56 (by decide +kernel), rfl, rfl⟩
theorem fl_X8_56 : FL RX8 56 8 7 true (.object "TinDucks$Seen") := ⟨RX8, TX8, 16, tyX8, clX8, by decide, tin2 57 (by decide +kernel), rfl, rfl⟩
theorem fl_X8_62 : FL RX8 62 8 8 true (.array (.object "TinDucks$Sheet")) := ⟨RX8, TX8, 16, tyX8, clX8, by decide, tin2 58 (by decide +kernel), rfl, rfl⟩
theorem fl_X8_66 : FL RX8 66 8 11 true (.array .int) := ⟨RX8, TX8, 16, tyX8, clX8, by decide, tin2 61 (by decide +kernel), rfl, rfl⟩
theorem fl_X8_70 : FL RX8 70 8 12 true (.array .int) := ⟨RX8, TX8, 16, tyX8, clX8, by decide, tin2 62 (by decide +kernel), rfl, rfl⟩
theorem fl_X8_89 : FL RX8 89 8 9 false .boolean := ⟨RX8, TX8, 16, tyX8, clX8, by decide, tin2 59 (by decide +kernel), rfl, rfl⟩
theorem fl_X8_93 : FL RX8 93 7 5 false .int := ⟨RX7, TX7, 8, tyX7, clX7, by decide, tin2 5 (by decide +kernel), rfl, rfl⟩
theorem fl_X8_100 : FL RX8 100 7 7 false .int := ⟨RX7, TX7, 8, tyX7, clX7, by decide, tin2 10 (by decide +kernel), rfl, rfl⟩
theorem fl_X8_104 : FL RX8 104 6 0 true (.array .int) := ⟨RX6, TX6, 8, tyX6, clX6, by decide, tin1 38 (by decide +kernel), rfl, rfl⟩
theorem fl_X8_118 : FL RX8 118 2 1 true (.object "TinDucks$Shots") := ⟨RX2, TX2, 17, tyX2, clX2, by decide, tin1 153 (by decide +kernel), rfl, rfl⟩
theorem fl_X8_127 : FL RX8 127 2 3 false .int := ⟨RX2, TX2, 17, tyX2, clX2, by decide, tin1 157 (by decide +kernel), rfl, rfl⟩
theorem fl_X8_130 : FL RX8 130 2 4 false .int := ⟨RX2, TX2, 17, tyX2, clX2, by decide, tin1 159 (by decide +kernel), rfl, rfl⟩
theorem fl_X8_141 : FL RX8 141 1 4 false .int := ⟨RX1, TX1, 5, tyX1, clX1, by decide, tin1 83 (by decide +kernel), rfl, rfl⟩
theorem fl_X8_151 : FL RX8 151 4 2 false .int := ⟨RX4, TX4, 4, tyX4, clX4, by decide, tin2 38 (by decide +kernel), rfl, rfl⟩
theorem fl_X8_152 : FL RX8 152 4 0 true (.array .int) := ⟨RX4, TX4, 4, tyX4, clX4, by decide, tin2 34 (by decide +kernel), rfl, rfl⟩
theorem fl_X8_165 : FL RX8 165 2 6 true (.array .int) := ⟨RX2, TX2, 17, tyX2, clX2, by decide, tin1 163 (by decide +kernel), rfl, rfl⟩
theorem fl_X8_182 : FL RX8 182 8 14 false .int := ⟨RX8, TX8, 16, tyX8, clX8, by decide, tin2 64 (by decide +kernel), rfl, rfl⟩
theorem fl_X8_185 : FL RX8 185 8 13 false .int := ⟨RX8, TX8, 16, tyX8, clX8, by decide, tin2 63 (by decide +kernel), rfl, rfl⟩
theorem fl_X8_212 : FL RX8 212 3 3 false .int := ⟨RX3, TX3, 4, tyX3, clX3, by decide, tin1 222 (by decide +kernel), rfl, rfl⟩
theorem fl_X8_244 : FL RX8 244 4 3 false .boolean := ⟨RX4, TX4, 4, tyX4, clX4, by decide, tin2 40 (by decide +kernel), rfl, rfl⟩
theorem fl_X8_253 : FL RX8 253 4 1 false .int := ⟨RX4, TX4, 4, tyX4, clX4, by decide, tin2 36 (by decide +kernel), rfl, rfl⟩
theorem fl_X8_282 : FL RX8 282 6 5 false .int := ⟨RX6, TX6, 8, tyX6, clX6, by decide, tin1 48 (by decide +kernel), rfl, rfl⟩
theorem fl_X8_289 : FL RX8 289 5 3 false .int := ⟨RX5, TX5, 4, tyX5, clX5, by decide, tin1 141 (by decide +kernel), rfl, rfl⟩
theorem fl_X8_311 : FL RX8 311 8 15 false .int := ⟨RX8, TX8, 16, tyX8, clX8, by decide, tin2 65 (by decide +kernel), rfl, rfl⟩
theorem fl_X8_331 : FL RX8 331 6 3 true (.array .int) := ⟨RX6, TX6, 8, tyX6, clX6, by decide, tin1 44 (by decide +kernel), rfl, rfl⟩
theorem fl_X8_334 : FL RX8 334 2 2 true (.array .int) := ⟨RX2, TX2, 17, tyX2, clX2, by decide, tin1 155 (by decide +kernel), rfl, rfl⟩
theorem fl_X8_338 : FL RX8 338 8 10 false .boolean := ⟨RX8, TX8, 16, tyX8, clX8, by decide, tin2 60 (by decide +kernel), rfl, rfl⟩
theorem fl_X8_341 : FL RX8 341 2 11 false .int := ⟨RX2, TX2, 17, tyX2, clX2, by decide, tin1 169 (by decide +kernel), rfl, rfl⟩
theorem fl_X8_344 : FL RX8 344 2 12 false .int := ⟨RX2, TX2, 17, tyX2, clX2, by decide, tin1 171 (by decide +kernel), rfl, rfl⟩
theorem fl_X8_360 : FL RX8 360 5 2 true (.array .int) := ⟨RX5, TX5, 4, tyX5, clX5, by decide, tin1 138 (by decide +kernel), rfl, rfl⟩
theorem fl_X8_363 : FL RX8 363 5 0 true (.array .int) := ⟨RX5, TX5, 4, tyX5, clX5, by decide, tin1 133 (by decide +kernel), rfl, rfl⟩
theorem fl_X8_366 : FL RX8 366 2 5 false (.object "TinDucks$Course") := ⟨RX2, TX2, 17, tyX2, clX2, by decide, tin1 161 (by decide +kernel), rfl, rfl⟩
theorem fl_X0_9 : FL RX0 9 0 2 true (.array .int) := ⟨RX0, TX0, 5, tyX0, clX0, by decide, tin1 103 (by decide +kernel), rfl, rfl⟩
theorem fl_X0_15 : FL RX0 15 0 3 true (.array .int) := ⟨RX0, TX0, 5, tyX0, clX0, by decide, tin1 104 (by decide +kernel), rfl, rfl⟩
theorem fl_X0_18 : FL RX0 18 0 4 true (.array .int) := ⟨RX0, TX0, 5, tyX0, clX0, by decide, tin1 106 (by decide +kernel), rfl, rfl⟩
theorem fl_X0_21 : FL RX0 21 0 0 true (.object "TinDucks$Stand") := ⟨RX0, TX0, 5, tyX0, clX0, by decide, tin1 101 (by decide +kernel), rfl, rfl⟩
theorem fl_X0_25 : FL RX0 25 0 1 true (.object "TinDucks$Events") := ⟨RX0, TX0, 5, tyX0, clX0, by decide, tin1 102 (by decide +kernel), rfl, rfl⟩
theorem fl_X0_29 : FL RX0 29 1 3 true (.array .int) := ⟨RX1, TX1, 5, tyX1, clX1, by decide, tin1 81 (by decide +kernel), rfl, rfl⟩
theorem fl_X0_45 : FL RX0 45 6 0 true (.array .int) := ⟨RX6, TX6, 8, tyX6, clX6, by decide, tin1 37 (by decide +kernel), rfl, rfl⟩
theorem fl_X0_55 : FL RX0 55 6 7 true (.array .int) := ⟨RX6, TX6, 8, tyX6, clX6, by decide, tin1 52 (by decide +kernel), rfl, rfl⟩
theorem fl_X0_58 : FL RX0 58 6 2 true (.array .int) := ⟨RX6, TX6, 8, tyX6, clX6, by decide, tin1 42 (by decide +kernel), rfl, rfl⟩
theorem fl_X0_61 : FL RX0 61 6 1 true (.array .int) := ⟨RX6, TX6, 8, tyX6, clX6, by decide, tin1 40 (by decide +kernel), rfl, rfl⟩
theorem fl_X0_64 : FL RX0 64 6 6 true (.array .int) := ⟨RX6, TX6, 8, tyX6, clX6, by decide, tin1 50 (by decide +kernel), rfl, rfl⟩
theorem fl_X1_9 : FL RX1 9 1 0 true (.array .int) := ⟨RX1, TX1, 5, tyX1, clX1, by decide, tin1 77 (by decide +kernel), rfl, rfl⟩
theorem fl_X1_15 : FL RX1 15 1 1 true (.array .int) := ⟨RX1, TX1, 5, tyX1, clX1, by decide, tin1 78 (by decide +kernel), rfl, rfl⟩
theorem fl_X1_18 : FL RX1 18 1 2 true (.array .int) := ⟨RX1, TX1, 5, tyX1, clX1, by decide, tin1 79 (by decide +kernel), rfl, rfl⟩
theorem fl_X1_21 : FL RX1 21 1 3 true (.array .int) := ⟨RX1, TX1, 5, tyX1, clX1, by decide, tin1 80 (by decide +kernel), rfl, rfl⟩
theorem fl_X1_24 : FL RX1 24 1 4 false .int := ⟨RX1, TX1, 5, tyX1, clX1, by decide, tin1 82 (by decide +kernel), rfl, rfl⟩
theorem fl_X2_12 : FL RX2 12 2 1 true (.object "TinDucks$Shots") := ⟨RX2, TX2, 17, tyX2, clX2, by decide, tin1 152 (by decide +kernel), rfl, rfl⟩
theorem fl_X2_18 : FL RX2 18 2 2 true (.array .int) := ⟨RX2, TX2, 17, tyX2, clX2, by decide, tin1 154 (by decide +kernel), rfl, rfl⟩
theorem fl_X2_22 : FL RX2 22 2 3 false .int := ⟨RX2, TX2, 17, tyX2, clX2, by decide, tin1 156 (by decide +kernel), rfl, rfl⟩
theorem fl_X2_26 : FL RX2 26 2 4 false .int := ⟨RX2, TX2, 17, tyX2, clX2, by decide, tin1 158 (by decide +kernel), rfl, rfl⟩
theorem fl_X2_29 : FL RX2 29 2 6 true (.array .int) := ⟨RX2, TX2, 17, tyX2, clX2, by decide, tin1 162 (by decide +kernel), rfl, rfl⟩
theorem fl_X2_32 : FL RX2 32 2 7 true (.array .int) := ⟨RX2, TX2, 17, tyX2, clX2, by decide, tin1 164 (by decide +kernel), rfl, rfl⟩
theorem fl_X2_35 : FL RX2 35 2 8 true (.array .long) := ⟨RX2, TX2, 17, tyX2, clX2, by decide, tin1 165 (by decide +kernel), rfl, rfl⟩
theorem fl_X2_39 : FL RX2 39 2 9 true (.array .int) := ⟨RX2, TX2, 17, tyX2, clX2, by decide, tin1 166 (by decide +kernel), rfl, rfl⟩
theorem fl_X2_42 : FL RX2 42 2 10 true (.array .int) := ⟨RX2, TX2, 17, tyX2, clX2, by decide, tin1 167 (by decide +kernel), rfl, rfl⟩
theorem fl_X2_45 : FL RX2 45 2 13 true (.array .int) := ⟨RX2, TX2, 17, tyX2, clX2, by decide, tin1 172 (by decide +kernel), rfl, rfl⟩
theorem fl_X2_48 : FL RX2 48 2 0 true (.object "TinDucks$Stand") := ⟨RX2, TX2, 17, tyX2, clX2, by decide, tin1 151 (by decide +kernel), rfl, rfl⟩
theorem fl_X2_52 : FL RX2 52 2 5 false (.object "TinDucks$Course") := ⟨RX2, TX2, 17, tyX2, clX2, by decide, tin1 160 (by decide +kernel), rfl, rfl⟩
theorem fl_X2_66 : FL RX2 66 5 0 true (.array .int) := ⟨RX5, TX5, 4, tyX5, clX5, by decide, tin1 132 (by decide +kernel), rfl, rfl⟩
theorem fl_X2_91 : FL RX2 91 2 12 false .int := ⟨RX2, TX2, 17, tyX2, clX2, by decide, tin1 170 (by decide +kernel), rfl, rfl⟩
theorem fl_X2_99 : FL RX2 99 2 11 false .int := ⟨RX2, TX2, 17, tyX2, clX2, by decide, tin1 168 (by decide +kernel), rfl, rfl⟩
theorem fl_X2_102 : FL RX2 102 5 3 false .int := ⟨RX5, TX5, 4, tyX5, clX5, by decide, tin1 140 (by decide +kernel), rfl, rfl⟩
theorem fl_X2_108 : FL RX2 108 2 14 false .int := ⟨RX2, TX2, 17, tyX2, clX2, by decide, tin1 173 (by decide +kernel), rfl, rfl⟩
theorem fl_X2_111 : FL RX2 111 0 3 true (.array .int) := ⟨RX0, TX0, 5, tyX0, clX0, by decide, tin1 105 (by decide +kernel), rfl, rfl⟩
theorem fl_X2_114 : FL RX2 114 2 15 false .int := ⟨RX2, TX2, 17, tyX2, clX2, by decide, tin1 174 (by decide +kernel), rfl, rfl⟩
theorem fl_X2_121 : FL RX2 121 2 16 false .long := ⟨RX2, TX2, 17, tyX2, clX2, by decide, tin1 175 (by decide +kernel), rfl, rfl⟩
theorem fl_X2_131 : FL RX2 131 5 2 true (.array .int) := ⟨RX5, TX5, 4, tyX5, clX5, by decide, tin1 137 (by decide +kernel), rfl, rfl⟩
theorem fl_X2_134 : FL RX2 134 0 4 true (.array .int) := ⟨RX0, TX0, 5, tyX0, clX0, by decide, tin1 107 (by decide +kernel), rfl, rfl⟩
theorem fl_X2_140 : FL RX2 140 5 1 true (.array .int) := ⟨RX5, TX5, 4, tyX5, clX5, by decide, tin1 135 (by decide +kernel), rfl, rfl⟩
theorem fl_X2_150 : FL RX2 150 6 4 true (.array .int) := ⟨RX6, TX6, 8, tyX6, clX6, by decide, tin1 46 (by decide +kernel), rfl, rfl⟩
theorem fl_X3_9 : FL RX3 9 3 0 true (.array .int) := ⟨RX3, TX3, 4, tyX3, clX3, by decide, tin1 218 (by decide +kernel), rfl, rfl⟩
theorem fl_X3_15 : FL RX3 15 3 1 true (.array .int) := ⟨RX3, TX3, 4, tyX3, clX3, by decide, tin1 219 (by decide +kernel), rfl, rfl⟩
theorem fl_X3_18 : FL RX3 18 3 2 true (.array .int) := ⟨RX3, TX3, 4, tyX3, clX3, by decide, tin1 220 (by decide +kernel), rfl, rfl⟩
theorem fl_X3_21 : FL RX3 21 3 3 false .int := ⟨RX3, TX3, 4, tyX3, clX3, by decide, tin1 221 (by decide +kernel), rfl, rfl⟩
theorem fl_X4_9 : FL RX4 9 4 0 true (.array .int) := ⟨RX4, TX4, 4, tyX4, clX4, by decide, tin2 33 (by decide +kernel), rfl, rfl⟩
theorem fl_X4_15 : FL RX4 15 4 3 false .boolean := ⟨RX4, TX4, 4, tyX4, clX4, by decide, tin2 39 (by decide +kernel), rfl, rfl⟩
theorem fl_X4_19 : FL RX4 19 4 1 false .int := ⟨RX4, TX4, 4, tyX4, clX4, by decide, tin2 35 (by decide +kernel), rfl, rfl⟩
theorem fl_X4_23 : FL RX4 23 4 2 false .int := ⟨RX4, TX4, 4, tyX4, clX4, by decide, tin2 37 (by decide +kernel), rfl, rfl⟩
theorem fl_X5_9 : FL RX5 9 5 0 true (.array .int) := ⟨RX5, TX5, 4, tyX5, clX5, by decide, tin1 131 (by decide +kernel), rfl, rfl⟩
theorem fl_X5_15 : FL RX5 15 5 1 true (.array .int) := ⟨RX5, TX5, 4, tyX5, clX5, by decide, tin1 134 (by decide +kernel), rfl, rfl⟩
theorem fl_X5_18 : FL RX5 18 5 2 true (.array .int) := ⟨RX5, TX5, 4, tyX5, clX5, by decide, tin1 136 (by decide +kernel), rfl, rfl⟩
theorem fl_X5_21 : FL RX5 21 7 6 false .int := ⟨RX7, TX7, 8, tyX7, clX7, by decide, tin2 6 (by decide +kernel), rfl, rfl⟩
theorem fl_X5_27 : FL RX5 27 5 3 false .int := ⟨RX5, TX5, 4, tyX5, clX5, by decide, tin1 139 (by decide +kernel), rfl, rfl⟩
theorem fl_X6_9 : FL RX6 9 6 0 true (.array .int) := ⟨RX6, TX6, 8, tyX6, clX6, by decide, tin1 36 (by decide +kernel), rfl, rfl⟩
theorem fl_X6_15 : FL RX6 15 6 1 true (.array .int) := ⟨RX6, TX6, 8, tyX6, clX6, by decide, tin1 39 (by decide +kernel), rfl, rfl⟩
theorem fl_X6_18 : FL RX6 18 6 2 true (.array .int) := ⟨RX6, TX6, 8, tyX6, clX6, by decide, tin1 41 (by decide +kernel), rfl, rfl⟩
theorem fl_X6_21 : FL RX6 21 6 3 true (.array .int) := ⟨RX6, TX6, 8, tyX6, clX6, by decide, tin1 43 (by decide +kernel), rfl, rfl⟩
theorem fl_X6_24 : FL RX6 24 6 4 true (.array .int) := ⟨RX6, TX6, 8, tyX6, clX6, by decide, tin1 45 (by decide +kernel), rfl, rfl⟩
theorem fl_X6_27 : FL RX6 27 6 6 true (.array .int) := ⟨RX6, TX6, 8, tyX6, clX6, by decide, tin1 49 (by decide +kernel), rfl, rfl⟩
theorem fl_X6_30 : FL RX6 30 6 7 true (.array .int) := ⟨RX6, TX6, 8, tyX6, clX6, by decide, tin1 51 (by decide +kernel), rfl, rfl⟩
theorem fl_X6_33 : FL RX6 33 7 6 false .int := ⟨RX7, TX7, 8, tyX7, clX7, by decide, tin2 7 (by decide +kernel), rfl, rfl⟩
theorem fl_X6_49 : FL RX6 49 6 5 false .int := ⟨RX6, TX6, 8, tyX6, clX6, by decide, tin1 47 (by decide +kernel), rfl, rfl⟩
theorem fl_X7_9 : FL RX7 9 7 0 true .int := ⟨RX7, TX7, 8, tyX7, clX7, by decide, tin1 239 (by decide +kernel), rfl, rfl⟩
theorem fl_X7_15 : FL RX7 15 7 1 true .int := ⟨RX7, TX7, 8, tyX7, clX7, by decide, tin2 0 (by decide +kernel), rfl, rfl⟩
theorem fl_X7_18 : FL RX7 18 7 2 true .int := ⟨RX7, TX7, 8, tyX7, clX7, by decide, tin2 1 (by decide +kernel), rfl, rfl⟩
theorem fl_X7_21 : FL RX7 21 7 3 true (.array .int) := ⟨RX7, TX7, 8, tyX7, clX7, by decide, tin2 2 (by decide +kernel), rfl, rfl⟩
theorem fl_X7_25 : FL RX7 25 7 4 true (.array .int) := ⟨RX7, TX7, 8, tyX7, clX7, by decide, tin2 3 (by decide +kernel), rfl, rfl⟩
theorem fl_X7_28 : FL RX7 28 7 7 false .int := ⟨RX7, TX7, 8, tyX7, clX7, by decide, tin2 9 (by decide +kernel), rfl, rfl⟩
theorem fl_X7_31 : FL RX7 31 7 5 false .int := ⟨RX7, TX7, 8, tyX7, clX7, by decide, tin2 4 (by decide +kernel), rfl, rfl⟩
theorem fl_X7_38 : FL RX7 38 7 6 false .int := ⟨RX7, TX7, 8, tyX7, clX7, by decide, tin2 8 (by decide +kernel), rfl, rfl⟩
theorem fl_X9_7 : FL RX9 7 9 0 true (.array .int) := ⟨RX9, TX9, 28, tyX9, clX9, by decide, tin5 4 (by decide +kernel), rfl, rfl⟩
theorem fl_X9_13 : FL RX9 13 9 1 true (.array .int) := ⟨RX9, TX9, 28, tyX9, clX9, by decide, tin5 5 (by decide +kernel), rfl, rfl⟩
theorem fl_X9_16 : FL RX9 16 9 2 true (.array .int) := ⟨RX9, TX9, 28, tyX9, clX9, by decide, tin5 6 (by decide +kernel), rfl, rfl⟩
theorem fl_X9_19 : FL RX9 19 9 3 true (.array .int) := ⟨RX9, TX9, 28, tyX9, clX9, by decide, tin5 7 (by decide +kernel), rfl, rfl⟩
theorem fl_X9_22 : FL RX9 22 9 5 true (.array .int) := ⟨RX9, TX9, 28, tyX9, clX9, by decide, tin5 9 (by decide +kernel), rfl, rfl⟩
theorem fl_X9_25 : FL RX9 25 9 6 true (.array .int) := ⟨RX9, TX9, 28, tyX9, clX9, by decide, tin5 10 (by decide +kernel), rfl, rfl⟩
theorem fl_X9_28 : FL RX9 28 9 7 true (.array .int) := ⟨RX9, TX9, 28, tyX9, clX9, by decide, tin5 11 (by decide +kernel), rfl, rfl⟩
theorem fl_X9_31 : FL RX9 31 9 9 true (.array .int) := ⟨RX9, TX9, 28, tyX9, clX9, by decide, tin5 13 (by decide +kernel), rfl, rfl⟩
theorem fl_X9_34 : FL RX9 34 9 11 true (.array .int) := ⟨RX9, TX9, 28, tyX9, clX9, by decide, tin5 15 (by decide +kernel), rfl, rfl⟩
theorem fl_X9_37 : FL RX9 37 9 12 true (.array .int) := ⟨RX9, TX9, 28, tyX9, clX9, by decide, tin5 16 (by decide +kernel), rfl, rfl⟩
theorem fl_X9_40 : FL RX9 40 9 14 true (.array .int) := ⟨RX9, TX9, 28, tyX9, clX9, by decide, tin5 18 (by decide +kernel), rfl, rfl⟩
theorem fl_X9_43 : FL RX9 43 9 16 true (.array .int) := ⟨RX9, TX9, 28, tyX9, clX9, by decide, tin5 20 (by decide +kernel), rfl, rfl⟩
theorem fl_X9_46 : FL RX9 46 9 17 true (.array .int) := ⟨RX9, TX9, 28, tyX9, clX9, by decide, tin5 21 (by decide +kernel), rfl, rfl⟩
theorem fl_X9_49 : FL RX9 49 9 18 true (.array .int) := ⟨RX9, TX9, 28, tyX9, clX9, by decide, tin5 22 (by decide +kernel), rfl, rfl⟩
theorem fl_X9_52 : FL RX9 52 9 19 true (.array .int) := ⟨RX9, TX9, 28, tyX9, clX9, by decide, tin5 23 (by decide +kernel), rfl, rfl⟩
theorem fl_X9_55 : FL RX9 55 9 20 true (.array .int) := ⟨RX9, TX9, 28, tyX9, clX9, by decide, tin5 24 (by decide +kernel), rfl, rfl⟩
theorem fl_X9_58 : FL RX9 58 9 21 true (.array .int) := ⟨RX9, TX9, 28, tyX9, clX9, by decide, tin5 25 (by decide +kernel), rfl, rfl⟩
theorem fl_X9_61 : FL RX9 61 9 22 true (.array .int) := ⟨RX9, TX9, 28, tyX9, clX9, by decide, tin5 26 (by decide +kernel), rfl, rfl⟩
theorem fl_X9_64 : FL RX9 64 9 23 true (.array .int) := ⟨RX9, TX9, 28, tyX9, clX9, by decide, tin5 27 (by decide +kernel), rfl, rfl⟩
theorem fl_X9_67 : FL RX9 67 9 25 true (.array .int) := ⟨RX9, TX9, 28, tyX9, clX9, by decide, tin5 29 (by decide +kernel), rfl, rfl⟩
theorem fl_X9_70 : FL RX9 70 9 26 true (.array .int) := ⟨RX9, TX9, 28, tyX9, clX9, by decide, tin5 30 (by decide +kernel), rfl, rfl⟩
theorem fl_X9_79 : FL RX9 79 9 4 false .int := ⟨RX9, TX9, 28, tyX9, clX9, by decide, tin5 8 (by decide +kernel), rfl, rfl⟩
theorem fl_X9_123 : FL RX9 123 9 8 false .int := ⟨RX9, TX9, 28, tyX9, clX9, by decide, tin5 12 (by decide +kernel), rfl, rfl⟩
theorem fl_X9_132 : FL RX9 132 9 10 false .int := ⟨RX9, TX9, 28, tyX9, clX9, by decide, tin5 14 (by decide +kernel), rfl, rfl⟩
theorem fl_X9_172 : FL RX9 172 9 13 false .int := ⟨RX9, TX9, 28, tyX9, clX9, by decide, tin5 17 (by decide +kernel), rfl, rfl⟩
theorem fl_X9_177 : FL RX9 177 9 15 false .int := ⟨RX9, TX9, 28, tyX9, clX9, by decide, tin5 19 (by decide +kernel), rfl, rfl⟩
theorem fl_X9_256 : FL RX9 256 9 24 false .int := ⟨RX9, TX9, 28, tyX9, clX9, by decide, tin5 28 (by decide +kernel), rfl, rfl⟩
theorem fl_X9_299 : FL RX9 299 9 27 false .int := ⟨RX9, TX9, 28, tyX9, clX9, by decide, tin5 31 (by decide +kernel), rfl, rfl⟩
