def kdL : List Nat := [8, 13, 6, 10, 10, 10, 10, 10, 10, 10, 1, 10, 10, 10, 10, 0, 10, 10, 10, 0, 10, 10, 10, 2, 5, 10, 10, 10, 10, 10, 10, 11, 10, 10, 10, 2, 5, 10, 10, 10, 10, 10, 10, 11, 10, 10, 10, 3, 10, 10, 10, 12, 10, 10, 7, 10, 10, 7, 10, 10, 7, 10, 10, 4, 10, 4, 10, 4, 10, 4, 10, 9, 10, 10, 10, 10, 10, 10, 10, 10, 10, 10, 10, 10, 10, 10, 10, 10, 10, 10, 10, 10, 10]
def lnL : List Nat := [16, 3, 8, 3, 12, 12, 12, 12, 36, 36, 5, 8, 8, 8, 24, 5, 72, 24, 24, 5, 72, 24, 24, 17, 4, 12, 12, 12, 12, 24, 24, 24, 12, 12, 24, 17, 4, 12, 12, 12, 12, 24, 24, 24, 12, 12, 24, 4, 8, 8, 8, 4, 108, 120, 8, 8, 6, 8, 59, 48, 8, 47, 36, 4, 60, 4, 60, 4, 60, 4, 60, 28, 4, 4, 240, 60, 180, 3, 3, 48, 36, 2, 24, 12, 12, 12, 12, 12, 288, 288, 288, 24, 120]
def rtL : List (List Nat) := [[1, 2, 10, 15, 19, 23, 35, 47, 51, 0, 0, 52, 53], [54, 57, 60], [3, 4, 5, 6, 7, 0, 8, 9], [], [], [], [], [], [], [], [11, 12, 13, 14], [], [], [], [], [2, 10, 16, 17, 18], [], [], [], [2, 10, 20, 21, 22], [], [], [], [2, 24, 28, 0, 0, 0, 29, 30, 31, 32, 33, 0, 0, 34], [25, 26, 27], [], [], [], [], [], [], [], [], [], [], [2, 36, 40, 0, 0, 0, 41, 42, 43, 44, 45, 0, 0, 46], [37, 38, 39], [], [], [], [], [], [], [], [], [], [], [48, 49, 50], [], [], [], [63, 65, 67, 69], [], [], [0, 0, 0, 55, 56], [], [], [0, 0, 0, 58, 59], [], [], [0, 0, 0, 61, 62], [], [], [64], [], [66], [], [68], [], [70], [], [72, 73, 74, 75, 0, 76, 77, 78, 0, 79, 0, 80, 81, 0, 82, 0, 83, 84, 85, 86, 87, 88, 89, 90, 0, 91, 92], [], [], [], [], [], [], [], [], [], [], [], [], [], [], [], [], [], [], [], [], []]
def fkL : List (List Nat) := [[2, 2, 2, 2, 2], [2, 2, 2, 2, 0], [2, 2, 2, 0, 0, 3, 2, 2, 2, 2, 2, 0, 0, 2, 0, 0, 1], [2, 2, 2, 0], [2, 0, 0, 0], [2, 2, 2, 0], [2, 2, 2, 2, 2, 0, 2, 2], [0, 0, 0, 2, 2, 0, 0, 0], [2, 2, 2, 2, 2, 2, 2, 2, 2, 0, 0, 2, 2, 0, 0, 0], [2, 2, 2, 2, 0, 2, 2, 2, 0, 2, 0, 2, 2, 0, 2, 0, 2, 2, 2, 2, 2, 2, 2, 2, 0, 2, 2, 0]]
/-- what a cell is: 0 .. 9 an object of that class, 10 ints, 11 longs, 12 rows of Sheets, 13 of Texts -/
def kd (k : Nat) : Nat := kdL.getD k 99
/-- how many fields or elements -/
def ln (k : Nat) : Nat := lnL.getD k 0
/-- the cell that a place refers to, once and for all -/
def rt (k j : Nat) : Nat := (rtL.getD k []).getD j 0
/-- what a field of a class holds: 0 an int, 1 a long, 2 a reference that stays, 3 one that changes -/
def fk (c j : Nat) : Nat := (fkL.getD c []).getD j 0
def iln (a : Nat) : Nat := if kd a = 10 then ln a else 0
def lln (a : Nat) : Nat := if kd a = 11 then ln a else 0
def rln (a : Nat) : Nat := if kd a = 12 then ln a else if kd a = 13 then ln a else 0
/-- the world's contents: ints, longs, references that change, by cell and place -/
abbrev Hp : Type := (Nat → Nat → Int32) × (Nat → Nat → Int64) × (Nat → Nat → Nat)
def up2 {α : Type} (f : Nat → Nat → α) (k j : Nat) (v : α) : Nat → Nat → α := fun a b => if a = k then (if b = j then v else f a b) else f a b
def wI (σ : Hp) (k j : Nat) (v : Int32) : Hp := (up2 σ.1 k j v, σ.2)
def wL (σ : Hp) (k j : Nat) (v : Int64) : Hp := (σ.1, up2 σ.2.1 k j v, σ.2.2)
def wN (σ : Hp) (k j : Nat) (v : Nat) : Hp := (σ.1, σ.2.1, up2 σ.2.2 k j v)
def wR (σ : Hp) (k : Nat) (f : Nat → Int32) : Hp := (fun a => if a = k then f else σ.1 a, σ.2)
/-- where the world lies: addresses, classes, the rows' classes -/
abbrev GT : Type := (Nat → Nat) × va_G × (Nat → ClassId)
def fv (G : GT) (σ : Hp) (k j : Nat) : Value := if fk (kd k) j = 0 then .int (σ.1 k j) else if fk (kd k) j = 1 then .long (σ.2.1 k j) else if fk (kd k) j = 2 then .ref (G.1 (rt k j)) else .ref (G.1 (σ.2.2 k j))
def ce (G : GT) (σ : Hp) (k : Nat) : va_E :=
  if kd k < 10 then .inr (kd k, (List.range (ln k)).map (fv G σ k))
  else if kd k = 10 then .inl (G.2.2 0, ln k, .inl (σ.1 k))
  else if kd k = 11 then .inl (G.2.2 1, ln k, .inr (.inl (σ.2.1 k)))
  else if kd k = 12 then .inl (G.2.2 2, ln k, .inr (.inr (.inr (.inr (fun j => some (G.1 (rt k j)))))))
  else .inl (G.2.2 3, ln k, .inr (.inr (.inr (.inr (fun j => some (G.1 (rt k j)))))))
def wl (G : GT) (σ : Hp) : va_W := (List.range 93).map (fun k => (G.1 k, ce G σ k))
abbrev tys (G : GT) : List (ClassId × FieldType) := [(G.2.2 0, .int), (G.2.2 1, .long), (G.2.2 2, .object RX4), (G.2.2 3, .object RX7)]
def AA (G : GT) : Nat → Prop := fun q => ∃ k, k < 93 ∧ q = G.1 k
def GOK (G : GT) : Prop := ∀ i j : Nat, i < 93 → j < 93 → G.1 i = G.1 j → i = j
theorem kd_lt {k : Nat} (h : kd k ≠ 99) : k < 93 := by
  rcases Nat.lt_or_ge k 93 with q | q
  · exact q
  · exact absurd (by
      show kdL.getD k 99 = 99
      rw [List.getD_eq_getElem?_getD, List.getElem?_eq_none (by exact q)]; rfl) h
theorem shp_ok : ∀ k, k < 93 → kd k < 10 → (vwCl[kd k]?).map (fun r => r.2.2) = some (ln k) := by decide +kernel
theorem wl_get {G : GT} {σ : Hp} {k : Nat} (h : k < 93) : (wl G σ)[k]? = some (G.1 k, ce G σ k) := by
  simp [wl, h]
theorem wl_set {G : GT} {σ σ' : Hp} {k : Nat} {e' : va_E} (h1 : ce G σ' k = e') (h2 : ∀ j, j ≠ k → ce G σ' j = ce G σ j) : (wl G σ).set k (G.1 k, e') = wl G σ' := by
  apply List.ext_getElem?
  intro i
  by_cases hik : i = k
  · subst hik
    by_cases hk : i < 93
    · rw [List.getElem?_set_self (by simp [wl, hk]), wl_get hk, h1]
    · rw [List.getElem?_eq_none (by simp [wl]; omega), List.getElem?_eq_none (by simp [wl]; omega)]
  · rw [List.getElem?_set_ne (fun h => hik h.symm)]
    by_cases hi : i < 93
    · rw [wl_get hi, wl_get hi, h2 i hik]
    · rw [List.getElem?_eq_none (by simp [wl]; omega), List.getElem?_eq_none (by simp [wl]; omega)]
theorem wl_D {G : GT} {σ : Hp} (h : GOK G) : va_D (AA G) (wl G σ) := by
  have key : ∀ (i : Nat) (p : Nat × va_E), (wl G σ)[i]? = some p → i < 93 ∧ p.1 = G.1 i := by
    intro i p hp
    by_cases hi : i < 93
    · rw [wl_get hi] at hp
      cases hp
      exact ⟨hi, rfl⟩
    · rw [List.getElem?_eq_none (by simp [wl]; omega)] at hp
      cases hp
  refine ⟨fun i j p q hi hj e => ?_, fun k q hk => ?_⟩
  · obtain ⟨a1, a2⟩ := key i p hi
    obtain ⟨b1, b2⟩ := key j q hj
    exact h i j a1 b1 (by rw [← a2, ← b2]; exact e)
  · obtain ⟨a1, a2⟩ := key k q hk
    exact ⟨k, a1, a2⟩
theorem ce_congr {G : GT} {σ σ' : Hp} {k : Nat} (h1 : σ'.1 k = σ.1 k) (h2 : σ'.2.1 k = σ.2.1 k) (h3 : σ'.2.2 k = σ.2.2 k) : ce G σ' k = ce G σ k := by
  have h : fv G σ' k = fv G σ k := by
    funext j
    simp only [fv, h1, h2, h3]
  simp only [ce, h, h1, h2]
theorem up2_row {α : Type} (f : Nat → Nat → α) (k j : Nat) (v : α) : up2 f k j v k = fun b => if b = j then v else f k b := by
  funext b
  simp [up2]
theorem up2_ne {α : Type} (f : Nat → Nat → α) {k a : Nat} (j : Nat) (v : α) (h : a ≠ k) : up2 f k j v a = f a := by
  funext b
  simp [up2, h]
/-- the tables hold -/
def TBl (U : State) : Prop := ∀ w ∈ tb, w.before #[] U = true
theorem tb_on {w : Cond} (h : w ∈ tb) : w.onTables = true := by
  have h2 := (List.mem_filter.mp h).2
  simp only [okW, Bool.and_eq_true] at h2
  exact h2.1
theorem TBl.use {U : State} (h : TBl U) {args : Array Value} {w : Cond} (hw : w ∈ tb) : w.before args U = true := va_Nw.use (tb_on hw) (h w hw)
theorem TBl.same {u U : State} (h : u.vm = U.vm) (hZ : TBl u) : TBl U := fun w hw => va_Nw.same (tb_on hw) h (hZ w hw)
theorem nestW {w : Cond} (h : isNestW w = true) : ∃ a i x q, w = .methodLinkNest a i x q := by
  cases w <;> first | exact ⟨_, _, _, _, rfl⟩ | (simp [isNestW] at h)
theorem TBl.warm {s U : State} (hW : s.WarmedH U.vm) (hZ : TBl s) : TBl U := by
  intro w hw
  have h2 := (List.mem_filter.mp hw).2
  have hb := hZ w hw
  simp only [okW, Bool.and_eq_true, Bool.or_eq_true] at h2
  rcases h2.2 with h | h
  · exact word_at hW (Or.inl (by rw [h2.1, h]; rfl)) hb
  · obtain ⟨a, i, x, q, rfl⟩ := nestW h
    exact va_Nw.warmM hW hb

