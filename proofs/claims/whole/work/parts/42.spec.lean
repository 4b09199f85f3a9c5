/-! ===== the picture: texts, events, ticks ===== -/
/-- some k < n has p -/
def anyb (p : Nat → Bool) : Nat → Bool
  | 0 => false
  | n + 1 => anyb p n || p n
theorem anyb_iff {p : Nat → Bool} : ∀ {n : Nat}, anyb p n = true ↔ ∃ k, k < n ∧ p k = true
  | 0 => ⟨fun h => by simp [anyb] at h, fun ⟨k, h, _⟩ => absurd h (Nat.not_lt_zero k)⟩
  | n + 1 => by
    rw [anyb, Bool.or_eq_true, anyb_iff]
    constructor
    · rintro (⟨k, h1, h2⟩ | h)
      · exact ⟨k, by omega, h2⟩
      · exact ⟨n, by omega, h⟩
    · rintro ⟨k, h1, h2⟩
      by_cases e : k = n
      · subst e; exact Or.inr h2
      · exact Or.inl ⟨k, by omega, h2⟩
theorem anyb_cong {p q : Nat → Bool} : ∀ {n : Nat}, (∀ k, k < n → p k = q k) → anyb p n = anyb q n
  | 0, _ => rfl
  | n + 1, h => by rw [anyb, anyb, anyb_cong (fun k hk => h k (by omega)), h n (by omega)]
/-- the last k < n with p, and one more; 0: none -/
def lastk (p : Nat → Bool) : Nat → Nat
  | 0 => 0
  | n + 1 => if p n then n + 1 else lastk p n
theorem lastk_le (p : Nat → Bool) : ∀ n, lastk p n ≤ n
  | 0 => Nat.le_refl 0
  | n + 1 => by
    have := lastk_le p n
    unfold lastk
    split <;> omega
theorem lastk_cong {p q : Nat → Bool} : ∀ {n : Nat}, (∀ k, k < n → p k = q k) → lastk p n = lastk q n
  | 0, _ => rfl
  | n + 1, h => by rw [lastk, lastk, lastk_cong (fun k hk => h k (by omega)), h n (by omega)]
theorem lastk_yes {p : Nat → Bool} : ∀ {n k : Nat}, lastk p n = k + 1 → k < n ∧ p k = true
  | 0, k, h => by simp [lastk] at h
  | n + 1, k, h => by
    unfold lastk at h
    split at h
    · rename_i hp
      have : k = n := by omega
      subst this
      exact ⟨by omega, hp⟩
    · have := lastk_yes h
      exact ⟨by omega, this.2⟩
theorem lastk_no {p : Nat → Bool} : ∀ {n : Nat}, lastk p n = 0 → ∀ k, k < n → p k = false
  | 0, _, k, hk => absurd hk (Nat.not_lt_zero k)
  | n + 1, h, k, hk => by
    unfold lastk at h
    split at h
    · omega
    · rename_i hp
      by_cases e : k = n
      · subst e; simpa using hp
      · exact lastk_no h k (by omega)
/-- the one with p, where there is one alone -/
theorem lastk_one {p : Nat → Bool} {n k : Nat} (hk : k < n) (hp : p k = true) (h1 : ∀ j, j < n → p j = true → j = k) : lastk p n = k + 1 := by
  rcases h : lastk p n with _ | j
  · exact absurd hp (by rw [lastk_no h k hk]; decide)
  · have := lastk_yes h
    rw [h1 j this.1 this.2]
def up (f : Nat → Nat) (k v : Nat) : Nat → Nat := fun j => if j = k then v else f j
theorem up_s (f : Nat → Nat) (k v : Nat) : up f k v k = v := if_pos rfl
theorem up_n {f : Nat → Nat} {k v j : Nat} (h : j ≠ k) : up f k v j = f j := if_neg h
-- texts
def wd (t : Nat) : Nat := if t = 0 then 2 else if t = 1 then 4 else 3
def lim (t : Nat) : Nat := if t = 0 then 8 else if t = 1 then 59 else 47
def fig (b lo hi : Nat) : Nat := if lo ≤ b ∧ b ≤ hi then b - lo + 1 else 0
/-- a sign's place among those that may stand there, and one more; 0: none of them -/
def sg (t s b : Nat) : Nat :=
  if t = 0 then (if s = 0 then (if b = 114 then 1 else if b = 108 then 2 else 0) else fig b 48 51)
  else if t = 1 then (if s = 0 then fig b 48 50 else if s = 1 then fig b 97 108 else if s = 2 then (if b = 116 then 1 else if b = 104 then 2 else if b = 103 then 3 else 0) else fig b 49 57)
  else (if s = 0 then fig b 97 120 else if s = 1 then fig b 48 50 else fig b 48 53)
def vl (B : Nat → Nat) (t i s : Nat) : Nat := sg t s (B (i * (wd t + 1) + s)) - 1
def tk (B : Nat → Nat) (i : Nat) : Bool := anyb (fun j => vl B 1 j 0 == vl B 1 i 0 && vl B 1 j 1 == vl B 1 i 1) i
def bad (B : Nat → Nat) (t p : Nat) : Bool :=
  if p % (wd t + 1) = wd t then B p != 59 else (sg t (p % (wd t + 1)) (B p) == 0 || (t == 1 && p % (wd t + 1) == 1 && tk B (p / (wd t + 1))))
def ft (B : Nat → Nat) (t n : Nat) : Nat := fa_first (bad B t) n
def well (B : Nat → Nat) (t n : Nat) : Bool := ft B t n == n && (n == 0 || n % (wd t + 1) == wd t)
def its (B : Nat → Nat) (t n : Nat) : Nat := if well B t n then (n + 1) / (wd t + 1) else 0
def fltI (B : Nat → Nat) (t n : Nat) : Int32 := if well B t n then -1 else nI (ft B t n)
def spI (B : Nat → Nat) (n c : Nat) : Int32 := if c < its B 0 n then (if vl B 0 c 0 = 0 then nI (vl B 0 c 1) else -(nI (vl B 0 c 1))) else 1
-- a game: ducks, shots, rifle, events, those of them that are
/-- (ducks, D k 0 .. 3), (speeds), (shots, S i 0 .. 2), (pull, flight), (events, E e 0 .. 2), which are -/
abbrev Gm : Type := (Nat × (Nat → Nat → Nat)) × (Nat → Int32) × (Nat × (Nat → Nat → Nat)) × (Nat × Nat) × (Nat × (Nat → Nat → Nat)) × (Nat → Bool)
def nd (g : Gm) : Nat := g.1.1
def gD (g : Gm) : Nat → Nat → Nat := g.1.2
def gsp (g : Gm) : Nat → Int32 := g.2.1
def ns (g : Gm) : Nat := g.2.2.1.1
def gS (g : Gm) : Nat → Nat → Nat := g.2.2.1.2
def gpu (g : Gm) : Nat := g.2.2.2.1.1
def gfl (g : Gm) : Nat := g.2.2.2.1.2
def gne (g : Gm) : Nat := g.2.2.2.2.1.1
def gE (g : Gm) : Nat → Nat → Nat := g.2.2.2.2.1.2
def gch (g : Gm) : Nat → Bool := g.2.2.2.2.2
/-- what a game must be -/
def Gok (g : Gm) : Prop :=
  nd g ≤ 12 ∧ (∀ k, k < nd g → gD g k 0 < 3 ∧ gD g k 1 < 12 ∧ gD g k 2 < 3 ∧ gD g k 3 ≤ 9) ∧ (∀ j k, j < nd g → k < nd g → gD g j 0 = gD g k 0 → gD g j 1 = gD g k 1 → j = k) ∧
  (∀ c, c < 3 → ∃ v, v ≤ 3 ∧ (gsp g c = nI v ∨ gsp g c = -(nI v))) ∧ ns g ≤ 12 ∧ (∀ i, i < ns g → gS g i 0 < 24 ∧ gS g i 1 < 3 ∧ gS g i 2 < 6) ∧ gpu g < 5 ∧ gfl g < 4 ∧ gne g ≤ 8 ∧
  (∀ e, e < gne g → gE g e 0 < 3 ∧ gE g e 1 < 24 ∧ gE g e 2 < 12)
def hasE (g : Gm) (kind t num : Nat) : Bool := anyb (fun e => gch g e && gE g e 0 == kind && gE g e 1 == t && gE g e 2 == num) (gne g)
def drg (g : Gm) (t : Nat) : Nat := if anyb (fun e => gch g e && gE g e 0 == 1 && gE g e 1 == t) (gne g) then 1 else 0
def spN (x : Int32) : Nat := ((x.toInt + 12) % 12).toNat
/-- how far a chain has gone behind T ticks -/
def gnb (g : Gm) : Nat → Nat → Nat
  | 0, _ => 0
  | t + 1, c => (gnb g t c + if hasE g 0 t c then 0 else spN (gsp g c)) % 12
def pl (g : Gm) (T k : Nat) : Nat := (gD g k 1 + gnb g T (gD g k 0)) % 12
/-- of each duck 0, 1, 2; how often it was hit; of each shot whom it hit first, and one more; what it brought -/
abbrev Sx : Type := (Nat → Nat) × (Nat → Nat) × (Nat → Nat) × (Nat → Nat)
def turn (g : Gm) (t : Nat) (x : Sx) : Sx := (fun k => if 5 < pl g (t + 1) k ∨ hasE g 2 t k = true then 0 else x.1 k, x.2)
def who (g : Gm) (T c col : Nat) : Nat := lastk (fun k => gD g k 0 == c && pl g T k == col) (nd g)
def nst (g : Gm) (k : Nat) (x : Sx) : Nat := if gD g k 2 = 1 ∧ x.1 k = 0 then 1 else 2
def strk (g : Gm) (i k : Nat) (x : Sx) : Sx :=
  (up x.1 k (nst g k x), up x.2.1 k (x.2.1 k + 1), up x.2.2.1 i (if x.2.2.1 i = 0 then k + 1 else x.2.2.1 i), up x.2.2.2 i (x.2.2.2 i + if nst g k x = 2 then gD g k 3 else 0))
def gos (g : Gm) (T i col : Nat) : Nat → Nat → Sx → Sx
  | 0, _, x => x
  | f + 1, c, x => if who g T c col = 0 then x else if x.1 (who g T c col - 1) = 2 then x else if gD g (who g T c col - 1) 2 = 2 then gos g T i col f (c + 1) (strk g i (who g T c col - 1) x) else strk g i (who g T c col - 1) x
def colq (g : Gm) (t i : Nat) : Nat := gS g i 2 + gpu g + drg g t
def shoot (g : Gm) (t i : Nat) (x : Sx) : Sx := if 2 ≤ colq g t i ∧ colq g t i ≤ 7 then gos g (t + 1) i (colq g t i - 2) (3 - gS g i 1) (gS g i 1) x else x
def shots (g : Gm) (t : Nat) : Nat → Sx → Sx
  | 0, x => x
  | n + 1, x => if gS g n 0 + gfl g = t then shoot g t n (shots g t n x) else shots g t n x
def sim (g : Gm) : Nat → Sx
  | 0 => (fun _ => 0, fun _ => 0, fun _ => 0, fun _ => 0)
  | t + 1 => shots g t (ns g) (turn g t (sim g t))
def gst (g : Gm) (T k : Nat) : Nat := (sim g T).1 k
def ghi (g : Gm) (T k : Nat) : Nat := (sim g T).2.1 k
def gfi (g : Gm) (i : Nat) : Nat := (sim g 24).2.2.1 i
def gbr (g : Gm) (i : Nat) : Nat := (sim g 24).2.2.2 i
def gscore (g : Gm) : Nat := fb_sm (gbr g) (ns g)
def gmany (g : Gm) : Nat := fb_ct (fun i => gfi g i != 0) (ns g)
