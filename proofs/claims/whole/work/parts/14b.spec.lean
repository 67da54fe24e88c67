/-! a packet of IPv4 as it stands in the octets g from a on -/
def hl4 (g : Nat → Nat) (a : Nat) : Nat := g a % 16 * 4
def tl4 (g : Nat → Nat) (a : Nat) : Nat := wd8 g (a + 2)
def fl4 (g : Nat → Nat) (a : Nat) : Nat := wd8 g (a + 6)
def of4 (g : Nat → Nat) (a : Nat) : Nat := fl4 g a % 8192
def mf4 (g : Nat → Nat) (a : Nat) : Prop := fl4 g a / 8192 % 2 = 1
def df4 (g : Nat → Nat) (a : Nat) : Prop := fl4 g a / 16384 % 2 = 1
def fg4 (g : Nat → Nat) (a : Nat) : Prop := mf4 g a ∨ of4 g a ≠ 0
def sr4 (g : Nat → Nat) (a : Nat) : Nat := num8 g (a + 12) 4
def tg4 (g : Nat → Nat) (a : Nat) : Nat := num8 g (a + 16) 4
def rd4 (g : Nat → Nat) (a e : Nat) : Prop := a + 20 ≤ e ∧ a + hl4 g a ≤ e ∧ g a / 16 = 4 ∧ 20 ≤ hl4 g a ∧ hl4 g a ≤ tl4 g a
/-- what of its payload is there -/
def th4 (g : Nat → Nat) (a e : Nat) : Nat := (if a + tl4 g a < e then a + tl4 g a else e) - (a + hl4 g a)
theorem hl4_le {g : Nat → Nat} (a : Nat) : hl4 g a ≤ 60 := by unfold hl4; omega
/-- options: 0 malformed, 1 good, 2 good and a route to be gone -/
def op4 (g : Nat → Nat) (e : Nat) : Nat → Nat → Bool → Nat
  | 0, _, r => if r then 2 else 1
  | f + 1, i, r => if e ≤ i ∨ g i = 0 then (if r then 2 else 1) else if g i = 1 then op4 g e f (i + 1) r else if e ≤ i + 1 ∨ g (i + 1) < 2 ∨ e < i + g (i + 1) then 0 else op4 g e f (i + g (i + 1)) (r || decide ((g i = 131 ∨ g i = 137) ∧ 3 ≤ g (i + 1) ∧ g (i + 2) ≤ g (i + 1)))
def opr (g : Nat → Nat) : Nat := op4 g (hl4 g 0) (hl4 g 0) 20 false
def form4 (g : Nat → Nat) (n : Nat) : Prop := rd4 g 0 n ∧ tl4 g 0 ≤ n ∧ fo (sm8 g 0 (hl4 g 0)) = 65535 ∧ opr g ≠ 0 ∧ of4 g 0 * 8 + (tl4 g 0 - hl4 g 0) ≤ 65535
/-- a row of the class that tells of it -/
def pk4 (r : Nat → Int32) (l : Nat → Int64) (g : Nat → Nat) (a e : Nat) : Prop :=
  r 0 = nI a ∧ r 1 = nI (g (a + 1)) ∧ r 2 = nI (g (a + 8)) ∧ r 3 = nI (g (a + 9)) ∧ r 4 = nI (wd8 g (a + 4)) ∧ r 5 = bI (mf4 g a) ∧ r 6 = nI (of4 g a) ∧ r 7 = nI (a + hl4 g a) ∧ r 8 = nI (tl4 g a - hl4 g a) ∧ r 9 = nI (th4 g a e) ∧ r 10 = nI (sr4 g a) ∧ r 11 = nI (tg4 g a) ∧ r 14 = nI (hl4 g a) ∧ r 15 = nI (tl4 g a) ∧ r 16 = bI (df4 g a) ∧ l 12 = lN (sm8 g (a + 12) 8)
