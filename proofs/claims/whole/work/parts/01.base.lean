abbrev cM : Type := Nat → Nat → Int32
abbrev cL : Type := Nat → Nat → Int64
/-- one number of one cell is written -/
def mu (M : cM) (c k : Nat) (v : Int32) : cM := fun c' => if c' = c then (fun k' => if k' = k then v else M c k') else M c'
def ml (L : cL) (c k : Nat) (v : Int64) : cL := fun c' => if c' = c then (fun k' => if k' = k then v else L c k') else L c'
/-- a whole row is written anew -/
def ms (M : cM) (c : Nat) (f : Nat → Int32) : cM := fun c' => if c' = c then f else M c'
/-- a boolean, as the machine holds it -/
def isB (v : Int32) : Prop := narrow .boolean (.int v) = .int v ∧ fits .boolean (.int v) = true
theorem isB_0 : isB 0 := ⟨by decide +kernel, by decide +kernel⟩
theorem isB_1 : isB 1 := ⟨by decide +kernel, by decide +kernel⟩
def cpTab0 : List Int32 := [256, 256, 1025, 260, 512, 256, 256, 256, 256, 257, 257, 256, 256, 257, (-1), 257]
def cpTab1 : List Int32 := [0, 1, 4, 4, (-1), (-1), (-1), (-1), 7, 6, (-1), (-1), 8, 8, 8, 8, 24, 24, 24, 24]
def cpTab2 : List Int32 := [65535, 32000, 17914, 8166, 4352, 2002, 1492, 1006, 508, 296]
def cpTab3 : List Int32 := [769, 778, 769, 769, 771]
def cpTab4 : List Int32 := [0, 1, (-1), (-1), 2, 2, 9, 8, 12, 12, 12, 12, 12, 12, 12, 12, 12, 12, 12, 12, 12, 12, 12, 12, 16, 16, 16, 16, 16, 16, 16, 16, 16, 16, 16, 16, 16, 16, 16, 16]
