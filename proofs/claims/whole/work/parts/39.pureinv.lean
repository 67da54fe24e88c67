theorem pure_inv (LL : Nat) (xs : Nat → Int32) (hL : LL ≤ 3072) : ∃ Inv : Nat → cM → cL → cM → cL → (Nat → Int64) → Prop, Inv 0 cpM0 cpL0 rpM0 rpL0 (fun _ => 0) ∧ ∀ (j : Nat) (M : cM) (L : cL) (N : cM) (K : cL) (f : Nat → Int64), 6 * j + 6 ≤ LL → Inv j M L N K f → wp_turn LL xs (nI (6 * j)) M L N K f (Inv (j + 1)) := by
  sorry
