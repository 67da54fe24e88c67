theorem qe {x : Int32} {A B : Prop} (a b : Nat) (f : a = (@OfNat.ofNat Nat b (instOfNatNat b)) → A) (g : a ≠ (@OfNat.ofNat Nat b (instOfNatNat b)) → B) (hx : x = nI a) (ha : a < 2 ^ 31) (hb : (@OfNat.ofNat Nat b (instOfNatNat b)) < 2 ^ 31) : (x = (@OfNat.ofNat Int32 b Int32.instOfNat) → A) ∧ (¬ x = (@OfNat.ofNat Int32 b Int32.instOfNat) → B) := by
  subst hx
  have e : (nI a = (@OfNat.ofNat Int32 b Int32.instOfNat)) ↔ (a = (@OfNat.ofNat Nat b (instOfNatNat b))) := (nI_eq ha hb)
  exact ⟨fun z => f (e.mp z), fun z => g (by have h2 : ¬ (a = (@OfNat.ofNat Nat b (instOfNatNat b))) := fun w => z (e.mpr w); exact h2)⟩
theorem qen {x : Int32} {A B : Prop} (a b : Nat) (f : a = (@OfNat.ofNat Nat b (instOfNatNat b)) → A) (g : a ≠ (@OfNat.ofNat Nat b (instOfNatNat b)) → B) (hx : x = nI a) (ha : a < 2 ^ 31) (hb : (@OfNat.ofNat Nat b (instOfNatNat b)) < 2 ^ 31) : (¬ x = (@OfNat.ofNat Int32 b Int32.instOfNat) → B) ∧ (x = (@OfNat.ofNat Int32 b Int32.instOfNat) → A) :=
  ⟨(qe a b f g hx ha hb).2, (qe a b f g hx ha hb).1⟩
theorem ql {x : Int32} {A B : Prop} (a b : Nat) (f : a ≤ (@OfNat.ofNat Nat b (instOfNatNat b)) → A) (g : (@OfNat.ofNat Nat b (instOfNatNat b)) < a → B) (hx : x = nI a) (ha : a < 2 ^ 31) (hb : (@OfNat.ofNat Nat b (instOfNatNat b)) < 2 ^ 31) : (x ≤ (@OfNat.ofNat Int32 b Int32.instOfNat) → A) ∧ (¬ x ≤ (@OfNat.ofNat Int32 b Int32.instOfNat) → B) := by
  subst hx
  have e : (nI a ≤ (@OfNat.ofNat Int32 b Int32.instOfNat)) ↔ (a ≤ (@OfNat.ofNat Nat b (instOfNatNat b))) := (nI_leI ha hb)
  exact ⟨fun z => f (e.mp z), fun z => g (by have h2 : ¬ (a ≤ (@OfNat.ofNat Nat b (instOfNatNat b))) := fun w => z (e.mpr w); exact Nat.lt_of_not_le h2)⟩
theorem qln {x : Int32} {A B : Prop} (a b : Nat) (f : a ≤ (@OfNat.ofNat Nat b (instOfNatNat b)) → A) (g : (@OfNat.ofNat Nat b (instOfNatNat b)) < a → B) (hx : x = nI a) (ha : a < 2 ^ 31) (hb : (@OfNat.ofNat Nat b (instOfNatNat b)) < 2 ^ 31) : (¬ x ≤ (@OfNat.ofNat Int32 b Int32.instOfNat) → B) ∧ (x ≤ (@OfNat.ofNat Int32 b Int32.instOfNat) → A) :=
  ⟨(ql a b f g hx ha hb).2, (ql a b f g hx ha hb).1⟩
theorem qg {x : Int32} {A B : Prop} (a b : Nat) (f : (@OfNat.ofNat Nat b (instOfNatNat b)) ≤ a → A) (g : a < (@OfNat.ofNat Nat b (instOfNatNat b)) → B) (hx : x = nI a) (ha : a < 2 ^ 31) (hb : (@OfNat.ofNat Nat b (instOfNatNat b)) < 2 ^ 31) : ((@OfNat.ofNat Int32 b Int32.instOfNat) ≤ x → A) ∧ (¬ (@OfNat.ofNat Int32 b Int32.instOfNat) ≤ x → B) := by
  subst hx
  have e : ((@OfNat.ofNat Int32 b Int32.instOfNat) ≤ nI a) ↔ ((@OfNat.ofNat Nat b (instOfNatNat b)) ≤ a) := (nI_leI hb ha)
  exact ⟨fun z => f (e.mp z), fun z => g (by have h2 : ¬ ((@OfNat.ofNat Nat b (instOfNatNat b)) ≤ a) := fun w => z (e.mpr w); exact Nat.lt_of_not_le h2)⟩
theorem qgn {x : Int32} {A B : Prop} (a b : Nat) (f : (@OfNat.ofNat Nat b (instOfNatNat b)) ≤ a → A) (g : a < (@OfNat.ofNat Nat b (instOfNatNat b)) → B) (hx : x = nI a) (ha : a < 2 ^ 31) (hb : (@OfNat.ofNat Nat b (instOfNatNat b)) < 2 ^ 31) : (¬ (@OfNat.ofNat Int32 b Int32.instOfNat) ≤ x → B) ∧ ((@OfNat.ofNat Int32 b Int32.instOfNat) ≤ x → A) :=
  ⟨(qg a b f g hx ha hb).2, (qg a b f g hx ha hb).1⟩
theorem qs {x : Int32} {A B : Prop} (a b : Nat) (f : a < (@OfNat.ofNat Nat b (instOfNatNat b)) → A) (g : (@OfNat.ofNat Nat b (instOfNatNat b)) ≤ a → B) (hx : x = nI a) (ha : a < 2 ^ 31) (hb : (@OfNat.ofNat Nat b (instOfNatNat b)) < 2 ^ 31) : (x < (@OfNat.ofNat Int32 b Int32.instOfNat) → A) ∧ (¬ x < (@OfNat.ofNat Int32 b Int32.instOfNat) → B) := by
  subst hx
  have e : (nI a < (@OfNat.ofNat Int32 b Int32.instOfNat)) ↔ (a < (@OfNat.ofNat Nat b (instOfNatNat b))) := (nI_ltI ha hb)
  exact ⟨fun z => f (e.mp z), fun z => g (by have h2 : ¬ (a < (@OfNat.ofNat Nat b (instOfNatNat b))) := fun w => z (e.mpr w); exact Nat.le_of_not_lt h2)⟩
theorem qsn {x : Int32} {A B : Prop} (a b : Nat) (f : a < (@OfNat.ofNat Nat b (instOfNatNat b)) → A) (g : (@OfNat.ofNat Nat b (instOfNatNat b)) ≤ a → B) (hx : x = nI a) (ha : a < 2 ^ 31) (hb : (@OfNat.ofNat Nat b (instOfNatNat b)) < 2 ^ 31) : (¬ x < (@OfNat.ofNat Int32 b Int32.instOfNat) → B) ∧ (x < (@OfNat.ofNat Int32 b Int32.instOfNat) → A) :=
  ⟨(qs a b f g hx ha hb).2, (qs a b f g hx ha hb).1⟩
theorem qb {x : Int32} {A B : Prop} (a b : Nat) (f : (@OfNat.ofNat Nat b (instOfNatNat b)) < a → A) (g : a ≤ (@OfNat.ofNat Nat b (instOfNatNat b)) → B) (hx : x = nI a) (ha : a < 2 ^ 31) (hb : (@OfNat.ofNat Nat b (instOfNatNat b)) < 2 ^ 31) : ((@OfNat.ofNat Int32 b Int32.instOfNat) < x → A) ∧ (¬ (@OfNat.ofNat Int32 b Int32.instOfNat) < x → B) := by
  subst hx
  have e : ((@OfNat.ofNat Int32 b Int32.instOfNat) < nI a) ↔ ((@OfNat.ofNat Nat b (instOfNatNat b)) < a) := (nI_ltI hb ha)
  exact ⟨fun z => f (e.mp z), fun z => g (by have h2 : ¬ ((@OfNat.ofNat Nat b (instOfNatNat b)) < a) := fun w => z (e.mpr w); exact Nat.le_of_not_lt h2)⟩
theorem qbn {x : Int32} {A B : Prop} (a b : Nat) (f : (@OfNat.ofNat Nat b (instOfNatNat b)) < a → A) (g : a ≤ (@OfNat.ofNat Nat b (instOfNatNat b)) → B) (hx : x = nI a) (ha : a < 2 ^ 31) (hb : (@OfNat.ofNat Nat b (instOfNatNat b)) < 2 ^ 31) : (¬ (@OfNat.ofNat Int32 b Int32.instOfNat) < x → B) ∧ ((@OfNat.ofNat Int32 b Int32.instOfNat) < x → A) :=
  ⟨(qb a b f g hx ha hb).2, (qb a b f g hx ha hb).1⟩
