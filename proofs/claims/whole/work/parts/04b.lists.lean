/-! branches and booleans -/
noncomputable def cI {α : Type} (P : Prop) (a b : α) : α := @ite α P (Classical.propDecidable P) a b
theorem cI_t {α : Type} {P : Prop} {a b : α} (h : P) : cI P a b = a := if_pos h
theorem cI_f {α : Type} {P : Prop} {a b : α} (h : ¬ P) : cI P a b = b := if_neg h
theorem cI_iff {α : Type} {P Q : Prop} {a b : α} (h : P ↔ Q) : cI P a b = cI Q a b := by
  by_cases z : P
  · rw [cI_t z, cI_t (h.mp z)]
  · rw [cI_f z, cI_f (fun y => z (h.mpr y))]
theorem cI_ite {α : Type} {P : Prop} [Decidable P] {a b : α} : cI P a b = if P then a else b := by
  by_cases z : P
  · rw [cI_t z, if_pos z]
  · rw [cI_f z, if_neg z]
noncomputable def bI (P : Prop) : Int32 := cI P 1 0
theorem bI_t {P : Prop} (h : P) : bI P = 1 := cI_t h
theorem bI_f {P : Prop} (h : ¬ P) : bI P = 0 := cI_f h
theorem bI_0 {P : Prop} : bI P = 0 ↔ ¬ P := by
  by_cases h : P
  · rw [bI_t h]; simp [h]
  · rw [bI_f h]; simp [h]
theorem isB_bI (P : Prop) : isB (bI P) := by
  by_cases h : P
  · rw [bI_t h]; exact isB_1
  · rw [bI_f h]; exact isB_0
theorem bI_congr {P Q : Prop} (h : P ↔ Q) : bI P = bI Q := cI_iff h
theorem bz {P : Prop} {A B : Prop} (f : ¬ P → A) (g : P → B) : (bI P = 0 → A) ∧ (¬ bI P = 0 → B) :=
  ⟨fun z => f (bI_0.mp z), fun z => g (Classical.byContradiction (fun y => z (bI_0.mpr y)))⟩
theorem zb {P : Prop} {A B : Prop} (f : ¬ P → A) (g : P → B) : (¬ bI P = 0 → B) ∧ (bI P = 0 → A) :=
  ⟨(bz f g).2, (bz f g).1⟩
theorem zt {P : Prop} {Z : Int32 → Prop} (h : Z (bI P)) (p : P) : Z 1 := by rw [bI_t p] at h; exact h
theorem zf {P : Prop} {Z : Int32 → Prop} (h : Z (bI P)) (p : ¬ P) : Z 0 := by rw [bI_f p] at h; exact h
theorem pn_le {x y : Int32} {A B : Prop} (a b : Nat) (f : a ≤ b → A) (g : b < a → B) (hx : x = nI a := by rfl) (hy : y = nI b := by rfl) (ha : a < 2 ^ 31 := by omega) (hb : b < 2 ^ 31 := by omega) : (¬ x ≤ y → B) ∧ (x ≤ y → A) :=
  ⟨(pk_le a b f g hx hy ha hb).2, (pk_le a b f g hx hy ha hb).1⟩
theorem pn_lt {x y : Int32} {A B : Prop} (a b : Nat) (f : a < b → A) (g : b ≤ a → B) (hx : x = nI a := by rfl) (hy : y = nI b := by rfl) (ha : a < 2 ^ 31 := by omega) (hb : b < 2 ^ 31 := by omega) : (¬ x < y → B) ∧ (x < y → A) :=
  ⟨(pk_lt a b f g hx hy ha hb).2, (pk_lt a b f g hx hy ha hb).1⟩
theorem pn_eq {x y : Int32} {A B : Prop} (a b : Nat) (f : a = b → A) (g : a ≠ b → B) (hx : x = nI a := by rfl) (hy : y = nI b := by rfl) (ha : a < 2 ^ 31 := by omega) (hb : b < 2 ^ 31 := by omega) : (¬ x = y → B) ∧ (x = y → A) :=
  ⟨(pk_eq a b f g hx hy ha hb).2, (pk_eq a b f g hx hy ha hb).1⟩
theorem ke_if {c d A B : Prop} (e : c ↔ d) (f : d → A) (g : ¬ d → B) : (¬ c → B) ∧ (c → A) :=
  ⟨fun z => g (fun y => z (e.mpr y)), fun z => f (e.mp z)⟩
/-- a join whose value is a boolean -/
theorem jb {c : Prop} {R : Int32 → Prop} (P : Prop) (e : c ↔ P) (h : R (bI P)) : ∃ K : Int32 → Prop, (∀ v, K v → R v) ∧ ((¬ c → K 0) ∧ (c → K 1)) :=
  ⟨fun v => v = bI P, fun v hv => by rw [hv]; exact h, fun z => (bI_f (fun y => z (e.mpr y))).symm, fun z => (bI_t (e.mp z)).symm⟩
theorem jb' {c : Prop} {R : Int32 → Prop} (P : Prop) (e : c ↔ P) (h : R (bI P)) : ∃ K : Int32 → Prop, (∀ v, K v → R v) ∧ ((c → K 1) ∧ (¬ c → K 0)) :=
  ⟨fun v => v = bI P, fun v hv => by rw [hv]; exact h, fun z => (bI_t (e.mp z)).symm, fun z => (bI_f (fun y => z (e.mpr y))).symm⟩
theorem jz {c : Prop} {R : Int32 → Prop} (P : Prop) (e : c ↔ ¬ P) (h : R (bI P)) : ∃ K : Int32 → Prop, (∀ v, K v → R v) ∧ ((c → K 0) ∧ (¬ c → K 1)) :=
  ⟨fun v => v = bI P, fun v hv => by rw [hv]; exact h, fun z => (bI_f (e.mp z)).symm, fun z => (bI_t (Classical.byContradiction (fun y => z (e.mpr y)))).symm⟩
/-- a join of two values -/
theorem jv {c : Prop} {α : Type} {R : α → Prop} {a b : α} (P : Prop) (e : c ↔ P) (h : R (cI P b a)) : ∃ K : α → Prop, (∀ v, K v → R v) ∧ ((¬ c → K a) ∧ (c → K b)) :=
  ⟨fun v => v = cI P b a, fun v hv => by rw [hv]; exact h, fun z => (cI_f (fun y => z (e.mpr y))).symm, fun z => (cI_t (e.mp z)).symm⟩
theorem jv' {c : Prop} {α : Type} {R : α → Prop} {a b : α} (P : Prop) (e : c ↔ P) (h : R (cI P b a)) : ∃ K : α → Prop, (∀ v, K v → R v) ∧ ((c → K b) ∧ (¬ c → K a)) :=
  ⟨fun v => v = cI P b a, fun v hv => by rw [hv]; exact h, fun z => (cI_t (e.mp z)).symm, fun z => (cI_f (fun y => z (e.mpr y))).symm⟩
theorem nI_cI (P : Prop) (a b : Nat) : cI P (nI a) (nI b) = nI (cI P a b) := by
  by_cases z : P
  · rw [cI_t z, cI_t z]
  · rw [cI_f z, cI_f z]
theorem nI_bI (P : Prop) : bI P = nI (cI P 1 0) := nI_cI P 1 0
theorem nI_m1 : nI 4294967295 = -1 := by decide
/-! lists of octets in a row of bytes -/
def holds (f : Nat → Int32) : Nat → List Nat → Prop
  | _, [] => True
  | a, x :: l => (isBy (f a) ∧ oc (f a) = x) ∧ holds f (a + 1) l
theorem holds_app {f : Nat → Int32} {l m : List Nat} {a : Nat} : holds f a (l ++ m) ↔ holds f a l ∧ holds f (a + l.length) m := by
  induction l generalizing a with
  | nil => simp [holds]
  | cons x l ih =>
    simp only [List.cons_append, holds, ih, List.length_cons, and_assoc]
    rw [show a + 1 + l.length = a + (l.length + 1) by omega]
theorem holds_congr {f f' : Nat → Int32} {l : List Nat} {a : Nat} (h : ∀ j, a ≤ j → j < a + l.length → f' j = f j) (hl : holds f a l) : holds f' a l := by
  induction l generalizing a with
  | nil => trivial
  | cons x l ih =>
    rw [List.length_cons] at h
    refine ⟨?_, ih (fun j h1 h2 => h j (by omega) (by omega)) hl.2⟩
    rw [h a (Nat.le_refl _) (by omega)]
    exact hl.1
theorem holds_of {f : Nat → Int32} {l : List Nat} {a : Nat} (h : ∀ k, k < l.length → isBy (f (a + k)) ∧ oc (f (a + k)) = l.getD k 0) : holds f a l := by
  induction l generalizing a with
  | nil => trivial
  | cons x l ih =>
    rw [List.length_cons] at h
    refine ⟨?_, ih (fun k hk => ?_)⟩
    · have := h 0 (by omega)
      simpa using this
    · have := h (k + 1) (by omega)
      rw [show a + 1 + k = a + (k + 1) by omega]
      simpa using this
theorem holds_at {f : Nat → Int32} {l : List Nat} {a : Nat} (h : holds f a l) {k : Nat} (hk : k < l.length) : isBy (f (a + k)) ∧ oc (f (a + k)) = l.getD k 0 := by
  induction l generalizing a k with
  | nil => exact absurd hk (Nat.not_lt_zero _)
  | cons x l ih =>
    cases k with
    | zero => simpa using h.1
    | succ k =>
      rw [List.length_cons] at hk
      have := ih h.2 (k := k) (by omega)
      rw [show a + (k + 1) = a + 1 + k by omega]
      simpa using this
def seg (g : Nat → Nat) (a : Nat) : Nat → List Nat
  | 0 => []
  | k + 1 => g a :: seg g (a + 1) k
theorem seg_len (g : Nat → Nat) (a k : Nat) : (seg g a k).length = k := by
  induction k generalizing a with
  | zero => rfl
  | succ k ih => unfold seg; rw [List.length_cons, ih]
theorem seg_getD (g : Nat → Nat) (a k i : Nat) (h : i < k) : (seg g a k).getD i 0 = g (a + i) := by
  induction k generalizing a i with
  | zero => exact absurd h (Nat.not_lt_zero _)
  | succ k ih =>
    unfold seg
    cases i with
    | zero => simp
    | succ i =>
      have := ih (a + 1) i (by omega)
      rw [show a + (i + 1) = a + 1 + i by omega]
      simpa using this
/-- the bytes of a number, the highest first -/
def bys : Nat → Nat → List Nat
  | 0, _ => []
  | w + 1, n => n / 256 ^ w % 256 :: bys w n
theorem bys_len (w n : Nat) : (bys w n).length = w := by
  induction w with
  | zero => rfl
  | succ w ih => unfold bys; rw [List.length_cons, ih]
theorem bys_getD (w n i : Nat) (h : i < w) : (bys w n).getD i 0 = n / 256 ^ (w - 1 - i) % 256 := by
  induction w generalizing i with
  | zero => exact absurd h (Nat.not_lt_zero _)
  | succ w ih =>
    unfold bys
    cases i with
    | zero => simp
    | succ i =>
      have := ih i (by omega)
      rw [show w + 1 - 1 - (i + 1) = w - 1 - i by omega]
      simpa using this
/-- a part of a list is overwritten -/
def spl (l : List Nat) (k : Nat) (s : List Nat) : List Nat := l.take k ++ s ++ l.drop (k + s.length)
theorem spl_len {l s : List Nat} {k : Nat} (h : k + s.length ≤ l.length) : (spl l k s).length = l.length := by
  unfold spl
  rw [List.length_append, List.length_append, List.length_take, List.length_drop]
  omega
theorem holds_spl {f f' : Nat → Int32} {l s : List Nat} {a k : Nat} (h : holds f a l) (hk : k + s.length ≤ l.length) (hs : holds f' (a + k) s) (hf : ∀ j, j < a + k ∨ a + k + s.length ≤ j → f' j = f j) : holds f' a (spl l k s) := by
  have e : l = l.take k ++ (l.drop k).take s.length ++ l.drop (k + s.length) := by
    rw [List.append_assoc, ← List.drop_drop, List.take_append_drop, List.take_append_drop]
  rw [e, holds_app, holds_app] at h
  have h1 : (l.take k).length = k := by rw [List.length_take]; omega
  have h2 : ((l.drop k).take s.length).length = s.length := by rw [List.length_take, List.length_drop]; omega
  unfold spl
  rw [holds_app, holds_app]
  refine ⟨⟨holds_congr (fun j _ hj => hf j (by omega)) h.1.1, by rw [h1]; exact hs⟩, ?_⟩
  rw [List.length_append, h1]
  have h3 := h.2
  rw [List.length_append, h1, h2] at h3
  exact holds_congr (fun j hj _ => hf j (by omega)) h3
/-- what a list says at a place -/
def lg (l : List Nat) (i : Nat) : Nat := l.getD i 0
theorem holds_at8 {f : Nat → Int32} {l : List Nat} {a n : Nat} (h : holds f a l) (hn : a + l.length ≤ n) {k : Nat} (hk : k < l.length) : at8 f n (a + k) = lg l k := by
  rw [at8_in (by omega)]
  exact (holds_at h hk).2
theorem sm8_shift {g g' : Nat → Nat} {a b k : Nat} (h : ∀ i, i < k → g (a + i) = g' (b + i)) : sm8 g a k = sm8 g' b k := by
  induction k with
  | zero => rfl
  | succ k ih => unfold sm8; rw [ih (fun i hi => h i (by omega)), h k (by omega)]
/-- the words of a list added up -/
def lsm (l : List Nat) : Nat := sm8 (lg l) 0 l.length
theorem sm8_holds {f : Nat → Int32} {l : List Nat} {a n : Nat} (h : holds f a l) (hn : a + l.length ≤ n) : sm8 (at8 f n) a l.length = lsm l :=
  sm8_shift (fun i hi => by rw [holds_at8 h hn hi, Nat.zero_add])
theorem seg_oct {g : Nat → Nat} (hg : ∀ i, g i < 256) (a k i : Nat) : lg (seg g a k) i < 256 := by
  unfold lg
  by_cases h : i < k
  · rw [seg_getD g a k i h]; exact hg _
  · rw [List.getD_eq_getElem?_getD, List.getElem?_eq_none (by rw [seg_len]; omega)]; decide
/-! sums folded to sixteen bits -/
def fo (s : Nat) : Nat := if s = 0 then 0 else (s - 1) % 65535 + 1
theorem fo_le (s : Nat) : fo s ≤ 65535 := by
  unfold fo; split
  · omega
  · have := Nat.mod_lt (s - 1) (show 65535 > 0 by decide); omega
theorem fo_small {s : Nat} (h : s ≤ 65535) : fo s = s := by
  unfold fo; split
  · omega
  · rw [Nat.mod_eq_of_lt (by omega)]; omega
theorem fo_step {s : Nat} (h : 0 < s) : fo (s % 65536 + s / 65536) = fo s := by
  unfold fo
  rw [if_neg (by omega), if_neg (by omega)]
  have e : s - 1 = (s % 65536 + s / 65536 - 1) + 65535 * (s / 65536) := by omega
  rw [e, Nat.add_mul_mod_self_left]
theorem fo_add (a b : Nat) : fo (fo a + b) = fo (a + b) := by
  by_cases h : a = 0
  · subst h; rfl
  · unfold fo
    rw [if_neg (show ¬ a + b = 0 by omega), if_neg h]
    rw [if_neg (by omega)]
    have e : (a - 1) % 65535 + 1 + b - 1 = (a - 1) % 65535 + b := by omega
    have e2 : a + b - 1 = (a - 1) + b := by omega
    rw [e, e2, Nat.mod_add_mod]
theorem fo_all {s : Nat} : fo s = 65535 ↔ (s ≠ 0 ∧ s % 65535 = 0) := by
  unfold fo; split
  · omega
  · omega
