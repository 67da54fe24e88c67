/-! octets, and numbers that are Nats -/
def oc (x : Int32) : Nat := x.toBitVec.toNat % 256
theorem oc_lt (x : Int32) : oc x < 256 := Nat.mod_lt _ (by decide)
theorem oc_and (x : Int32) : x &&& 255 = nI (oc x) := pk_and x 8 (by decide)
theorem oc_of {x : Int32} {n : Nat} (h : x &&& 255 = nI n) (hn : n < 256) : oc x = n := by
  rw [oc_and] at h
  exact (nI_eq (by have := oc_lt x; omega) (by omega)).mp h
theorem oc_byte (x : Int32) : oc (x.toInt8.toInt32) = oc x := oc_of ((bp_b x).trans (oc_and x)) (oc_lt x)
theorem oc_nI (n : Nat) : oc (nI n) = n % 256 := by
  unfold oc nI
  show (BitVec.ofNat 32 n).toNat % 256 = n % 256
  rw [BitVec.toNat_ofNat]
  omega
/-- a number that a byte row can hold -/
def isBy (x : Int32) : Prop := x.toInt8.toInt32 = x
theorem isBy_of (x : Int32) : isBy x.toInt8.toInt32 := by
  unfold isBy
  rw [Int8.toInt8_toInt32]
theorem isBy_nar (x : Int32) : isBy (vp_nar .byte x) := by rw [vp_nar_byte]; exact isBy_of x
theorem isBy_fit {x : Int32} (h : isBy x) : fits .byte (.int x) = true := by rw [← h]; exact pk_fb x
theorem isBy_0 : isBy 0 := by unfold isBy; decide
theorem isBy_eq {x y : Int32} (hx : isBy x) (hy : isBy y) (h : oc x = oc y) : x = y := by
  have e : x.toInt8 = y.toInt8 := by
    apply Int8.toBitVec_inj.mp
    rw [Int32.toBitVec_toInt8, Int32.toBitVec_toInt8]
    apply BitVec.eq_of_toNat_eq
    rw [BitVec.signExtend_eq_setWidth_of_le _ (by decide), BitVec.signExtend_eq_setWidth_of_le _ (by decide), BitVec.toNat_setWidth, BitVec.toNat_setWidth]
    exact h
  rw [← hx, ← hy, e]
theorem oc_nar (x : Int32) : oc (vp_nar .byte x) = oc x := by rw [vp_nar_byte]; exact oc_byte x
/-- what Row.at reads -/
def at8 (f : Nat → Int32) (n k : Nat) : Nat := if k < n then oc (f k) else 0
theorem at8_lt (f : Nat → Int32) (n k : Nat) : at8 f n k < 256 := by
  unfold at8; split
  · exact oc_lt _
  · decide
theorem at8_in {f : Nat → Int32} {n k : Nat} (h : k < n) : at8 f n k = oc (f k) := if_pos h
def wd8 (g : Nat → Nat) (k : Nat) : Nat := g k * 256 + g (k + 1)
/-- a number of w bytes, the highest first -/
def num8 (g : Nat → Nat) (k : Nat) : Nat → Nat
  | 0 => 0
  | w + 1 => num8 g k w * 256 + g (k + w)
/-- the words of k bytes from a on, added up -/
def sm8 (g : Nat → Nat) (a : Nat) : Nat → Nat
  | 0 => 0
  | k + 1 => sm8 g a k + (if k % 2 = 0 then g (a + k) * 256 else g (a + k))
theorem sm8_le {g : Nat → Nat} (hg : ∀ i, g i < 256) (a k : Nat) : sm8 g a k ≤ k * 65280 := by
  induction k with
  | zero => exact Nat.le_refl _
  | succ k ih => unfold sm8; have := hg (a + k); split <;> omega
theorem sm8_congr {g g' : Nat → Nat} {a k : Nat} (h : ∀ i, i < k → g (a + i) = g' (a + i)) : sm8 g a k = sm8 g' a k := by
  induction k with
  | zero => rfl
  | succ k ih => unfold sm8; rw [ih (fun i hi => h i (by omega)), h k (by omega)]
theorem nI_or8 {a b : Nat} (ha : a < 256) (hb : b < 256) : (nI a <<< ((8 : Int32) &&& 31)) ||| nI b = nI (a * 256 + b) := by
  have h : ∀ x : Fin 256, ∀ y : Fin 256, (x.val * 256) ||| y.val = x.val * 256 + y.val := by
    intro x y
    have : x.val * 256 = x.val <<< 8 := by rw [Nat.shiftLeft_eq]
    rw [this, ← Nat.shiftLeft_add_eq_or_of_lt (by have := y.isLt; omega)]
  have e : nI a <<< ((8 : Int32) &&& 31) = nI (a * 256) := pk_shlN (n := a) ((8 : Int32) &&& 31) 8 (by decide) (by omega)
  rw [e]
  apply Int32.toBitVec_inj.mp
  rw [Int32.toBitVec_or]
  show BitVec.ofNat 32 (a * 256) ||| BitVec.ofNat 32 b = BitVec.ofNat 32 (a * 256 + b)
  apply BitVec.eq_of_toNat_eq
  rw [BitVec.toNat_or, BitVec.toNat_ofNat, BitVec.toNat_ofNat, BitVec.toNat_ofNat, Nat.mod_eq_of_lt (by omega), Nat.mod_eq_of_lt (by omega), Nat.mod_eq_of_lt (by omega)]
  exact h ⟨a, ha⟩ ⟨b, hb⟩
theorem num8_lt {g : Nat → Nat} (hg : ∀ i, g i < 256) (k w : Nat) : num8 g k w < 256 ^ w := by
  induction w with
  | zero => exact Nat.zero_lt_one
  | succ w ih => unfold num8; have := hg (k + w); rw [Nat.pow_succ]; omega
theorem num8_congr {g g' : Nat → Nat} {k w : Nat} (h : ∀ i, i < w → g (k + i) = g' (k + i)) : num8 g k w = num8 g' k w := by
  induction w with
  | zero => rfl
  | succ w ih => unfold num8; rw [ih (fun i hi => h i (by omega)), h w (by omega)]
theorem mu_at (M : cM) (c k : Nat) (v : Int32) : mu M c k v c k = v := by simp [mu]
theorem mu_oth (M : cM) (c k : Nat) (v : Int32) {j : Nat} (h : j ≠ k) : mu M c k v c j = M c j := by simp [mu, h]
theorem mu_ne (M : cM) (c k : Nat) (v : Int32) {c' : Nat} (h : c' ≠ c) : mu M c k v c' = M c' := by simp [mu, h]
theorem ml_at (M : cL) (c k : Nat) (v : Int64) : ml M c k v c k = v := by simp [ml]
theorem ml_oth (M : cL) (c k : Nat) (v : Int64) {j : Nat} (h : j ≠ k) : ml M c k v c j = M c j := by simp [ml, h]
theorem ml_ne (M : cL) (c k : Nat) (v : Int64) {c' : Nat} (h : c' ≠ c) : ml M c k v c' = M c' := by simp [ml, h]
theorem ms_at (M : cM) (c : Nat) (f : Nat → Int32) : ms M c f c = f := by simp [ms]
theorem ms_ne (M : cM) (c : Nat) (f : Nat → Int32) {c' : Nat} (h : c' ≠ c) : ms M c f c' = M c' := by simp [ms, h]
theorem oc_l2i (x : Int64) : oc x.toInt32 = uN x % 256 := by
  unfold oc uN
  rw [Int64.toBitVec_toInt32, BitVec.signExtend_eq_setWidth_of_le _ (by decide), BitVec.toNat_setWidth]
  show x.toBitVec.toNat % 2 ^ 32 % 256 = x.toBitVec.toNat % 256
  omega
