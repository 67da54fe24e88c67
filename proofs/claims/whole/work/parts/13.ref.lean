/-! the reference's leaves -/
theorem oc_sar8 (x : Int32) : oc (x >>> ((8 : Int32) &&& 31)) = u32 x / 256 % 256 := by
  have h := pk_shr x ((8 : Int32) &&& 31) 8 (by decide)
  have e1 : (x >>> ((8 : Int32) &&& 31)).toInt = (if 2 * u32 (x >>> ((8 : Int32) &&& 31)) < 4294967296 then (u32 (x >>> ((8 : Int32) &&& 31)) : Int) else (u32 (x >>> ((8 : Int32) &&& 31)) : Int) - 4294967296) := BitVec.toInt_eq_toNat_cond _
  have e2 : x.toInt = (if 2 * u32 x < 4294967296 then (u32 x : Int) else (u32 x : Int) - 4294967296) := BitVec.toInt_eq_toNat_cond _
  rw [Int.shiftRight_eq_div_pow] at h
  have a := u32_lt x
  have b := u32_lt (x >>> ((8 : Int32) &&& 31))
  show u32 (x >>> ((8 : Int32) &&& 31)) % 256 = u32 x / 256 % 256
  rw [e1, e2] at h
  have e3 : ((2 ^ 8 : Nat) : Int) = 256 := by decide
  rw [e3] at h
  split at h <;> split at h <;> omega
theorem u32_ushr16 (x : Int32) : u32 ((x.toUInt32 >>> ((16 : Int32).toUInt32 &&& Int32.toUInt32 31)).toInt32) = u32 x / 65536 := pk_ushr x 16 16 (by decide)
theorem oc_u32 (x : Int32) : oc x = u32 x % 256 := rfl
theorem bys_1 (n : Nat) : bys 1 n = [n % 256] := by simp [bys]
theorem bys_2 (n : Nat) : bys 2 n = [n / 256 % 256, n % 256] := by simp [bys]
theorem bys_add (a b n : Nat) : bys (a + b) n = bys a (n / 256 ^ b) ++ bys b n := by
  induction a with
  | zero => rw [Nat.zero_add]; rfl
  | succ a ih =>
    rw [show a + 1 + b = (a + b) + 1 by omega]
    show n / 256 ^ (a + b) % 256 :: bys (a + b) n = n / 256 ^ b / 256 ^ a % 256 :: bys a (n / 256 ^ b) ++ bys b n
    rw [ih, Nat.div_div_eq_div_mul, ← Nat.pow_add, Nat.add_comm b a]; rfl
theorem num8_4 (g : Nat → Nat) (k : Nat) : num8 g k 4 = wd8 g k * 65536 + wd8 g (k + 2) := by
  simp only [num8, wd8, Nat.add_zero, Nat.add_assoc, Nat.reduceAdd]; omega
theorem num8_8 (g : Nat → Nat) (k : Nat) : num8 g k 8 = num8 g k 4 * 4294967296 + num8 g (k + 4) 4 := by
  simp only [num8, Nat.add_zero, Nat.add_assoc, Nat.reduceAdd]; omega
theorem wd8_lt {g : Nat → Nat} (hg : ∀ i, g i < 256) (k : Nat) : wd8 g k < 65536 := by
  unfold wd8; have := hg k; have := hg (k + 1); omega
theorem l_shl32 (x : Int32) : x.toInt64 <<< ((32 : Int32).toInt64 &&& 63) = lN (u32 x * 4294967296) := by
  have e : x.toInt64 = lN (uN x.toInt64) := (lN_uN _).symm
  rw [e, show lN (uN x.toInt64) <<< ((32 : Int32).toInt64 &&& 63) = lN (uN x.toInt64 * 2 ^ 32) from wb_shl _ (k := 32) (by decide)]
  apply uN_inj
  have := uN_i2l x
  rw [uN_lN, uN_lN]; omega
theorem l_join (x y : Int32) : (x.toInt64 <<< ((32 : Int32).toInt64 &&& 63)) ||| (y.toInt64 &&& (4294967295 : Int64)) = lN (u32 x * 4294967296 + u32 y) := by
  have hx := u32_lt x
  have hy := u32_lt y
  have e := l_low hy
  rw [nI_u32] at e
  rw [l_shl32, e, g_or (k := 32) rfl hy (by omega)]
/-- the sum alone has changed -/
def sF (L L' : cL) : Prop := (∀ c', c' ≠ 0 → L' c' = L c') ∧ (∀ j, j ≠ 18 → L' 0 j = L 0 j)
theorem sF_r (L : cL) : sF L L := ⟨fun _ _ => rfl, fun _ _ => rfl⟩
theorem sF_t {L L1 L2 : cL} (h : sF L L1) (h2 : sF L1 L2) : sF L L2 := ⟨fun c hc => (h2.1 c hc).trans (h.1 c hc), fun j hj => (h2.2 j hj).trans (h.2 j hj)⟩
theorem sF_0 (L : cL) (v : Int64) : sF L (ml L 0 18 v) := ⟨fun c hc => ml_ne _ _ _ _ hc, fun j hj => ml_oth _ _ _ _ hj⟩
theorem r_w {M : cM} {L : cL} {x : Int32} {Z : cL → Prop} (S w : Nat) (h : ∀ L' : cL, sF L L' → L' 0 18 = lN (fo (S + w)) → Z L') (hs : L 0 18 = lN (fo S)) (hw : w ≤ 65535) (hx : x = nI w) : wp_X7_word_0 M L x Z := by
  refine r_word (fo S) w (fun L' h1 h2 h3 => h L' ⟨h1, h2⟩ ?_) hs (fo_le S) hw hx
  rw [h3, fo_add]
theorem nI_not16 {w : Nat} (h : w ≤ 65535) : (nI w ^^^ (-1 : Int32)) &&& (65535 : Int32) = nI (65535 - w) := by
  have e1 : ((nI w ^^^ (-1 : Int32)) &&& (65535 : Int32)) = nI ((nI w ^^^ (-1 : Int32)).toBitVec.toNat % 2 ^ 16) := pk_and _ 16 (by decide)
  rw [e1]
  have e2 : (nI w ^^^ (-1 : Int32)).toBitVec = ~~~ (nI w).toBitVec := by
    rw [Int32.toBitVec_xor]
    show (nI w).toBitVec ^^^ BitVec.allOnes 32 = _
    rw [BitVec.xor_allOnes]
  rw [e2, BitVec.toNat_not, pk_tn (by omega)]
  congr 1
  omega
theorem u32_not (x : Int32) : u32 (x ^^^ (-1 : Int32)) = 4294967295 - u32 x := by
  have e2 : (x ^^^ (-1 : Int32)).toBitVec = ~~~ x.toBitVec := by
    rw [Int32.toBitVec_xor]
    show x.toBitVec ^^^ BitVec.allOnes 32 = _
    rw [BitVec.xor_allOnes]
  show (x ^^^ (-1 : Int32)).toBitVec.toNat = _
  rw [e2, BitVec.toNat_not]
  rfl
theorem uN_not (x : Int64) : uN (x ^^^ (-1 : Int64)) = 18446744073709551615 - uN x := by
  have e2 : (x ^^^ (-1 : Int64)).toBitVec = ~~~ x.toBitVec := by
    rw [Int64.toBitVec_xor]
    show x.toBitVec ^^^ BitVec.allOnes 64 = _
    rw [BitVec.xor_allOnes]
  show (x ^^^ (-1 : Int64)).toBitVec.toNat = _
  rw [e2, BitVec.toNat_not]
  rfl
theorem r_turned {M : cM} {L : cL} {x : Int32} {Z : cL → Prop} (S w : Nat) (h : ∀ L' : cL, sF L L' → L' 0 18 = lN (fo (S + (65535 - w))) → Z L') (hs : L 0 18 = lN (fo S)) (hw : w ≤ 65535) (hx : x = nI w) : wp_X7_turned_0 M L x Z := by
  subst hx
  unfold wp_X7_turned_0
  rw [nI_not16 hw]
  exact r_w S (65535 - w) h hs (by omega) rfl
theorem r_checksum {M : cM} {L : cL} {Z : Int32 → Prop} (S : Nat) (h : Z (nI (65535 - fo S))) (hs : L 0 18 = lN (fo S)) : wp_X7_checksum_0 M L Z := by
  unfold wp_X7_checksum_0
  have e : (((L 0 18) ^^^ (-1 : Int64)) &&& (65535 : Int64)) = lN (65535 - fo S) := by
    have hf := fo_le S
    have hu := uN_not (L 0 18)
    rw [hs, uN_lN] at hu
    rw [hs, ← lN_uN (lN (fo S) ^^^ (-1 : Int64)), hu, l_and16 (by omega)]
    congr 1; omega
  rw [e, lN_i]; exact h
/-- the two words of an int, the four of a long -/
def w2 (n : Nat) : Nat := n / 65536 + n % 65536
def w4 (n : Nat) : Nat := n / 281474976710656 + n / 4294967296 % 65536 + n / 65536 % 65536 + n % 65536
theorem r_ints0 {M : cM} {L : cL} {x y : Int32} {Z : cL → Prop} (S n : Nat) (h : ∀ L' : cL, sF L L' → L' 0 18 = lN (fo (S + w2 n)) → Z L') (hs : L 0 18 = lN (fo S)) (hn : n < 4294967296) (hx : x = nI n) (hy : y = 0) : wp_X7_ints_0 M L x y Z := by
  subst hx hy
  unfold wp_X7_ints_0
  refine ⟨_, fun _ hv => hv, fun _ => ?_, fun c => absurd rfl c⟩
  rw [u_16 (by omega), show nI (n / 65536) &&& (65535 : Int32) = nI (n / 65536 % 65536) from pk_andN (by omega) 16 (by decide), Nat.mod_eq_of_lt (show n / 65536 < 65536 by omega)]
  refine r_w S (n / 65536) (fun L1 f1 e1 => ?_) hs (by omega) rfl
  refine ⟨_, fun _ hv => hv, fun _ => ?_, fun c => absurd rfl c⟩
  rw [show nI n &&& (65535 : Int32) = nI (n % 65536) from pk_andN (by omega) 16 (by decide)]
  refine r_w (S + n / 65536) (n % 65536) (fun L2 f2 e2 => h L2 (sF_t f1 f2) ?_) e1 (by omega) rfl
  rw [e2]; unfold w2; congr 2; omega
theorem r_ints1 {M : cM} {L : cL} {x y : Int32} {Z : cL → Prop} (S n : Nat) (h : ∀ L' : cL, sF L L' → L' 0 18 = lN (fo (S + (131070 - w2 n))) → Z L') (hs : L 0 18 = lN (fo S)) (hn : n < 4294967296) (hx : x = nI n) (hy : y = 1) : wp_X7_ints_0 M L x y Z := by
  subst hx hy
  unfold wp_X7_ints_0
  have e : nI n ^^^ (-1 : Int32) = nI (4294967295 - n) := by
    have := u32_not (nI n)
    rw [u32_nI, Nat.mod_eq_of_lt hn] at this
    rw [← this, nI_u32]
  rw [e]
  refine ⟨_, fun _ hv => hv, fun c => absurd c (by decide), fun _ => ?_⟩
  rw [u_16 (by omega), show nI ((4294967295 - n) / 65536) &&& (65535 : Int32) = nI ((4294967295 - n) / 65536 % 65536) from pk_andN (by omega) 16 (by decide), Nat.mod_eq_of_lt (show (4294967295 - n) / 65536 < 65536 by omega)]
  refine r_w S ((4294967295 - n) / 65536) (fun L1 f1 e1 => ?_) hs (by omega) rfl
  refine ⟨_, fun _ hv => hv, fun c => absurd c (by decide), fun _ => ?_⟩
  rw [show nI (4294967295 - n) &&& (65535 : Int32) = nI ((4294967295 - n) % 65536) from pk_andN (by omega) 16 (by decide)]
  refine r_w (S + (4294967295 - n) / 65536) ((4294967295 - n) % 65536) (fun L2 f2 e2 => h L2 (sF_t f1 f2) ?_) e1 (by omega) rfl
  rw [e2]; unfold w2; congr 2; omega
/-- the first i words of a long -/
def pw (n : Nat) : Nat → Nat
  | 0 => 0
  | i + 1 => pw n i + n / 2 ^ (48 - 16 * i) % 65536
theorem pw_4 {n : Nat} (h : n < 18446744073709551616) : pw n 4 = w4 n := by
  simp only [pw, w4, Nat.mul_zero, Nat.mul_one, Nat.sub_zero, Nat.reduceMul, Nat.reduceSub, Nat.reducePow, Nat.zero_add, Nat.div_one, Nat.reduceAdd]
  omega
theorem w4_not {n : Nat} (h : n < 18446744073709551616) : w4 (18446744073709551615 - n) = 262140 - w4 n := by
  unfold w4; omega
theorem w4_le {n : Nat} (h : n < 18446744073709551616) : w4 n ≤ 262140 := by unfold w4; omega
theorem w2_le {n : Nat} (h : n < 4294967296) : w2 n ≤ 131070 := by unfold w2; omega
theorem r_longsN {M : cM} {L : cL} {v : Int64} {y : Int32} {Z : cL → Prop} (S n : Nat) (h : ∀ L' : cL, sF L L' → L' 0 18 = lN (fo (S + w4 n)) → Z L') (hs : L 0 18 = lN (fo S)) (hn : (y = 0 ∧ n = uN v) ∨ (y = 1 ∧ n = 18446744073709551615 - uN v)) : wp_X7_longs_0 M L v y Z := by
  unfold wp_X7_longs_0
  have hlt : n < 18446744073709551616 := by have := uN_lt v; omega
  refine ⟨fun x1 L2 => ∃ i, i ≤ 4 ∧ x1 = nI (64 - 16 * i) + (-16) ∧ sF L L2 ∧ L2 0 18 = lN (fo (S + pw n i)), fun x1 _ => (x1 + 16).toNatClampNeg, ⟨0, by omega, by decide, sF_r L, hs⟩, ?_⟩
  rintro x1 L2 ⟨i, hi, rfl, f, e⟩
  have em : ∀ a : Nat, nI a + (-16) + 16 = nI a := fun a => by rw [Int32.add_assoc, show (-16 : Int32) + 16 = 0 by decide, Int32.add_zero]
  by_cases c : i = 4
  · subst c
    refine ⟨fun _ => h L2 f ?_, fun c => absurd (by decide) c⟩
    rw [e, pw_4 hlt]
  · have e1 : nI (64 - 16 * i) + (-16) = nI (48 - 16 * i) := by
      have : nI (64 - 16 * i) = nI (48 - 16 * i) + 16 := by
        rw [show nI (48 - 16 * i) + 16 = nI (48 - 16 * i + 16) from nI_add _ 16]; congr 1; omega
      rw [this, Int32.add_assoc, show (16 : Int32) + (-16) = 0 by decide, Int32.add_zero]
    rw [e1]
    refine ⟨fun c => absurd c (nI_pos (by omega)), fun _ => ?_⟩
    refine ⟨fun v4 => v4 = lN n, ?_, fun c => ?_, fun c => ?_⟩
    · rintro v4 rfl
      rw [wb_shr hlt (by omega), l_and16 (Nat.lt_of_le_of_lt (Nat.div_le_self _ _) hlt), lN_i]
      refine r_w (S + pw n i) (n / 2 ^ (48 - 16 * i) % 65536) (fun L5 f5 e5 => ?_) e (by omega) rfl
      rintro x6 rfl
      refine ⟨⟨i + 1, by omega, by rw [show 64 - 16 * (i + 1) = 48 - 16 * i by omega], sF_t f f5, ?_⟩, ?_⟩
      · rw [e5, Nat.add_assoc]; rfl
      · dsimp only; rw [em, show nI (48 - 16 * i) + 16 = nI (48 - 16 * i + 16) from nI_add _ 16, nI_clamp (by omega), nI_clamp (by omega)]; omega
    · rcases hn with ⟨_, hn⟩ | ⟨z, _⟩
      · rw [hn, lN_uN]
      · rw [z] at c; exact absurd c (by decide)
    · rcases hn with ⟨z, _⟩ | ⟨_, hn⟩
      · exact absurd z c
      · rw [hn, ← uN_not, lN_uN]
theorem r_images0 {M : cM} {L : cL} {y : Int32} {Z : cL → Prop} (S a b c d : Nat) (h : ∀ L' : cL, sF L L' → L' 0 18 = lN (fo (S + (w4 a + w4 b + w4 c + w4 d))) → Z L') (hs : L 0 18 = lN (fo S)) (ha : uN (L 0 27) = a) (hb : uN (L 0 28) = b) (hc : uN (L 0 29) = c) (hd : uN (L 0 30) = d) (hy : y = 0) : wp_X7_images_0 M L y Z := by
  unfold wp_X7_images_0
  refine r_longsN S a (fun L1 f1 e1 => ?_) hs (Or.inl ⟨hy, ha.symm⟩)
  refine r_longsN _ b (fun L2 f2 e2 => ?_) e1 (Or.inl ⟨hy, by rw [f1.2 28 (by decide), hb]⟩)
  refine r_longsN _ c (fun L3 f3 e3 => ?_) e2 (Or.inl ⟨hy, by rw [f2.2 29 (by decide), f1.2 29 (by decide), hc]⟩)
  refine r_longsN _ d (fun L4 f4 e4 => ?_) e3 (Or.inl ⟨hy, by rw [f3.2 30 (by decide), f2.2 30 (by decide), f1.2 30 (by decide), hd]⟩)
  refine h L4 (sF_t (sF_t f1 f2) (sF_t f3 f4)) ?_
  rw [e4]; congr 2; omega
theorem r_images1 {M : cM} {L : cL} {y : Int32} {Z : cL → Prop} (S a b c d : Nat) (h : ∀ L' : cL, sF L L' → L' 0 18 = lN (fo (S + (1048560 - (w4 a + w4 b + w4 c + w4 d)))) → Z L') (hs : L 0 18 = lN (fo S)) (ha : uN (L 0 27) = a) (hb : uN (L 0 28) = b) (hc : uN (L 0 29) = c) (hd : uN (L 0 30) = d) (hy : y = 1) : wp_X7_images_0 M L y Z := by
  unfold wp_X7_images_0
  refine r_longsN S (18446744073709551615 - a) (fun L1 f1 e1 => ?_) hs (Or.inr ⟨hy, by rw [ha]⟩)
  refine r_longsN _ (18446744073709551615 - b) (fun L2 f2 e2 => ?_) e1 (Or.inr ⟨hy, by rw [f1.2 28 (by decide), hb]⟩)
  refine r_longsN _ (18446744073709551615 - c) (fun L3 f3 e3 => ?_) e2 (Or.inr ⟨hy, by rw [f2.2 29 (by decide), f1.2 29 (by decide), hc]⟩)
  refine r_longsN _ (18446744073709551615 - d) (fun L4 f4 e4 => ?_) e3 (Or.inr ⟨hy, by rw [f3.2 30 (by decide), f2.2 30 (by decide), f1.2 30 (by decide), hd]⟩)
  refine h L4 (sF_t (sF_t f1 f2) (sF_t f3 f4)) ?_
  have la : a < 18446744073709551616 := by rw [← ha]; exact uN_lt _
  have lb : b < 18446744073709551616 := by rw [← hb]; exact uN_lt _
  have lc : c < 18446744073709551616 := by rw [← hc]; exact uN_lt _
  have ld : d < 18446744073709551616 := by rw [← hd]; exact uN_lt _
  rw [e4, w4_not la, w4_not lb, w4_not lc, w4_not ld]
  have := w4_le la
  have := w4_le lb
  have := w4_le lc
  have := w4_le ld
  congr 2; omega
theorem r_addresses0 {M : cM} {L : cL} {y : Int32} {Z : cL → Prop} (S a b : Nat) (h : ∀ L' : cL, sF L L' → L' 0 18 = lN (fo (S + (w2 a + w2 b))) → Z L') (hs : L 0 18 = lN (fo S)) (ha : M 0 25 = nI a) (hb : M 0 26 = nI b) (la : a < 4294967296) (lb : b < 4294967296) (hy : y = 0) : wp_X7_addresses_0 M L y Z := by
  unfold wp_X7_addresses_0
  refine r_ints0 S a (fun L1 f1 e1 => ?_) hs la ha hy
  refine r_ints0 _ b (fun L2 f2 e2 => h L2 (sF_t f1 f2) ?_) e1 lb hb hy
  rw [e2]; congr 2; omega
theorem r_addresses1 {M : cM} {L : cL} {y : Int32} {Z : cL → Prop} (S a b : Nat) (h : ∀ L' : cL, sF L L' → L' 0 18 = lN (fo (S + (262140 - (w2 a + w2 b)))) → Z L') (hs : L 0 18 = lN (fo S)) (ha : M 0 25 = nI a) (hb : M 0 26 = nI b) (la : a < 4294967296) (lb : b < 4294967296) (hy : y = 1) : wp_X7_addresses_0 M L y Z := by
  unfold wp_X7_addresses_0
  refine r_ints1 S a (fun L1 f1 e1 => ?_) hs la ha hy
  refine r_ints1 _ b (fun L2 f2 e2 => h L2 (sF_t f1 f2) ?_) e1 lb hb hy
  have := w2_le la
  have := w2_le lb
  rw [e2]; congr 2; omega
theorem r_pseudo0 {M : cM} {L : cL} {x x2 y : Int32} {Z : cL → Prop} (S a b c d n k : Nat) (h : ∀ L' : cL, sF L L' → L' 0 18 = lN (fo (S + (w4 a + w4 b + w4 c + w4 d) + w2 n + w2 k)) → Z L') (hs : L 0 18 = lN (fo S)) (ha : uN (L 0 27) = a) (hb : uN (L 0 28) = b) (hc : uN (L 0 29) = c) (hd : uN (L 0 30) = d) (hn : n < 4294967296) (hk : k < 4294967296) (hx : x = nI n) (hx2 : x2 = nI k) (hy : y = 0) : wp_X7_pseudo_0 M L x x2 y Z := by
  unfold wp_X7_pseudo_0
  refine r_images0 S a b c d (fun L1 f1 e1 => ?_) hs ha hb hc hd hy
  refine r_ints0 _ n (fun L2 f2 e2 => ?_) e1 hn hx hy
  exact r_ints0 _ k (fun L3 f3 e3 => h L3 (sF_t f1 (sF_t f2 f3)) e3) e2 hk hx2 hy
theorem r_pseudo1 {M : cM} {L : cL} {x x2 y : Int32} {Z : cL → Prop} (S a b c d n k : Nat) (h : ∀ L' : cL, sF L L' → L' 0 18 = lN (fo (S + (1048560 - (w4 a + w4 b + w4 c + w4 d)) + (131070 - w2 n) + (131070 - w2 k))) → Z L') (hs : L 0 18 = lN (fo S)) (ha : uN (L 0 27) = a) (hb : uN (L 0 28) = b) (hc : uN (L 0 29) = c) (hd : uN (L 0 30) = d) (hn : n < 4294967296) (hk : k < 4294967296) (hx : x = nI n) (hx2 : x2 = nI k) (hy : y = 1) : wp_X7_pseudo_0 M L x x2 y Z := by
  unfold wp_X7_pseudo_0
  refine r_images1 S a b c d (fun L1 f1 e1 => ?_) hs ha hb hc hd hy
  refine r_ints1 _ n (fun L2 f2 e2 => ?_) e1 hn hx hy
  exact r_ints1 _ k (fun L3 f3 e3 => h L3 (sF_t f1 (sF_t f2 f3)) e3) e2 hk hx2 hy

theorem r_oct_1 {M : cM} {L : cL} {x : Int32} {Z : Int32 → Prop} (k : Nat) (h : Z (nI (at8 (M 1) 2400 k))) (hk : k < 2400 := by omega) (hx : x = nI k := by first | rfl | exact nI_add _ _ | assumption) : wp_X7_octetAt_1 M L x Z := by
  subst hx
  unfold wp_X7_octetAt_1
  refine ⟨vp_in_nI hk (by decide), ?_⟩
  rw [nI_clamp (by omega), oc_and]
  rw [at8_in hk] at h
  exact h
theorem r_two_1 {M : cM} {L : cL} {x : Int32} {Z : Int32 → Prop} (k : Nat) (h : Z (nI (wd8 (at8 (M 1) 2400) k))) (hk : k + 1 < 2400 := by omega) (hx : x = nI k := by first | rfl | exact nI_add _ _ | assumption) : wp_X7_twoAt_1 M L x Z := by
  subst hx
  unfold wp_X7_twoAt_1
  refine r_oct_1 k (r_oct_1 (k + 1) ?_ hk (nI_1 k)) (by omega) rfl
  rw [nI_or8 (at8_lt _ _ _) (at8_lt _ _ _)]
  exact h
theorem r_int_1 {M : cM} {L : cL} {x : Int32} {Z : Int32 → Prop} (k : Nat) (h : Z (nI (num8 (at8 (M 1) 2400) k 4))) (hk : k + 3 < 2400 := by omega) (hx : x = nI k := by first | rfl | exact nI_add _ _ | assumption) : wp_X7_intAt_1 M L x Z := by
  subst hx
  unfold wp_X7_intAt_1
  refine r_two_1 k (r_two_1 (k + 2) ?_ (by omega) (nI_add k 2)) (by omega) rfl
  have h1 := wd8_lt (at8_lt (M 1) 2400) k
  have h2 := wd8_lt (at8_lt (M 1) 2400) (k + 2)
  rw [pk_shlN (n := wd8 (at8 (M 1) 2400) k) ((16 : Int32) &&& 31) 16 (by decide) (by omega), nI_orN (k := 16) h2, show wd8 (at8 (M 1) 2400) k * 2 ^ 16 + wd8 (at8 (M 1) 2400) (k + 2) = num8 (at8 (M 1) 2400) k 4 from (num8_4 _ _).symm]
  exact h
theorem r_words_1 {M : cM} {L : cL} {x y : Int32} {Z : cL → Prop} (a b S : Nat) (h : ∀ L' : cL, sF L L' → L' 0 18 = lN (fo (S + sm8 (at8 (M 1) 2400) a (b - a))) → Z L') (hs : L 0 18 = lN (fo S)) (hab : a ≤ b := by omega) (hb : b ≤ 2400 := by omega) (hx : x = nI a := by first | rfl | exact nI_add _ _ | assumption) (hy : y = nI b := by first | rfl | exact nI_add _ _ | assumption) : wp_X7_words_0_1 M L x y Z := by
  subst hx hy
  unfold wp_X7_words_0_1
  refine ⟨fun x1 L2 => ∃ i j, x1 = nI (a + 2 * i) ∧ sF L L2 ∧ L2 0 18 = lN (fo (S + sm8 (at8 (M 1) 2400) a j)) ∧ ((2 * i ≤ b - a ∧ j = 2 * i) ∨ (2 * i = b - a + 1 ∧ j = b - a)), fun x1 _ => b + 2 - x1.toNatClampNeg, ⟨0, 0, rfl, sF_r L, hs, Or.inl ⟨Nat.zero_le _, rfl⟩⟩, ?_⟩
  rintro x1 L2 ⟨i, j, rfl, f, e, hj⟩
  refine pk_le b (a + 2 * i) (fun c => ?_) (fun c => ?_) rfl rfl (by omega) (by omega)
  · refine h L2 f ?_
    rw [e, show j = b - a by omega]
  · have ej : j = 2 * i := by omega
    subst ej
    refine ⟨vp_in_nI (by omega) (by decide), ?_⟩
    have g0 : ∀ k, k < 2400 → oc (M 1 k) = at8 (M 1) 2400 k := fun k hk => (at8_in hk).symm
    have hl := at8_lt (M 1) 2400
    rw [nI_clamp (by omega), oc_and, g0 _ (by omega), show nI (a + 2 * i) + (1 : Int32) = nI (a + 2 * i + 1) from nI_1 _, nI_clamp (by omega), oc_and]
    have hme : ∀ L5 : cL, b + 2 - (nI (a + 2 * i) + 2).toNatClampNeg < b + 2 - (nI (a + 2 * i)).toNatClampNeg := by
      intro _
      rw [show nI (a + 2 * i) + 2 = nI (a + 2 * i + 2) from nI_add _ 2, nI_clamp (by omega), nI_clamp (by omega)]; omega
    by_cases c2 : a + 2 * i + 1 < b
    · refine ⟨fun v => v = nI (at8 (M 1) 2400 (a + 2 * i + 1)), ?_, fun z => absurd ((nI_leI (by omega) (by omega)).mp z) (by omega), fun _ => ⟨vp_in_nI (by omega) (by decide), by rw [g0 _ (by omega)]⟩⟩
      rintro v rfl
      rw [nI_or8 (hl _) (hl _)]
      refine r_w _ _ (fun L5 f5 e5 => ?_) e (by have := hl (a + 2 * i); have := hl (a + 2 * i + 1); omega) rfl
      rintro x6 rfl
      refine ⟨⟨i + 1, 2 * (i + 1), (nI_add _ 2).trans (congrArg nI (by omega)), sF_t f f5, ?_, Or.inl ⟨by omega, rfl⟩⟩, hme L5⟩
      rw [e5, show 2 * (i + 1) = 2 * i + 1 + 1 by omega]
      simp only [sm8]
      rw [if_pos (by omega), if_neg (by omega), ← Nat.add_assoc a]
      congr 2; omega
    · refine ⟨fun v => v = nI 0, ?_, fun _ => rfl, fun z => absurd ((nI_leI (by omega) (by omega)).mpr (by omega)) z⟩
      rintro v rfl
      rw [nI_or8 (hl _) (by decide)]
      refine r_w _ _ (fun L5 f5 e5 => ?_) e (by have := hl (a + 2 * i); omega) rfl
      rintro x6 rfl
      refine ⟨⟨i + 1, 2 * i + 1, (nI_add _ 2).trans (congrArg nI (by omega)), sF_t f f5, ?_, Or.inr ⟨by omega, by omega⟩⟩, hme L5⟩
      rw [e5]
      simp only [sm8]
      rw [if_pos (by omega)]
      congr 2; omega
theorem r_oct_3 {M : cM} {L : cL} {x : Int32} {Z : Int32 → Prop} (k : Nat) (h : Z (nI (at8 (M 3) 16000 k))) (hk : k < 16000 := by omega) (hx : x = nI k := by first | rfl | exact nI_add _ _ | assumption) : wp_X7_octetAt_3 M L x Z := by
  subst hx
  unfold wp_X7_octetAt_3
  refine ⟨vp_in_nI hk (by decide), ?_⟩
  rw [nI_clamp (by omega), oc_and]
  rw [at8_in hk] at h
  exact h
theorem r_words_3 {M : cM} {L : cL} {x y : Int32} {Z : cL → Prop} (a b S : Nat) (h : ∀ L' : cL, sF L L' → L' 0 18 = lN (fo (S + sm8 (at8 (M 3) 16000) a (b - a))) → Z L') (hs : L 0 18 = lN (fo S)) (hab : a ≤ b := by omega) (hb : b ≤ 16000 := by omega) (hx : x = nI a := by first | rfl | exact nI_add _ _ | assumption) (hy : y = nI b := by first | rfl | exact nI_add _ _ | assumption) : wp_X7_words_0_3 M L x y Z := by
  subst hx hy
  unfold wp_X7_words_0_3
  refine ⟨fun x1 L2 => ∃ i j, x1 = nI (a + 2 * i) ∧ sF L L2 ∧ L2 0 18 = lN (fo (S + sm8 (at8 (M 3) 16000) a j)) ∧ ((2 * i ≤ b - a ∧ j = 2 * i) ∨ (2 * i = b - a + 1 ∧ j = b - a)), fun x1 _ => b + 2 - x1.toNatClampNeg, ⟨0, 0, rfl, sF_r L, hs, Or.inl ⟨Nat.zero_le _, rfl⟩⟩, ?_⟩
  rintro x1 L2 ⟨i, j, rfl, f, e, hj⟩
  refine pk_le b (a + 2 * i) (fun c => ?_) (fun c => ?_) rfl rfl (by omega) (by omega)
  · refine h L2 f ?_
    rw [e, show j = b - a by omega]
  · have ej : j = 2 * i := by omega
    subst ej
    refine ⟨vp_in_nI (by omega) (by decide), ?_⟩
    have g0 : ∀ k, k < 16000 → oc (M 3 k) = at8 (M 3) 16000 k := fun k hk => (at8_in hk).symm
    have hl := at8_lt (M 3) 16000
    rw [nI_clamp (by omega), oc_and, g0 _ (by omega), show nI (a + 2 * i) + (1 : Int32) = nI (a + 2 * i + 1) from nI_1 _, nI_clamp (by omega), oc_and]
    have hme : ∀ L5 : cL, b + 2 - (nI (a + 2 * i) + 2).toNatClampNeg < b + 2 - (nI (a + 2 * i)).toNatClampNeg := by
      intro _
      rw [show nI (a + 2 * i) + 2 = nI (a + 2 * i + 2) from nI_add _ 2, nI_clamp (by omega), nI_clamp (by omega)]; omega
    by_cases c2 : a + 2 * i + 1 < b
    · refine ⟨fun v => v = nI (at8 (M 3) 16000 (a + 2 * i + 1)), ?_, fun z => absurd ((nI_leI (by omega) (by omega)).mp z) (by omega), fun _ => ⟨vp_in_nI (by omega) (by decide), by rw [g0 _ (by omega)]⟩⟩
      rintro v rfl
      rw [nI_or8 (hl _) (hl _)]
      refine r_w _ _ (fun L5 f5 e5 => ?_) e (by have := hl (a + 2 * i); have := hl (a + 2 * i + 1); omega) rfl
      rintro x6 rfl
      refine ⟨⟨i + 1, 2 * (i + 1), (nI_add _ 2).trans (congrArg nI (by omega)), sF_t f f5, ?_, Or.inl ⟨by omega, rfl⟩⟩, hme L5⟩
      rw [e5, show 2 * (i + 1) = 2 * i + 1 + 1 by omega]
      simp only [sm8]
      rw [if_pos (by omega), if_neg (by omega), ← Nat.add_assoc a]
      congr 2; omega
    · refine ⟨fun v => v = nI 0, ?_, fun _ => rfl, fun z => absurd ((nI_leI (by omega) (by omega)).mpr (by omega)) z⟩
      rintro v rfl
      rw [nI_or8 (hl _) (by decide)]
      refine r_w _ _ (fun L5 f5 e5 => ?_) e (by have := hl (a + 2 * i); omega) rfl
      rintro x6 rfl
      refine ⟨⟨i + 1, 2 * i + 1, (nI_add _ 2).trans (congrArg nI (by omega)), sF_t f f5, ?_, Or.inr ⟨by omega, by omega⟩⟩, hme L5⟩
      rw [e5]
      simp only [sm8]
      rw [if_pos (by omega)]
      congr 2; omega
theorem r_byte_3 {M : cM} {v : Int32} (a m : Nat) (hv : oc v = m) : wr M (mu M 3 a (vp_nar .byte (v.toInt8.toInt32))) 3 a [m] := by
  refine ⟨fun c' hc => mu_ne _ _ _ _ hc, fun j hj => mu_oth _ _ _ _ (by rw [List.length_singleton] at hj; omega), ⟨⟨?_, ?_⟩, trivial⟩⟩
  · rw [mu_at]; exact isBy_nar _
  · rw [mu_at, oc_nar, oc_byte]; exact hv
theorem r_putTwo_3 {M : cM} {L : cL} {x v : Int32} {Z : cM → Prop} (a m : Nat) (h : ∀ M' : cM, wr M M' 3 a (bys 2 m) → Z M') (hv : v = nI m) (ha : a + 1 < 16000 := by omega) (hx : x = nI a := by first | rfl | exact nI_add _ _ | assumption) : wp_X7_putTwo_3 M L x v Z := by
  subst hx
  unfold wp_X7_putTwo_3
  refine ⟨vp_in_nI (by omega) (by decide), ?_⟩
  rintro M1 rfl
  rw [show nI a + (1 : Int32) = nI (a + 1) from nI_1 _, nI_clamp (by omega), nI_clamp (by omega)]
  refine ⟨vp_in_nI (by omega) (by decide), ?_⟩
  rintro M2 rfl
  refine h _ ?_
  rw [bys_2]
  have hu : u32 v = m % 4294967296 := by rw [hv, u32_nI]
  exact wr_app (r_byte_3 a (m / 256 % 256) (by rw [oc_sar8, hu]; omega)) (r_byte_3 (a + 1) (m % 256) (by rw [oc_u32, hu]; omega)) rfl
theorem r_putInt_3 {M : cM} {L : cL} {x v : Int32} {Z : cM → Prop} (a m : Nat) (h : ∀ M' : cM, wr M M' 3 a (bys 4 m) → Z M') (hv : v = nI m) (ha : a + 3 < 16000 := by omega) (hx : x = nI a := by first | rfl | exact nI_add _ _ | assumption) : wp_X7_putInt_3 M L x v Z := by
  subst hx
  unfold wp_X7_putInt_3
  have hu : u32 v = m % 4294967296 := by rw [hv, u32_nI]
  refine r_putTwo_3 a (m % 4294967296 / 65536) (fun M1 w1 => ?_) ?_ (by omega) rfl
  · refine r_putTwo_3 (a + 2) m (fun M2 w2 => h M2 ?_) hv (by omega) (nI_add a 2)
    rw [show bys 4 m = bys 2 (m % 4294967296 / 65536) ++ bys 2 m by rw [bys_add 2 2 m]; congr 1; apply bys_cut; show m / 65536 % 65536 = m % 4294967296 / 65536 % 65536; omega]
    exact wr_app w1 w2 (by rw [bys_len])
  · rw [← hu, ← u32_ushr16, nI_u32]
theorem r_oct_5 {M : cM} {L : cL} {x : Int32} {Z : Int32 → Prop} (k : Nat) (h : Z (nI (at8 (M 5) 5000 k))) (hk : k < 5000 := by omega) (hx : x = nI k := by first | rfl | exact nI_add _ _ | assumption) : wp_X7_octetAt_5 M L x Z := by
  subst hx
  unfold wp_X7_octetAt_5
  refine ⟨vp_in_nI hk (by decide), ?_⟩
  rw [nI_clamp (by omega), oc_and]
  rw [at8_in hk] at h
  exact h
theorem r_two_5 {M : cM} {L : cL} {x : Int32} {Z : Int32 → Prop} (k : Nat) (h : Z (nI (wd8 (at8 (M 5) 5000) k))) (hk : k + 1 < 5000 := by omega) (hx : x = nI k := by first | rfl | exact nI_add _ _ | assumption) : wp_X7_twoAt_5 M L x Z := by
  subst hx
  unfold wp_X7_twoAt_5
  refine r_oct_5 k (r_oct_5 (k + 1) ?_ hk (nI_1 k)) (by omega) rfl
  rw [nI_or8 (at8_lt _ _ _) (at8_lt _ _ _)]
  exact h
theorem r_int_5 {M : cM} {L : cL} {x : Int32} {Z : Int32 → Prop} (k : Nat) (h : Z (nI (num8 (at8 (M 5) 5000) k 4))) (hk : k + 3 < 5000 := by omega) (hx : x = nI k := by first | rfl | exact nI_add _ _ | assumption) : wp_X7_intAt_5 M L x Z := by
  subst hx
  unfold wp_X7_intAt_5
  refine r_two_5 k (r_two_5 (k + 2) ?_ (by omega) (nI_add k 2)) (by omega) rfl
  have h1 := wd8_lt (at8_lt (M 5) 5000) k
  have h2 := wd8_lt (at8_lt (M 5) 5000) (k + 2)
  rw [pk_shlN (n := wd8 (at8 (M 5) 5000) k) ((16 : Int32) &&& 31) 16 (by decide) (by omega), nI_orN (k := 16) h2, show wd8 (at8 (M 5) 5000) k * 2 ^ 16 + wd8 (at8 (M 5) 5000) (k + 2) = num8 (at8 (M 5) 5000) k 4 from (num8_4 _ _).symm]
  exact h
theorem r_words_5 {M : cM} {L : cL} {x y : Int32} {Z : cL → Prop} (a b S : Nat) (h : ∀ L' : cL, sF L L' → L' 0 18 = lN (fo (S + sm8 (at8 (M 5) 5000) a (b - a))) → Z L') (hs : L 0 18 = lN (fo S)) (hab : a ≤ b := by omega) (hb : b ≤ 5000 := by omega) (hx : x = nI a := by first | rfl | exact nI_add _ _ | assumption) (hy : y = nI b := by first | rfl | exact nI_add _ _ | assumption) : wp_X7_words_0_5 M L x y Z := by
  subst hx hy
  unfold wp_X7_words_0_5
  refine ⟨fun x1 L2 => ∃ i j, x1 = nI (a + 2 * i) ∧ sF L L2 ∧ L2 0 18 = lN (fo (S + sm8 (at8 (M 5) 5000) a j)) ∧ ((2 * i ≤ b - a ∧ j = 2 * i) ∨ (2 * i = b - a + 1 ∧ j = b - a)), fun x1 _ => b + 2 - x1.toNatClampNeg, ⟨0, 0, rfl, sF_r L, hs, Or.inl ⟨Nat.zero_le _, rfl⟩⟩, ?_⟩
  rintro x1 L2 ⟨i, j, rfl, f, e, hj⟩
  refine pk_le b (a + 2 * i) (fun c => ?_) (fun c => ?_) rfl rfl (by omega) (by omega)
  · refine h L2 f ?_
    rw [e, show j = b - a by omega]
  · have ej : j = 2 * i := by omega
    subst ej
    refine ⟨vp_in_nI (by omega) (by decide), ?_⟩
    have g0 : ∀ k, k < 5000 → oc (M 5 k) = at8 (M 5) 5000 k := fun k hk => (at8_in hk).symm
    have hl := at8_lt (M 5) 5000
    rw [nI_clamp (by omega), oc_and, g0 _ (by omega), show nI (a + 2 * i) + (1 : Int32) = nI (a + 2 * i + 1) from nI_1 _, nI_clamp (by omega), oc_and]
    have hme : ∀ L5 : cL, b + 2 - (nI (a + 2 * i) + 2).toNatClampNeg < b + 2 - (nI (a + 2 * i)).toNatClampNeg := by
      intro _
      rw [show nI (a + 2 * i) + 2 = nI (a + 2 * i + 2) from nI_add _ 2, nI_clamp (by omega), nI_clamp (by omega)]; omega
    by_cases c2 : a + 2 * i + 1 < b
    · refine ⟨fun v => v = nI (at8 (M 5) 5000 (a + 2 * i + 1)), ?_, fun z => absurd ((nI_leI (by omega) (by omega)).mp z) (by omega), fun _ => ⟨vp_in_nI (by omega) (by decide), by rw [g0 _ (by omega)]⟩⟩
      rintro v rfl
      rw [nI_or8 (hl _) (hl _)]
      refine r_w _ _ (fun L5 f5 e5 => ?_) e (by have := hl (a + 2 * i); have := hl (a + 2 * i + 1); omega) rfl
      rintro x6 rfl
      refine ⟨⟨i + 1, 2 * (i + 1), (nI_add _ 2).trans (congrArg nI (by omega)), sF_t f f5, ?_, Or.inl ⟨by omega, rfl⟩⟩, hme L5⟩
      rw [e5, show 2 * (i + 1) = 2 * i + 1 + 1 by omega]
      simp only [sm8]
      rw [if_pos (by omega), if_neg (by omega), ← Nat.add_assoc a]
      congr 2; omega
    · refine ⟨fun v => v = nI 0, ?_, fun _ => rfl, fun z => absurd ((nI_leI (by omega) (by omega)).mpr (by omega)) z⟩
      rintro v rfl
      rw [nI_or8 (hl _) (by decide)]
      refine r_w _ _ (fun L5 f5 e5 => ?_) e (by have := hl (a + 2 * i); omega) rfl
      rintro x6 rfl
      refine ⟨⟨i + 1, 2 * i + 1, (nI_add _ 2).trans (congrArg nI (by omega)), sF_t f f5, ?_, Or.inr ⟨by omega, by omega⟩⟩, hme L5⟩
      rw [e5]
      simp only [sm8]
      rw [if_pos (by omega)]
      congr 2; omega
theorem r_byte_5 {M : cM} {v : Int32} (a m : Nat) (hv : oc v = m) : wr M (mu M 5 a (vp_nar .byte (v.toInt8.toInt32))) 5 a [m] := by
  refine ⟨fun c' hc => mu_ne _ _ _ _ hc, fun j hj => mu_oth _ _ _ _ (by rw [List.length_singleton] at hj; omega), ⟨⟨?_, ?_⟩, trivial⟩⟩
  · rw [mu_at]; exact isBy_nar _
  · rw [mu_at, oc_nar, oc_byte]; exact hv
theorem r_putTwo_5 {M : cM} {L : cL} {x v : Int32} {Z : cM → Prop} (a m : Nat) (h : ∀ M' : cM, wr M M' 5 a (bys 2 m) → Z M') (hv : v = nI m) (ha : a + 1 < 5000 := by omega) (hx : x = nI a := by first | rfl | exact nI_add _ _ | assumption) : wp_X7_putTwo_5 M L x v Z := by
  subst hx
  unfold wp_X7_putTwo_5
  refine ⟨vp_in_nI (by omega) (by decide), ?_⟩
  rintro M1 rfl
  rw [show nI a + (1 : Int32) = nI (a + 1) from nI_1 _, nI_clamp (by omega), nI_clamp (by omega)]
  refine ⟨vp_in_nI (by omega) (by decide), ?_⟩
  rintro M2 rfl
  refine h _ ?_
  rw [bys_2]
  have hu : u32 v = m % 4294967296 := by rw [hv, u32_nI]
  exact wr_app (r_byte_5 a (m / 256 % 256) (by rw [oc_sar8, hu]; omega)) (r_byte_5 (a + 1) (m % 256) (by rw [oc_u32, hu]; omega)) rfl
theorem r_putInt_5 {M : cM} {L : cL} {x v : Int32} {Z : cM → Prop} (a m : Nat) (h : ∀ M' : cM, wr M M' 5 a (bys 4 m) → Z M') (hv : v = nI m) (ha : a + 3 < 5000 := by omega) (hx : x = nI a := by first | rfl | exact nI_add _ _ | assumption) : wp_X7_putInt_5 M L x v Z := by
  subst hx
  unfold wp_X7_putInt_5
  have hu : u32 v = m % 4294967296 := by rw [hv, u32_nI]
  refine r_putTwo_5 a (m % 4294967296 / 65536) (fun M1 w1 => ?_) ?_ (by omega) rfl
  · refine r_putTwo_5 (a + 2) m (fun M2 w2 => h M2 ?_) hv (by omega) (nI_add a 2)
    rw [show bys 4 m = bys 2 (m % 4294967296 / 65536) ++ bys 2 m by rw [bys_add 2 2 m]; congr 1; apply bys_cut; show m / 65536 % 65536 = m % 4294967296 / 65536 % 65536; omega]
    exact wr_app w1 w2 (by rw [bys_len])
  · rw [← hu, ← u32_ushr16, nI_u32]
theorem l_sar32 (v : Int64) : u32 ((v >>> ((32 : Int32).toInt64 &&& 63)).toInt32) = uN v / 4294967296 := by
  have e : ((v >>> ((32 : Int32).toInt64 &&& 63)).toInt32).toBitVec = ((v.toBitVec.sshiftRight' ((((32 : Int32).toInt64 &&& 63)).toBitVec.smod 64))).signExtend 32 := rfl
  show ((v >>> ((32 : Int32).toInt64 &&& 63)).toInt32).toBitVec.toNat = v.toBitVec.toNat / 4294967296
  rw [e, show (((32 : Int32).toInt64 &&& 63)).toBitVec.smod 64 = 32#64 by decide, BitVec.signExtend_eq_setWidth_of_le _ (by decide)]
  apply Nat.eq_of_testBit_eq
  intro i
  have h2 : (v.toBitVec.toNat / 4294967296).testBit i = v.toBitVec.toNat.testBit (32 + i) := by
    rw [show (4294967296 : Nat) = 2 ^ 32 from rfl, Nat.testBit_div_two_pow, Nat.add_comm]
  rw [h2, BitVec.testBit_toNat, BitVec.testBit_toNat, BitVec.getLsbD_setWidth]
  show (decide (i < 32) && (BitVec.sshiftRight v.toBitVec 32).getLsbD i) = _
  rw [BitVec.getLsbD_sshiftRight]
  by_cases hi : i < 32
  · simp [hi, show ¬ 64 ≤ i by omega, show 32 + i < 64 by omega]
  · simp [hi, BitVec.getLsbD_of_ge v.toBitVec (32 + i) (by omega)]
theorem r_putLong {M : cM} {L : cL} {x : Int32} {v : Int64} {Z : cM → Prop} (a : Nat) (h : ∀ M' : cM, wr M M' 3 a (bys 8 (uN v)) → Z M') (ha : a + 7 < 16000 := by omega) (hx : x = nI a := by first | rfl | exact nI_add _ _ | assumption) : wp_X7_putLong_3 M L x v Z := by
  subst hx
  unfold wp_X7_putLong_3
  refine r_putInt_3 a (uN v / 4294967296) (fun M1 w1 => ?_) ?_ (by omega) rfl
  · refine r_putInt_3 (a + 4) (uN v) (fun M2 w2 => h M2 ?_) ?_ (by omega) (nI_add a 4)
    · rw [show bys 8 (uN v) = bys 4 (uN v / 4294967296) ++ bys 4 (uN v) from bys_add 4 4 _]
      exact wr_app w1 w2 (by rw [bys_len])
    · rw [← lN_uN v, lN_i, lN_uN]
  · rw [← l_sar32, nI_u32]
theorem r_long {M : cM} {L : cL} {x : Int32} {Z : Int64 → Prop} (k : Nat) (h : Z (lN (num8 (at8 (M 1) 2400) k 8))) (hk : k + 7 < 2400 := by omega) (hx : x = nI k := by first | rfl | exact nI_add _ _ | assumption) : wp_X7_longAt_1 M L x Z := by
  subst hx
  unfold wp_X7_longAt_1
  refine r_int_1 k (r_int_1 (k + 4) ?_ (by omega) (nI_add k 4)) (by omega) rfl
  have h1 := num8_lt (at8_lt (M 1) 2400) k 4
  have h2 := num8_lt (at8_lt (M 1) 2400) (k + 4) 4
  rw [l_join, u32_nI, u32_nI, Nat.mod_eq_of_lt h1, Nat.mod_eq_of_lt h2, ← num8_8]
  exact h
theorem r_more {M : cM} {L : cL} {x : Int32} {Z : Int32 → cM → Prop} (a k : Nat) (h : ∀ M' : cM, wr M M' 3 a (List.replicate k 0) → Z (nI a) (mu M' 0 20 (nI (a + k)))) (ho : M 0 20 = nI a) (ha : a + k ≤ 16000 := by omega) (hx : x = nI k := by first | rfl | exact nI_add _ _ | assumption) : wp_X7_more_0 M L x Z := by
  subst hx
  unfold wp_X7_more_0
  rintro x1 rfl
  rw [ho]
  refine ⟨fun x2 M3 => ∃ i, i ≤ k ∧ x2 = nI i ∧ wr M M3 3 a (List.replicate i 0), fun x2 _ => k - x2.toNatClampNeg, ⟨0, Nat.zero_le _, rfl, wr_nil _ _ _⟩, ?_⟩
  rintro x2 M3 ⟨i, hi, rfl, w⟩
  refine pk_le k i (fun c => ?_) (fun c => ?_) rfl rfl (by omega) (by omega)
  · rintro M5 rfl
    have e : i = k := by omega
    subst e
    rw [w.1 0 (by decide), ho, nI_add]
    exact h M3 w
  · rw [nI_add]
    refine ⟨vp_in_nI (by omega) (by decide), ?_⟩
    rintro M6 rfl x7 rfl
    rw [nI_clamp (by omega)]
    refine ⟨⟨i + 1, by omega, nI_1 _, ?_⟩, ?_⟩
    · rw [List.replicate_succ']
      exact wr_app w (r_byte_3 (v := 0) (a + i) 0 (by decide)) (by rw [List.length_replicate])
    · dsimp only; rw [nI_1, nI_clamp (by omega), nI_clamp (by omega)]; omega
theorem seg_snoc (g : Nat → Nat) (a k : Nat) : seg g a (k + 1) = seg g a k ++ [g (a + k)] := by
  induction k generalizing a with
  | zero => rfl
  | succ k ih =>
    show g a :: seg g (a + 1) (k + 1) = g a :: seg g (a + 1) k ++ [g (a + (k + 1))]
    rw [ih, show a + 1 + k = a + (k + 1) by omega]; rfl
theorem r_carry {M : cM} {L : cL} {x y : Int32} {Z : cM → Prop} (a k : Nat) (h : ∀ M' : cM, wr M M' 5 0 (seg (at8 (M 1) 2400) a k) → Z (mu M' 0 24 (nI k))) (hk : a + k ≤ 2400 := by omega) (hx : x = nI a := by first | rfl | exact nI_add _ _ | assumption) (hy : y = nI k := by first | rfl | exact nI_add _ _ | assumption) : wp_X7_carry_0_1 M L x y Z := by
  subst hx hy
  unfold wp_X7_carry_0_1
  refine ⟨fun x2 M3 => ∃ i, i ≤ k ∧ x2 = nI i ∧ wr M M3 5 0 (seg (at8 (M 1) 2400) a i), fun x2 _ => k - x2.toNatClampNeg, ⟨0, Nat.zero_le _, rfl, wr_nil _ _ _⟩, ?_⟩
  rintro x2 M3 ⟨i, hi, rfl, w⟩
  refine pk_le k i (fun c => ?_) (fun c => ?_) rfl rfl (by omega) (by omega)
  · rintro M5 rfl
    have e : i = k := by omega
    subst e
    exact h M3 w
  · rw [nI_add]
    refine ⟨vp_in_nI (by omega) (by decide), vp_in_nI (by omega) (by decide), ?_⟩
    rintro M6 rfl x7 rfl
    rw [nI_clamp (by omega), nI_clamp (by omega)]
    refine ⟨⟨i + 1, by omega, nI_1 _, ?_⟩, ?_⟩
    · rw [seg_snoc]
      refine wr_app (b := i) w ⟨fun c' hc => mu_ne _ _ _ _ hc, fun j hj => mu_oth _ _ _ _ (by rw [List.length_singleton] at hj; omega), ⟨⟨?_, ?_⟩, trivial⟩⟩ (by rw [seg_len, Nat.zero_add])
      · rw [mu_at]; exact isBy_nar _
      · rw [mu_at, oc_nar, w.1 1 (by decide), at8_in (by omega)]
    · dsimp only; rw [nI_1, nI_clamp (by omega), nI_clamp (by omega)]; omega
