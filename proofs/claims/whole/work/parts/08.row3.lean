/-! what is written: l at a in cell c, and nothing else -/
def wr (M M' : cM) (c a : Nat) (l : List Nat) : Prop := (∀ c', c' ≠ c → M' c' = M c') ∧ (∀ j, j < a ∨ a + l.length ≤ j → M' c j = M c j) ∧ holds (M' c) a l
theorem wr_app {M M1 M2 : cM} {c a b : Nat} {l m : List Nat} (h : wr M M1 c a l) (h2 : wr M1 M2 c b m) (e : b = a + l.length) : wr M M2 c a (l ++ m) := by
  subst e
  refine ⟨fun c' hc => (h2.1 c' hc).trans (h.1 c' hc), fun j hj => ?_, holds_app.mpr ⟨holds_congr (fun j _ hj => h2.2.1 j (by omega)) h.2.2, h2.2.2⟩⟩
  rw [List.length_append] at hj
  rw [h2.2.1 j (by omega), h.2.1 j (by omega)]
theorem wr_spl {M M1 M2 : cM} {c a b k : Nat} {l s : List Nat} (h : wr M M1 c a l) (h2 : wr M1 M2 c b s) (e : b = a + k) (hk : k + s.length ≤ l.length) : wr M M2 c a (spl l k s) := by
  subst e
  refine ⟨fun c' hc => (h2.1 c' hc).trans (h.1 c' hc), fun j hj => ?_, holds_spl h.2.2 hk h2.2.2 h2.2.1⟩
  rw [spl_len hk] at hj
  rw [h2.2.1 j (by omega), h.2.1 j (by omega)]
theorem wr_nil (M : cM) (c a : Nat) : wr M M c a [] := ⟨fun _ _ => rfl, fun _ _ => rfl, trivial⟩
theorem wr_mod {M M' : cM} {c a : Nat} {l l' : List Nat} (h : wr M M' c a l) (e : l = l') : wr M M' c a l' := e ▸ h
theorem wr_keep {M M' : cM} {c a b : Nat} {l m : List Nat} (h : wr M M' c a l) (hm : holds (M c) b m) (e : b + m.length ≤ a ∨ a + l.length ≤ b) : holds (M' c) b m :=
  holds_congr (fun j h1 h2 => h.2.1 j (by omega)) hm
theorem pw256 (k : Nat) : 2 ^ (8 * k) = 256 ^ k := by rw [Nat.pow_mul]
theorem div_mod_cut (n w k : Nat) (h : k < w) : n % 256 ^ w / 256 ^ k % 256 = n / 256 ^ k % 256 := by
  have e : (256 : Nat) ^ w = 256 ^ k * 256 ^ (w - k) := by rw [← Nat.pow_add]; congr 1; omega
  rw [e, Nat.mod_mul_right_div_self, Nat.mod_mod_of_dvd]
  exact ⟨256 ^ (w - k - 1), by rw [← Nat.pow_succ']; congr 1; omega⟩
theorem bys_cut {w n m : Nat} (h : n % 256 ^ w = m % 256 ^ w) : bys w n = bys w m := by
  apply List.ext_getElem?
  intro i
  by_cases hi : i < w
  · have e1 := bys_getD w n i hi
    have e2 := bys_getD w m i hi
    rw [List.getD_eq_getElem?_getD] at e1 e2
    have l1 : i < (bys w n).length := by rw [bys_len]; exact hi
    have l2 : i < (bys w m).length := by rw [bys_len]; exact hi
    rw [List.getElem?_eq_getElem l1] at e1 ⊢
    rw [List.getElem?_eq_getElem l2] at e2 ⊢
    simp only [Option.getD_some] at e1 e2
    rw [e1, e2, ← div_mod_cut n w _ (by omega), ← div_mod_cut m w _ (by omega), h]
  · rw [List.getElem?_eq_none (by rw [bys_len]; omega), List.getElem?_eq_none (by rw [bys_len]; omega)]
/-- a number of 32 bits, without sign -/
def u32 (x : Int32) : Nat := x.toBitVec.toNat
theorem u32_lt (x : Int32) : u32 x < 4294967296 := x.toBitVec.isLt
theorem nI_u32 (x : Int32) : nI (u32 x) = x := by
  unfold nI u32
  apply Int32.toBitVec_inj.mp
  show BitVec.ofNat 32 x.toBitVec.toNat = x.toBitVec
  rw [BitVec.ofNat_toNat, BitVec.setWidth_eq]
theorem u32_nI (n : Nat) : u32 (nI n) = n % 4294967296 := by
  show (BitVec.ofNat 32 n).toNat = _
  rw [BitVec.toNat_ofNat]
theorem uN_lN (n : Nat) : uN (lN n) = n % 18446744073709551616 := by
  show (BitVec.ofNat 64 n).toNat = _
  rw [BitVec.toNat_ofNat]
theorem lN_uN (x : Int64) : lN (uN x) = x := by
  apply uN_inj
  rw [uN_lN, Nat.mod_eq_of_lt (uN_lt x)]
theorem uN_i2l (x : Int32) : uN x.toInt64 % 4294967296 = u32 x := by
  show (x.toBitVec.signExtend 64).toNat % 4294967296 = x.toBitVec.toNat
  have h := BitVec.toNat_signExtend x.toBitVec (v := 64)
  rw [h, BitVec.toNat_setWidth]
  have := x.toBitVec.isLt
  split <;> omega
theorem u32_l2i (x : Int64) : u32 x.toInt32 = uN x % 4294967296 := by
  show (x.toBitVec.signExtend 32).toNat = x.toBitVec.toNat % 4294967296
  rw [BitVec.signExtend_eq_setWidth_of_le _ (by decide), BitVec.toNat_setWidth]
theorem hv_n (w n : Nat) (h : n < 18446744073709551616) : uN (lN n) % 256 ^ w = n % 256 ^ w := by rw [uN_lN, Nat.mod_eq_of_lt h]
theorem hv_i4 (x : Int32) : uN x.toInt64 % 256 ^ 4 = u32 x % 256 ^ 4 := by
  have := uN_i2l x
  have := u32_lt x
  have e : (256 : Nat) ^ 4 = 4294967296 := by decide
  rw [e]; omega
theorem mod_down {a b : Nat} {w : Nat} (hw : w ≤ 4) (h : a % 4294967296 = b % 4294967296) : a % 256 ^ w = b % 256 ^ w := by
  have e : (4294967296 : Nat) = 256 ^ w * 256 ^ (4 - w) := by rw [← Nat.pow_add, show w + (4 - w) = 4 by omega]
  rw [e] at h
  rw [← Nat.mod_mul_right_mod a, h, Nat.mod_mul_right_mod]
theorem hv_i (w : Nat) (hw : w ≤ 4) (n : Nat) (x : Int32) (h : x = nI n) : uN x.toInt64 % 256 ^ w = n % 256 ^ w := by
  subst h
  apply mod_down hw
  rw [uN_i2l, u32_nI]

theorem p_at_1 {M : cM} {L : cL} {x : Int32} {Z : Int32 → Prop} (k : Nat) (h : Z (nI (at8 (M 2) 2400 k))) (hk : k < 2 ^ 31 := by omega) (hx : x = nI k := by first | rfl | exact nI_add _ _ | assumption) : wp_X4_at_1 M L x Z := by
  subst hx; exact sp_at_1 hk h
theorem p_word_1 {M : cM} {L : cL} {x : Int32} {Z : Int32 → Prop} (k : Nat) (h : Z (nI (wd8 (at8 (M 2) 2400) k))) (hk : k + 1 < 2400 := by omega) (hx : x = nI k := by first | rfl | exact nI_add _ _ | assumption) : wp_X4_word_1 M L x Z := by
  subst hx; exact sp_word_1 hk h
theorem p_sum_1 {M : cM} {L : cL} {x y : Int32} {Z : Int64 → Prop} (a b : Nat) (h : Z (lN (sm8 (at8 (M 2) 2400) a (b - a)))) (hab : a ≤ b := by omega) (hb : b < 2 ^ 30 := by omega) (hx : x = nI a := by first | rfl | exact nI_add _ _ | assumption) (hy : y = nI b := by first | rfl | exact nI_add _ _ | assumption) : wp_X4_sum_1 M L x y Z := by
  subst hx hy; exact sp_sum_1 hab hb h
theorem p_put_1 {M : cM} {L : cL} {x y : Int32} {v : Int64} {Z : cM → Prop} (a w m : Nat) (hv : uN v % 256 ^ w = m % 256 ^ w) (h : ∀ M' : cM, wr M M' 2 a (bys w m) → Z M') (hw : w ≤ 8 := by omega) (ha : a + w ≤ 2400 := by omega) (hx : x = nI a := by first | rfl | exact nI_add _ _ | assumption) (hy : y = nI w := by first | rfl | exact nI_add _ _ | assumption) : wp_X4_put_1 M L x y v Z := by
  subst hx hy
  refine sp_put_1 hw ha (fun M' h1 h2 h3 => h M' ⟨h1, ?_, ?_⟩)
  · rw [bys_len]; exact h2
  · rw [← bys_cut hv]
    apply holds_of
    intro k hk
    rw [bys_len] at hk
    rw [bys_getD w _ k hk, ← pw256]
    exact h3 k hk
theorem p_at_3 {M : cM} {L : cL} {x : Int32} {Z : Int32 → Prop} (k : Nat) (h : Z (nI (at8 (M 4) 2408 k))) (hk : k < 2 ^ 31 := by omega) (hx : x = nI k := by first | rfl | exact nI_add _ _ | assumption) : wp_X4_at_3 M L x Z := by
  subst hx; exact sp_at_3 hk h
theorem p_word_3 {M : cM} {L : cL} {x : Int32} {Z : Int32 → Prop} (k : Nat) (h : Z (nI (wd8 (at8 (M 4) 2408) k))) (hk : k + 1 < 2408 := by omega) (hx : x = nI k := by first | rfl | exact nI_add _ _ | assumption) : wp_X4_word_3 M L x Z := by
  subst hx; exact sp_word_3 hk h
theorem p_sum_3 {M : cM} {L : cL} {x y : Int32} {Z : Int64 → Prop} (a b : Nat) (h : Z (lN (sm8 (at8 (M 4) 2408) a (b - a)))) (hab : a ≤ b := by omega) (hb : b < 2 ^ 30 := by omega) (hx : x = nI a := by first | rfl | exact nI_add _ _ | assumption) (hy : y = nI b := by first | rfl | exact nI_add _ _ | assumption) : wp_X4_sum_3 M L x y Z := by
  subst hx hy; exact sp_sum_3 hab hb h
theorem p_put_3 {M : cM} {L : cL} {x y : Int32} {v : Int64} {Z : cM → Prop} (a w m : Nat) (hv : uN v % 256 ^ w = m % 256 ^ w) (h : ∀ M' : cM, wr M M' 4 a (bys w m) → Z M') (hw : w ≤ 8 := by omega) (ha : a + w ≤ 2408 := by omega) (hx : x = nI a := by first | rfl | exact nI_add _ _ | assumption) (hy : y = nI w := by first | rfl | exact nI_add _ _ | assumption) : wp_X4_put_3 M L x y v Z := by
  subst hx hy
  refine sp_put_3 hw ha (fun M' h1 h2 h3 => h M' ⟨h1, ?_, ?_⟩)
  · rw [bys_len]; exact h2
  · rw [← bys_cut hv]
    apply holds_of
    intro k hk
    rw [bys_len] at hk
    rw [bys_getD w _ k hk, ← pw256]
    exact h3 k hk
theorem p_at_6 {M : cM} {L : cL} {x : Int32} {Z : Int32 → Prop} (k : Nat) (h : Z (nI (at8 (M 7) 3332 k))) (hk : k < 2 ^ 31 := by omega) (hx : x = nI k := by first | rfl | exact nI_add _ _ | assumption) : wp_X4_at_6 M L x Z := by
  subst hx; exact sp_at_6 hk h
theorem p_sum_6 {M : cM} {L : cL} {x y : Int32} {Z : Int64 → Prop} (a b : Nat) (h : Z (lN (sm8 (at8 (M 7) 3332) a (b - a)))) (hab : a ≤ b := by omega) (hb : b < 2 ^ 30 := by omega) (hx : x = nI a := by first | rfl | exact nI_add _ _ | assumption) (hy : y = nI b := by first | rfl | exact nI_add _ _ | assumption) : wp_X4_sum_6 M L x y Z := by
  subst hx hy; exact sp_sum_6 hab hb h
theorem p_put_6 {M : cM} {L : cL} {x y : Int32} {v : Int64} {Z : cM → Prop} (a w m : Nat) (hv : uN v % 256 ^ w = m % 256 ^ w) (h : ∀ M' : cM, wr M M' 7 a (bys w m) → Z M') (hw : w ≤ 8 := by omega) (ha : a + w ≤ 3332 := by omega) (hx : x = nI a := by first | rfl | exact nI_add _ _ | assumption) (hy : y = nI w := by first | rfl | exact nI_add _ _ | assumption) : wp_X4_put_6 M L x y v Z := by
  subst hx hy
  refine sp_put_6 hw ha (fun M' h1 h2 h3 => h M' ⟨h1, ?_, ?_⟩)
  · rw [bys_len]; exact h2
  · rw [← bys_cut hv]
    apply holds_of
    intro k hk
    rw [bys_len] at hk
    rw [bys_getD w _ k hk, ← pw256]
    exact h3 k hk
theorem p_number_1 {M : cM} {L : cL} {x y : Int32} {Z : Int64 → Prop} (a w : Nat) (h : Z (lN (num8 (at8 (M 2) 2400) a w))) (ha : a + w < 2 ^ 30 := by omega) (hw : w ≤ 8 := by omega) (hx : x = nI a := by first | rfl | exact nI_add _ _ | assumption) (hy : y = nI w := by first | rfl | exact nI_add _ _ | assumption) : wp_X4_number_1 M L x y Z := by
  subst hx hy; exact sp_number_1 ha hw h
theorem p_copy_3_1 {M : cM} {L : cL} {x y z : Int32} {Z : cM → Prop} (sp dp n : Nat) (hf : ∀ i, i < n → isBy (M 2 (sp + i))) (h : ∀ M' : cM, wr M M' 4 dp (seg (at8 (M 2) 2400) sp n) → Z M') (h4 : sp + n ≤ 2400 := by omega) (h5 : dp + n ≤ 2408 := by omega) (hx : x = nI sp := by first | rfl | exact nI_add _ _ | assumption) (hy : y = nI dp := by first | rfl | exact nI_add _ _ | assumption) (hz : z = nI n := by first | rfl | exact nI_add _ _ | assumption) : wp_X4_copy_3_1 M L x y z Z := by
  subst hx hy hz
  refine sp_copy_3_1 h4 h5 hf (fun M' h1 h2 h3 => h M' ⟨h1, ?_, ?_⟩)
  · rw [seg_len]; exact h2
  · apply holds_of
    intro k hk
    rw [seg_len] at hk
    rw [seg_getD _ _ _ _ hk, h3 k hk, at8_in (by omega)]
    exact ⟨hf k hk, rfl⟩
theorem p_copy_6_1 {M : cM} {L : cL} {x y z : Int32} {Z : cM → Prop} (sp dp n : Nat) (hf : ∀ i, i < n → isBy (M 2 (sp + i))) (h : ∀ M' : cM, wr M M' 7 dp (seg (at8 (M 2) 2400) sp n) → Z M') (h4 : sp + n ≤ 2400 := by omega) (h5 : dp + n ≤ 3332 := by omega) (hx : x = nI sp := by first | rfl | exact nI_add _ _ | assumption) (hy : y = nI dp := by first | rfl | exact nI_add _ _ | assumption) (hz : z = nI n := by first | rfl | exact nI_add _ _ | assumption) : wp_X4_copy_6_1 M L x y z Z := by
  subst hx hy hz
  refine sp_copy_6_1 h4 h5 hf (fun M' h1 h2 h3 => h M' ⟨h1, ?_, ?_⟩)
  · rw [seg_len]; exact h2
  · apply holds_of
    intro k hk
    rw [seg_len] at hk
    rw [seg_getD _ _ _ _ hk, h3 k hk, at8_in (by omega)]
    exact ⟨hf k hk, rfl⟩
theorem p_copy_6_3 {M : cM} {L : cL} {x y z : Int32} {Z : cM → Prop} (sp dp n : Nat) (hf : ∀ i, i < n → isBy (M 4 (sp + i))) (h : ∀ M' : cM, wr M M' 7 dp (seg (at8 (M 4) 2408) sp n) → Z M') (h4 : sp + n ≤ 2408 := by omega) (h5 : dp + n ≤ 3332 := by omega) (hx : x = nI sp := by first | rfl | exact nI_add _ _ | assumption) (hy : y = nI dp := by first | rfl | exact nI_add _ _ | assumption) (hz : z = nI n := by first | rfl | exact nI_add _ _ | assumption) : wp_X4_copy_6_3 M L x y z Z := by
  subst hx hy hz
  refine sp_copy_6_3 h4 h5 hf (fun M' h1 h2 h3 => h M' ⟨h1, ?_, ?_⟩)
  · rw [seg_len]; exact h2
  · apply holds_of
    intro k hk
    rw [seg_len] at hk
    rw [seg_getD _ _ _ _ hk, h3 k hk, at8_in (by omega)]
    exact ⟨hf k hk, rfl⟩
/-! folding -/
theorem l_and16 {s : Nat} (h : s < 2 ^ 64) : lN s &&& (65535 : Int64) = lN (s % 65536) := g_mask (s := 16) (p := 65536) (by decide) (by decide) h
theorem l_shr16 {s : Nat} (h : s < 2 ^ 64) : ((lN s).toUInt64 >>> ((16 : Int32).toInt64.toUInt64 &&& Int64.toUInt64 63)).toInt64 = lN (s / 65536) := wb_shr (k := 16) h (by decide)
theorem l_sar16 {s : Nat} (h : s < 2 ^ 62) : lN s >>> ((16 : Int32).toInt64 &&& 63) = lN (s / 65536) := pf_shr (d := 16) (by decide) h
theorem p_folded {M : cM} {L : cL} {x : Int64} {Z : Int32 → Prop} (s : Nat) (h : Z (nI (fo s))) (hs : s < 2 ^ 40) (hx : x = lN s) : wp_X6_folded M L x Z := by
  subst hx
  unfold wp_X6_folded
  refine ⟨fun x1 x2 => ∃ t k, x1 = lN t ∧ x2 = nI k ∧ fo t = fo s ∧ k ≤ 8 ∧ t < 2 ^ 40 ∧ (1 ≤ k → t < 2 ^ 25) ∧ (2 ≤ k → t < 2 ^ 17) ∧ (3 ≤ k → t ≤ 65536) ∧ (4 ≤ k → t ≤ 65535), fun _ x2 => 8 - x2.toNatClampNeg, ⟨s, 0, rfl, rfl, rfl, by omega, hs, by omega, by omega, by omega, by omega⟩, ?_⟩
  rintro x1 x2 ⟨t, k, rfl, rfl, ht, hk, b0, b1, b2, b3, b4⟩
  have hz : t ≤ 65535 → Z (lN t).toInt32 := by
    intro z
    rw [lN_i, ← fo_small z, ht]; exact h
  refine pk_le 8 k (fun c => hz (by omega)) (fun c => ?_)
  rw [lg_cmp_le]
  refine ⟨fun c2 => hz ((pk_lLE (a := t) (b := 65535) (by omega) (by omega)).mp c2), fun c2 => ?_⟩
  have c3 : 65535 < t := by
    apply Nat.lt_of_not_le
    intro z
    exact c2 ((pk_lLE (a := t) (b := 65535) (by omega) (by omega)).mpr z)
  rintro x5 rfl x6 rfl
  rw [l_and16 (by omega), l_shr16 (by omega), lN_add]
  refine ⟨⟨t % 65536 + t / 65536, k + 1, rfl, nI_1 k, (fo_step (by omega)).trans ht, by omega, by omega, by omega, by omega, by omega, by omega⟩, ?_⟩
  dsimp only
  rw [show nI k + (1 : Int32) = nI (k + 1) from nI_1 k, nI_clamp (by omega), nI_clamp (by omega)]
  omega
theorem p_checksum {M : cM} {L : cL} {x : Int64} {Z : Int32 → Prop} (s : Nat) (h : Z (nI (65535 - fo s))) (hs : s < 2 ^ 40) (hx : x = lN s) : wp_X6_checksum M L x Z := by
  unfold wp_X6_checksum
  refine p_folded s ?_ hs hx
  rw [show (65535 : Int32) - nI (fo s) = nI (65535 - fo s) from pk_sub (a := 65535) (fo_le s)]
  exact h
/-- a checksum turned from some words to others -/
def adj (old fr k to : Nat) : Nat := 65535 - fo (65535 - old + (65535 * k - fr) + to)
theorem p_adjusted {M : cM} {L : cL} {x y : Int32} {f t : Int64} {Z : Int32 → Prop} (old fr k to : Nat) (h : Z (nI (adj old fr k to))) (ho : old ≤ 65535) (hk : k ≤ 1000) (hfr : fr ≤ 65535 * k) (ht : to < 2 ^ 39) (hx : x = nI old) (hf : f = lN fr) (hy : y = nI k) (hto : t = lN to) : wp_X6_adjusted M L x f y t Z := by
  subst hx hf hy hto
  unfold wp_X6_adjusted
  refine p_folded (65535 - old + (65535 * k - fr) + to) ?_ (by omega) ?_
  · rw [show (65535 : Int32) - nI (fo (65535 - old + (65535 * k - fr) + to)) = nI (65535 - fo (65535 - old + (65535 * k - fr) + to)) from pk_sub (a := 65535) (fo_le _)]
    exact h
  · rw [show (65535 : Int32) - nI old = nI (65535 - old) from pk_sub (a := 65535) ho, nI_l (by omega), nI_l (by omega), show (65535 : Int64) * lN k = lN (65535 * k) from lN_mul 65535 k, lN_sub hfr, lN_add, lN_add]
/-- the reference's way: word by word -/
theorem r_word {M : cM} {L : cL} {x : Int32} {Z : cL → Prop} (s w : Nat) (h : ∀ L' : cL, (∀ c', c' ≠ 0 → L' c' = L c') → (∀ j, j ≠ 18 → L' 0 j = L 0 j) → L' 0 18 = lN (fo (s + w)) → Z L') (hs : L 0 18 = lN s) (hs2 : s ≤ 65535 := by omega) (hw : w ≤ 65535 := by omega) (hx : x = nI w := by first | rfl | exact nI_add _ _ | assumption) : wp_X7_word_0 M L x Z := by
  subst hx
  unfold wp_X7_word_0
  rintro L1 rfl
  refine ⟨fun L2 => ∃ t, L2 0 18 = lN t ∧ fo t = fo (s + w) ∧ t < 2 ^ 17 ∧ (∀ c', c' ≠ 0 → L2 c' = L c') ∧ (∀ j, j ≠ 18 → L2 0 j = L 0 j), fun L2 => (L2 0 18).toInt.toNat, ⟨s + w, ?_, rfl, by omega, fun c' hc => ml_ne _ _ _ _ hc, fun j hj => ml_oth _ _ _ _ hj⟩, ?_⟩
  · rw [ml_at, hs, nI_l (by omega), lN_add]
  rintro L2 ⟨t, h1, h2, h3, h4, h5⟩
  rw [h1, lg_cmp_le]
  refine ⟨fun c2 => ?_, fun c2 => ?_⟩
  · have c3 := (pk_lLE (a := t) (b := 65535) (by omega) (by omega)).mp c2
    refine h L2 h4 h5 ?_
    rw [h1, ← h2, fo_small c3]
  · have c3 : 65535 < t := by
      apply Nat.lt_of_not_le
      intro z
      exact c2 ((pk_lLE (a := t) (b := 65535) (by omega) (by omega)).mpr z)
    rintro L4 rfl
    rw [l_and16 (by omega), l_sar16 (by omega), lN_add]
    refine ⟨⟨t % 65536 + t / 65536, ml_at _ _ _ _, (fo_step (by omega)).trans h2, by omega, fun c' hc => (ml_ne _ _ _ _ hc).trans (h4 c' hc), fun j hj => (ml_oth _ _ _ _ hj).trans (h5 j hj)⟩, ?_⟩
    dsimp only
    rw [ml_at, h1, pk_lT (by omega), pk_lT (by omega)]
    omega
