def upA (H : Int64) (B n : Nat) : Int64 := if B = 96 then H else H ||| lN (n / 2 ^ (B - 32))
def loA (Lo : Int64) (B n : Nat) : Int64 := if B = 96 then Lo ||| lN n else lN (n % 2 ^ (B - 32) * 2 ^ (88 - B))
/-- a prefix that may be set -/
def pfx (H Lo : Int64) (B : Nat) : Prop := (32 ≤ B ∧ B ≤ 64 ∧ B % 8 = 0 ∧ Lo = 0 ∧ uN H % 2 ^ (64 - B) = 0) ∨ (B = 96 ∧ uN Lo / 2 ^ 56 = 0 ∧ uN Lo % 2 ^ 32 = 0)
theorem pfx_B {H Lo : Int64} {B : Nat} (h : pfx H Lo B) : (32 ≤ B ∧ B ≤ 64) ∨ B = 96 := by
  rcases h with h | h
  · exact Or.inl ⟨h.1, h.2.1⟩
  · exact Or.inr h.1
theorem l_low {n : Nat} (h : n < 4294967296) : (nI n).toInt64 &&& (4294967295 : Int64) = lN n := by
  apply uN_inj
  rw [uN_lo, uN_i2l, u32_nI, uN_lN]
  omega
theorem p_upper {M : cM} {L : cL} {x : Int32} {Z : Int64 → Prop} (H : Int64) (B n : Nat) (h : Z (upA H B n)) (hn : n < 4294967296) (hB : (32 ≤ B ∧ B ≤ 64) ∨ B = 96) (h0 : L 10 0 = H) (h2 : M 10 2 = nI B) (hx : x = nI n) : wp_X1_upperOf_10 M L x Z := by
  subst hx
  unfold wp_X1_upperOf_10 wp_X1_bitsBehind_10
  rw [h0, h2]
  refine qen _ _ (fun c => ?_) (fun c => ?_) rfl (by omega) (by omega)
  · unfold upA at h; rw [if_pos c] at h; exact h
  · unfold upA at h; rw [if_neg c] at h
    rw [l_low hn, show nI B - (32 : Int32) = nI (B - 32) from pk_sub (b := 32) (by omega), wb_shr (by omega) (by omega)]
    exact h
theorem p_lower {M : cM} {L : cL} {x : Int32} {Z : Int64 → Prop} (Lo : Int64) (B n : Nat) (h : Z (loA Lo B n)) (hn : n < 4294967296) (hB : (32 ≤ B ∧ B ≤ 64) ∨ B = 96) (h0 : L 10 1 = Lo) (h2 : M 10 2 = nI B) (hx : x = nI n) : wp_X1_lowerOf_10 M L x Z := by
  subst hx
  unfold wp_X1_lowerOf_10 wp_X1_bitsBehind_10
  rw [h0, h2]
  rintro x1 rfl
  rw [l_low hn]
  refine qen _ _ (fun c => ?_) (fun c => ?_) rfl (by omega) (by omega)
  · unfold loA at h; rw [if_pos c] at h; exact h
  · unfold loA at h; rw [if_neg c] at h
    rintro x4 rfl
    rw [show nI B - (32 : Int32) = nI (B - 32) from pk_sub (b := 32) (by omega), show (56 : Int32) - nI (B - 32) = nI (56 - (B - 32)) from pk_sub (a := 56) (by omega), show (1 : Int64) <<< ((nI (B - 32)).toInt64 &&& 63) = lN (1 * 2 ^ (B - 32)) from wb_shl 1 (by omega), Nat.one_mul, show lN (2 ^ (B - 32)) - (1 : Int64) = lN (2 ^ (B - 32) - 1) from lN_sub (b := 1) (Nat.one_le_two_pow), wb_mask (by omega) (by omega), wb_shl _ (by omega), show 56 - (B - 32) = 88 - B by omega]
    exact h
theorem mk_step (D : Int64) (m s c : Nat) (hb : m / 2 ^ s * 2 ^ c < 2 ^ 64) : (D ||| lN (m / 2 ^ (s + 1) * 2 ^ (c + 1))) ||| lN (m / 2 ^ s % 2 * 2 ^ c) = D ||| lN (m / 2 ^ s * 2 ^ c) := by
  rw [Int64.or_assoc]
  have e : m / 2 ^ (s + 1) = m / 2 ^ s / 2 := by rw [Nat.pow_succ, Nat.div_div_eq_div_mul]
  have e2 : m / 2 ^ s / 2 * 2 ^ (c + 1) + m / 2 ^ s % 2 * 2 ^ c = m / 2 ^ s * 2 ^ c := by
    rw [Nat.pow_succ, Nat.mul_comm (2 ^ c) 2, ← Nat.mul_assoc, ← Nat.add_mul]
    congr 1; omega
  rw [e, g_or (k := c + 1) rfl ?_ (by omega), e2]
  have h1 : m / 2 ^ s % 2 < 2 := Nat.mod_lt _ (by decide)
  have h2 : 0 < 2 ^ c := Nat.two_pow_pos c
  rw [Nat.pow_succ, Nat.mul_comm (2 ^ c) 2]
  exact Nat.mul_lt_mul_of_pos_right h1 h2
theorem bit_cut (n a s : Nat) (h : s < a) : n % 2 ^ a / 2 ^ s % 2 = n / 2 ^ s % 2 := by
  have e : (2 : Nat) ^ a = 2 ^ s * 2 ^ (a - s) := by rw [← Nat.pow_add]; congr 1; omega
  rw [e, Nat.mod_mul_right_div_self, Nat.mod_mod_of_dvd]
  exact ⟨2 ^ (a - s - 1), by rw [← Nat.pow_succ']; congr 1; omega⟩
theorem im1 (a : Nat) : nI a + (-1) + 1 = nI a := by
  rw [Int32.add_assoc, show (-1 : Int32) + 1 = 0 by decide, Int32.add_zero]
theorem bitOf {n i : Nat} (hn : n < 4294967296) (hi : i < 32) : ((((nI n).toUInt32 >>> ((nI i).toUInt32 &&& Int32.toUInt32 31)).toInt32) &&& (1 : Int32)).toInt64 = lN (n / 2 ^ i % 2) := by
  have hd : n / 2 ^ i ≤ n := Nat.div_le_self _ _
  rw [pk_ushrN (by omega) (nI i) i (s_u i hi), show nI (n / 2 ^ i) &&& (1 : Int32) = nI (n / 2 ^ i % 2) from pk_andN (by omega) 1 (by decide), nI_l (by omega)]
theorem dm_lt {n a b c : Nat} (hn : n < 2 ^ a) (h : a + c ≤ b + 64) : n / 2 ^ b * 2 ^ c < 2 ^ 64 := by
  by_cases hb : a ≤ b
  · have e : n / 2 ^ b = 0 := Nat.div_eq_of_lt (Nat.lt_of_lt_of_le hn (Nat.pow_le_pow_right (by decide) hb))
    rw [e, Nat.zero_mul]; decide
  · have h1 : n / 2 ^ b < 2 ^ (a - b) := by
      rw [Nat.div_lt_iff_lt_mul (Nat.two_pow_pos b), ← Nat.pow_add, show a - b + b = a by omega]; exact hn
    have h2 : n / 2 ^ b * 2 ^ c < 2 ^ (a - b) * 2 ^ c := Nat.mul_lt_mul_of_pos_right h1 (Nat.two_pow_pos c)
    rw [← Nat.pow_add] at h2
    exact Nat.lt_of_lt_of_le h2 (Nat.pow_le_pow_right (by decide) (by omega))
theorem r_makeImage {M : cM} {L : cL} {x : Int32} {Z : cL → Prop} (H Lo : Int64) (B n : Nat) (h : ∀ L' : cL, (∀ c', c' ≠ 0 → L' c' = L c') → (∀ j, j ≠ 15 → j ≠ 16 → L' 0 j = L 0 j) → L' 0 15 = upA H B n → L' 0 16 = loA Lo B n → Z L') (hn : n < 4294967296) (hp : pfx H Lo B) (h0 : L 0 3 = H) (h1 : L 0 4 = Lo) (h2 : M 0 5 = nI B) (hx : x = nI n) : wp_X7_makeImage_0 M L x Z := by
  subst hx
  unfold wp_X7_makeImage_0
  rintro L1 rfl L2 rfl x3 rfl
  rw [h2]
  have fr0 : ∀ c', c' ≠ 0 → ml (ml L 0 15 (L 0 3)) 0 16 (ml L 0 15 (L 0 3) 0 4) c' = L c' := fun c' hc => (ml_ne _ _ _ _ hc).trans (ml_ne _ _ _ _ hc)
  have fr1 : ∀ j, j ≠ 15 → j ≠ 16 → ml (ml L 0 15 (L 0 3)) 0 16 (ml L 0 15 (L 0 3) 0 4) 0 j = L 0 j := fun j h5 h6 => (ml_oth _ _ _ _ h6).trans (ml_oth _ _ _ _ h5)
  have v15 : ml (ml L 0 15 (L 0 3)) 0 16 (ml L 0 15 (L 0 3) 0 4) 0 15 = H := h0
  have v16 : ml (ml L 0 15 (L 0 3)) 0 16 (ml L 0 15 (L 0 3) 0 4) 0 16 = Lo := h1
  generalize ml (ml L 0 15 (L 0 3)) 0 16 (ml L 0 15 (L 0 3) 0 4) = L2 at fr0 fr1 v15 v16 ⊢
  have hn2 : n < 2 ^ 32 := hn
  rcases hp with ⟨hB1, hB2, _, hlo, _⟩ | ⟨hB, _⟩
  · have hm : n % 2 ^ (B - 32) < 2 ^ (B - 32) := Nat.mod_lt _ (Nat.two_pow_pos _)
    refine ⟨fun k i L6 => ∃ t, t ≤ 32 ∧ i = nI (32 - t) + (-1) ∧ (∀ c', c' ≠ 0 → L6 c' = L c') ∧ (∀ j, j ≠ 15 → j ≠ 16 → L6 0 j = L 0 j) ∧ ((t ≤ 64 - B ∧ k = nI (B + t) ∧ L6 0 15 = H ||| lN (n / 2 ^ (32 - t) * 2 ^ (64 - B - t)) ∧ L6 0 16 = Lo) ∨ (64 - B < t ∧ k = nI (B + t + 8) ∧ L6 0 15 = H ||| lN (n / 2 ^ (B - 32)) ∧ L6 0 16 = Lo ||| lN (n % 2 ^ (B - 32) / 2 ^ (32 - t) * 2 ^ (120 - B - t)))), fun _ i _ => (i + 1).toNatClampNeg, ⟨0, by omega, by decide, fr0, fr1, Or.inl ⟨by omega, rfl, ?_, v16⟩⟩, ?_⟩
    · rw [v15, Nat.div_eq_of_lt hn2, Nat.zero_mul]; exact (Int64.or_zero).symm
    rintro k i L6 ⟨t, ht, rfl, f0, f1, hs⟩
    by_cases ht2 : t = 32
    · subst ht2
      refine ⟨fun _ => ?_, fun c => absurd (by decide) c⟩
      refine h L6 f0 f1 ?_ ?_
      · unfold upA; rw [if_neg (by omega)]
        rcases hs with ⟨q1, _, q2, _⟩ | ⟨_, _, q2, _⟩
        · rw [q2, show 64 - B - 32 = 0 by omega, show B - 32 = 32 - 32 by omega, Nat.pow_zero, Nat.mul_one]
        · exact q2
      · unfold loA; rw [if_neg (by omega)]
        rcases hs with ⟨q1, _, _, q2⟩ | ⟨_, _, _, q2⟩
        · rw [q2, hlo, show B - 32 = 0 by omega, Nat.pow_zero, Nat.mod_one, Nat.zero_mul]; rfl
        · rw [q2, hlo, show 120 - B - 32 = 88 - B by omega, Nat.sub_self, Nat.pow_zero, Nat.div_one]; exact Int64.zero_or
    · have e1 : nI (32 - t) + (-1) = nI (31 - t) := by rw [sb_m1 (by omega)]; congr 1; omega
      rw [e1]
      refine ⟨fun c => absurd c (nI_pos (by omega)), fun _ => ?_⟩
      have hbit := bitOf (i := 31 - t) hn (by omega)
      have hme : ∀ (x8 : Int32) (L10 : cL), (nI (31 - t) + (-1) + 1).toNatClampNeg < (nI (32 - t) + (-1) + 1).toNatClampNeg := by
        intro _ _
        rw [im1, im1, nI_clamp (by omega), nI_clamp (by omega)]; omega
      have e3 : 32 - t = 31 - t + 1 := by omega
      rcases hs with ⟨q1, rfl, q2, q3⟩ | ⟨q1, rfl, q2, q3⟩
      · by_cases q4 : t = 64 - B
        · refine ⟨fun x8 => x8 = nI 72, ?_, fun c => absurd (show nI (B + t) = (64 : Int32) by rw [q4, show B + (64 - B) = 64 by omega]; rfl) c, fun _ => rfl⟩
          rintro x8 rfl x9 rfl
          rw [hbit]
          refine ⟨fun L' => L' = ml L6 0 16 ((L6 0 16) ||| (lN (n / 2 ^ (31 - t) % 2) <<< (((127 : Int32) - nI 72).toInt64 &&& 63))), ?_, fun _ L14 e => e, fun c => absurd (by decide) c⟩
          rintro L10 rfl x11 rfl x12 rfl
          refine ⟨⟨t + 1, by omega, by rw [show 32 - (t + 1) = 31 - t by omega], fun c' hc => (ml_ne _ _ _ _ hc).trans (f0 c' hc), fun j h5 h6 => (ml_oth _ _ _ _ h6).trans (f1 j h5 h6), Or.inr ⟨by omega, ?_, ?_, ?_⟩⟩, by rw [e1] at hme; exact hme 0 L6⟩
          · rw [q4, show B + (64 - B + 1) + 8 = 73 by omega]; rfl
          · rw [ml_oth _ _ _ _ (by decide), q2, show 64 - B - t = 0 by omega, Nat.pow_zero, Nat.mul_one, show 32 - t = B - 32 by omega]
          · rw [ml_at, q3, show lN (n / 2 ^ (31 - t) % 2) <<< (((127 : Int32) - nI 72).toInt64 &&& 63) = lN (n / 2 ^ (31 - t) % 2 * 2 ^ 55) from wb_shl _ (k := 55) (by decide)]
            have := mk_step Lo (n % 2 ^ (B - 32)) (31 - t) 55 (dm_lt hm (by omega))
            rw [bit_cut _ _ _ (by omega), ← e3, show 32 - t = B - 32 by omega, Nat.div_eq_of_lt hm, Nat.zero_mul, show lN 0 = 0 from rfl, Int64.or_zero] at this
            rw [this, show 32 - (t + 1) = 31 - t by omega, show 120 - B - (t + 1) = 55 by omega]
        · refine ⟨fun x8 => x8 = nI (B + t), ?_, fun _ => rfl, fun c => absurd ((nI_eq (a := B + t) (b := 64) (by omega) (by decide)).mp c) (by omega)⟩
          rintro x8 rfl x9 rfl
          rw [hbit]
          refine ⟨fun L' => L' = ml L6 0 15 ((L6 0 15) ||| (lN (n / 2 ^ (31 - t) % 2) <<< (((63 : Int32) - nI (B + t)).toInt64 &&& 63))), ?_, fun c => absurd ((nI_leI (a := 64) (b := B + t) (by decide) (by omega)).mp c) (by omega), fun _ L14 e => e⟩
          rintro L10 rfl x11 rfl x12 rfl
          refine ⟨⟨t + 1, by omega, by rw [show 32 - (t + 1) = 31 - t by omega], fun c' hc => (ml_ne _ _ _ _ hc).trans (f0 c' hc), fun j h5 h6 => (ml_oth _ _ _ _ h5).trans (f1 j h5 h6), Or.inl ⟨by omega, nI_1 _, ?_, ?_⟩⟩, by rw [e1] at hme; exact hme 0 L6⟩
          · rw [ml_at, q2, show (63 : Int32) - nI (B + t) = nI (63 - (B + t)) from pk_sub (a := 63) (by omega), wb_shl _ (by omega)]
            have := mk_step H n (31 - t) (63 - (B + t)) (dm_lt hn2 (by omega))
            rw [← e3, show 63 - (B + t) + 1 = 64 - B - t by omega] at this
            rw [this, show 32 - (t + 1) = 31 - t by omega, show 64 - B - (t + 1) = 63 - (B + t) by omega]
          · rw [ml_oth _ _ _ _ (by decide), q3]
      · refine ⟨fun x8 => x8 = nI (B + t + 8), ?_, fun _ => rfl, fun c => absurd ((nI_eq (a := B + t + 8) (b := 64) (by omega) (by decide)).mp c) (by omega)⟩
        rintro x8 rfl x9 rfl
        rw [hbit]
        refine ⟨fun L' => L' = ml L6 0 16 ((L6 0 16) ||| (lN (n / 2 ^ (31 - t) % 2) <<< (((127 : Int32) - nI (B + t + 8)).toInt64 &&& 63))), ?_, fun _ L14 e => e, fun c => absurd ((nI_leI (a := 64) (b := B + t + 8) (by decide) (by omega)).mpr (by omega)) c⟩
        rintro L10 rfl x11 rfl x12 rfl
        refine ⟨⟨t + 1, by omega, by rw [show 32 - (t + 1) = 31 - t by omega], fun c' hc => (ml_ne _ _ _ _ hc).trans (f0 c' hc), fun j h5 h6 => (ml_oth _ _ _ _ h6).trans (f1 j h5 h6), Or.inr ⟨by omega, (nI_1 _).trans (congrArg nI (by omega)), ?_, ?_⟩⟩, by rw [e1] at hme; exact hme 0 L6⟩
        · rw [ml_oth _ _ _ _ (by decide), q2]
        · rw [ml_at, q3, show (127 : Int32) - nI (B + t + 8) = nI (127 - (B + t + 8)) from pk_sub (a := 127) (by omega), wb_shl _ (by omega)]
          have := mk_step Lo (n % 2 ^ (B - 32)) (31 - t) (127 - (B + t + 8)) (dm_lt hm (by omega))
          rw [bit_cut _ _ _ (by omega), ← e3, show 127 - (B + t + 8) + 1 = 120 - B - t by omega] at this
          rw [this, show 32 - (t + 1) = 31 - t by omega, show 120 - B - (t + 1) = 127 - (B + t + 8) by omega]
  · subst hB
    refine ⟨fun k i L6 => ∃ t, t ≤ 32 ∧ i = nI (32 - t) + (-1) ∧ (∀ c', c' ≠ 0 → L6 c' = L c') ∧ (∀ j, j ≠ 15 → j ≠ 16 → L6 0 j = L 0 j) ∧ k = nI (96 + t) ∧ L6 0 15 = H ∧ L6 0 16 = Lo ||| lN (n / 2 ^ (32 - t) * 2 ^ (32 - t)), fun _ i _ => (i + 1).toNatClampNeg, ⟨0, by omega, by decide, fr0, fr1, rfl, v15, ?_⟩, ?_⟩
    · rw [v16, Nat.div_eq_of_lt hn2, Nat.zero_mul]; exact (Int64.or_zero).symm
    rintro k i L6 ⟨t, ht, rfl, f0, f1, rfl, q2, q3⟩
    by_cases ht2 : t = 32
    · subst ht2
      refine ⟨fun _ => ?_, fun c => absurd (by decide) c⟩
      refine h L6 f0 f1 q2 ?_
      rw [q3, Nat.sub_self, Nat.pow_zero, Nat.div_one, Nat.mul_one]; rfl
    · have e1 : nI (32 - t) + (-1) = nI (31 - t) := by rw [sb_m1 (by omega)]; congr 1; omega
      rw [e1]
      refine ⟨fun c => absurd c (nI_pos (by omega)), fun _ => ?_⟩
      have hbit := bitOf (i := 31 - t) hn (by omega)
      have e3 : 32 - t = 31 - t + 1 := by omega
      refine ⟨fun x8 => x8 = nI (96 + t), ?_, fun _ => rfl, fun c => absurd ((nI_eq (a := 96 + t) (b := 64) (by omega) (by decide)).mp c) (by omega)⟩
      rintro x8 rfl x9 rfl
      rw [hbit]
      refine ⟨fun L' => L' = ml L6 0 16 ((L6 0 16) ||| (lN (n / 2 ^ (31 - t) % 2) <<< (((127 : Int32) - nI (96 + t)).toInt64 &&& 63))), ?_, fun _ L14 e => e, fun c => absurd ((nI_leI (a := 64) (b := 96 + t) (by decide) (by omega)).mpr (by omega)) c⟩
      rintro L10 rfl x11 rfl x12 rfl
      refine ⟨⟨t + 1, by omega, by rw [show 32 - (t + 1) = 31 - t by omega], fun c' hc => (ml_ne _ _ _ _ hc).trans (f0 c' hc), fun j h5 h6 => (ml_oth _ _ _ _ h6).trans (f1 j h5 h6), nI_1 _, ?_, ?_⟩, ?_⟩
      · rw [ml_oth _ _ _ _ (by decide), q2]
      · rw [ml_at, q3, show (127 : Int32) - nI (96 + t) = nI (127 - (96 + t)) from pk_sub (a := 127) (by omega), wb_shl _ (by omega)]
        have := mk_step Lo n (31 - t) (127 - (96 + t)) (dm_lt hn2 (by omega))
        rw [← e3, show 127 - (96 + t) + 1 = 32 - t by omega] at this
        rw [this, show 32 - (t + 1) = 31 - t by omega, show 127 - (96 + t) = 31 - t by omega]
      · dsimp only; rw [im1, nI_1, nI_clamp (by omega), nI_clamp (by omega)]; omega
