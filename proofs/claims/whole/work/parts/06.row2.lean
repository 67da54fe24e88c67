theorem sp_number_1 {M : cM} {L : cL} {a w : Nat} {Z : Int64 → Prop} (ha : a + w < 2 ^ 30) (hw : w ≤ 8) (h : Z (lN (num8 (at8 (M 2) 2400) a w))) : wp_X4_number_1 M L (nI a) (nI w) Z := by
  unfold wp_X4_number_1
  refine ⟨fun x1 x2 => ∃ k, k ≤ w ∧ x2 = nI k ∧ x1 = lN (num8 (at8 (M 2) 2400) a k), fun _ x2 => w - x2.toNatClampNeg, ⟨0, Nat.zero_le _, rfl, rfl⟩, ?_⟩
  rintro x1 x2 ⟨k, hk, rfl, rfl⟩
  refine ⟨fun c => ?_, fun c => ?_⟩
  · have c' : w ≤ k := (nI_leI (by omega) (by omega)).mp c
    rw [show k = w by omega]; exact h
  · have c' : k < w := Nat.lt_of_not_le (fun z => c ((nI_leI (by omega) (by omega)).mpr z))
    rw [nI_add]
    refine sp_at_1 (by omega) ?_
    rintro x5 rfl x6 rfl
    have hlt := at8_lt (M 2) 2400 (a + k)
    have hn := num8_lt (at8_lt (M 2) 2400) a k
    have hp : 256 ^ k * 256 ≤ 256 ^ 8 := by rw [← Nat.pow_succ]; exact Nat.pow_le_pow_right (by decide) (by omega)
    have h8 : (256 : Nat) ^ 8 = 2 ^ 64 := by decide
    refine ⟨⟨k + 1, by omega, nI_1 _, ?_⟩, ?_⟩
    · rw [show lN (num8 (at8 (M 2) 2400) a k) <<< ((8 : Int32).toInt64 &&& 63) = lN (num8 (at8 (M 2) 2400) a k * 256) from wb_shl _ (k := 8) (by decide), nI_l (by omega), g_or (k := 8) (by decide) hlt (by omega)]
      rfl
    · dsimp only; rw [show nI k + (1 : Int32) = nI (k + 1) from nI_1 _, nI_clamp (by omega), nI_clamp (by omega)]; omega
/-- put: w bytes of a number, the highest first -/
theorem sp_put_1 {M : cM} {L : cL} {a w : Nat} {v : Int64} {Z : cM → Prop} (hw : w ≤ 8) (ha : a + w ≤ 2400) (h : ∀ M' : cM, (∀ c', c' ≠ 2 → M' c' = M c') → (∀ j, j < a ∨ a + w ≤ j → M' 2 j = M 2 j) → (∀ k, k < w → isBy (M' 2 (a + k)) ∧ oc (M' 2 (a + k)) = uN v / 2 ^ (8 * (w - 1 - k)) % 256) → Z M') : wp_X4_put_1 M L (nI a) (nI w) v Z := by
  unfold wp_X4_put_1
  refine ⟨fun x1 M' => ∃ k, k ≤ w ∧ x1 = nI k ∧ (∀ c', c' ≠ 2 → M' c' = M c') ∧ (∀ j, j < a ∨ a + k ≤ j → M' 2 j = M 2 j) ∧ (∀ i, i < k → isBy (M' 2 (a + i)) ∧ oc (M' 2 (a + i)) = uN v / 2 ^ (8 * (w - 1 - i)) % 256), fun x1 _ => w - x1.toNatClampNeg, ⟨0, Nat.zero_le _, rfl, fun _ _ => rfl, fun _ _ => rfl, fun i hi => absurd hi (Nat.not_lt_zero i)⟩, ?_⟩
  rintro x1 M2 ⟨k, hk, rfl, h1, h2, h3⟩
  refine ⟨fun c => ?_, fun c => ?_⟩
  · have c' : w ≤ k := (nI_leI (by omega) (by omega)).mp c
    have e : k = w := by omega
    subst e
    exact h M2 h1 h2 h3
  · have c' : k < w := Nat.lt_of_not_le (fun z => c ((nI_leI (by omega) (by omega)).mpr z))
    rintro x4 rfl
    rw [nI_add]
    have es : (8 : Int32) * ((nI w - (1 : Int32)) - nI k) = nI (8 * (w - 1 - k)) := by
      rw [show nI w - (1 : Int32) = nI (w - 1) from pk_sub (b := 1) (by omega), pk_sub (by omega)]
      exact pk_mul 8 _
    refine ⟨fun M' => M' = mu M2 2 (a + k) (vp_nar .byte (((((v.toUInt64 >>> (((8 : Int32) * ((nI w - (1 : Int32)) - nI k)).toInt64.toUInt64 &&& Int64.toUInt64 63)).toInt64).toInt32).toInt8.toInt32))), ?_, ?_, ?_⟩
    · rintro M5 rfl x6 rfl
      refine ⟨⟨k + 1, by omega, nI_1 _, fun c' hc => by rw [mu_ne _ _ _ _ hc]; exact h1 c' hc, fun j hj => ?_, fun i hi => ?_⟩, ?_⟩
      · rw [mu_oth _ _ _ _ (by omega)]; exact h2 j (by omega)
      · by_cases e : i = k
        · subst e
          rw [mu_at]
          refine ⟨isBy_nar _, ?_⟩
          rw [oc_nar, oc_byte, oc_l2i, es, uN_sk _ (by omega)]
        · rw [mu_oth _ _ _ _ (by omega)]; exact h3 i (by omega)
      · dsimp only; rw [show nI k + (1 : Int32) = nI (k + 1) from nI_1 _, nI_clamp (by omega), nI_clamp (by omega)]; omega
    · intro c2; exact absurd c2 (nI_pos (by omega))
    · intro _
      refine ⟨fun c2 => ?_, fun c2 => ?_⟩
      · have := (nI_leI (a := 2400) (b := a + k) (by decide) (by omega)).mp c2
        omega
      · refine ⟨vp_in_nI (by omega) (by decide), ?_⟩
        rintro M9 rfl
        rw [nI_clamp (by omega)]
/-- put: w bytes of a number, the highest first -/
theorem sp_put_3 {M : cM} {L : cL} {a w : Nat} {v : Int64} {Z : cM → Prop} (hw : w ≤ 8) (ha : a + w ≤ 2408) (h : ∀ M' : cM, (∀ c', c' ≠ 4 → M' c' = M c') → (∀ j, j < a ∨ a + w ≤ j → M' 4 j = M 4 j) → (∀ k, k < w → isBy (M' 4 (a + k)) ∧ oc (M' 4 (a + k)) = uN v / 2 ^ (8 * (w - 1 - k)) % 256) → Z M') : wp_X4_put_3 M L (nI a) (nI w) v Z := by
  unfold wp_X4_put_3
  refine ⟨fun x1 M' => ∃ k, k ≤ w ∧ x1 = nI k ∧ (∀ c', c' ≠ 4 → M' c' = M c') ∧ (∀ j, j < a ∨ a + k ≤ j → M' 4 j = M 4 j) ∧ (∀ i, i < k → isBy (M' 4 (a + i)) ∧ oc (M' 4 (a + i)) = uN v / 2 ^ (8 * (w - 1 - i)) % 256), fun x1 _ => w - x1.toNatClampNeg, ⟨0, Nat.zero_le _, rfl, fun _ _ => rfl, fun _ _ => rfl, fun i hi => absurd hi (Nat.not_lt_zero i)⟩, ?_⟩
  rintro x1 M2 ⟨k, hk, rfl, h1, h2, h3⟩
  refine ⟨fun c => ?_, fun c => ?_⟩
  · have c' : w ≤ k := (nI_leI (by omega) (by omega)).mp c
    have e : k = w := by omega
    subst e
    exact h M2 h1 h2 h3
  · have c' : k < w := Nat.lt_of_not_le (fun z => c ((nI_leI (by omega) (by omega)).mpr z))
    rintro x4 rfl
    rw [nI_add]
    have es : (8 : Int32) * ((nI w - (1 : Int32)) - nI k) = nI (8 * (w - 1 - k)) := by
      rw [show nI w - (1 : Int32) = nI (w - 1) from pk_sub (b := 1) (by omega), pk_sub (by omega)]
      exact pk_mul 8 _
    refine ⟨fun M' => M' = mu M2 4 (a + k) (vp_nar .byte (((((v.toUInt64 >>> (((8 : Int32) * ((nI w - (1 : Int32)) - nI k)).toInt64.toUInt64 &&& Int64.toUInt64 63)).toInt64).toInt32).toInt8.toInt32))), ?_, ?_, ?_⟩
    · rintro M5 rfl x6 rfl
      refine ⟨⟨k + 1, by omega, nI_1 _, fun c' hc => by rw [mu_ne _ _ _ _ hc]; exact h1 c' hc, fun j hj => ?_, fun i hi => ?_⟩, ?_⟩
      · rw [mu_oth _ _ _ _ (by omega)]; exact h2 j (by omega)
      · by_cases e : i = k
        · subst e
          rw [mu_at]
          refine ⟨isBy_nar _, ?_⟩
          rw [oc_nar, oc_byte, oc_l2i, es, uN_sk _ (by omega)]
        · rw [mu_oth _ _ _ _ (by omega)]; exact h3 i (by omega)
      · dsimp only; rw [show nI k + (1 : Int32) = nI (k + 1) from nI_1 _, nI_clamp (by omega), nI_clamp (by omega)]; omega
    · intro c2; exact absurd c2 (nI_pos (by omega))
    · intro _
      refine ⟨fun c2 => ?_, fun c2 => ?_⟩
      · have := (nI_leI (a := 2408) (b := a + k) (by decide) (by omega)).mp c2
        omega
      · refine ⟨vp_in_nI (by omega) (by decide), ?_⟩
        rintro M9 rfl
        rw [nI_clamp (by omega)]
/-- put: w bytes of a number, the highest first -/
theorem sp_put_6 {M : cM} {L : cL} {a w : Nat} {v : Int64} {Z : cM → Prop} (hw : w ≤ 8) (ha : a + w ≤ 3332) (h : ∀ M' : cM, (∀ c', c' ≠ 7 → M' c' = M c') → (∀ j, j < a ∨ a + w ≤ j → M' 7 j = M 7 j) → (∀ k, k < w → isBy (M' 7 (a + k)) ∧ oc (M' 7 (a + k)) = uN v / 2 ^ (8 * (w - 1 - k)) % 256) → Z M') : wp_X4_put_6 M L (nI a) (nI w) v Z := by
  unfold wp_X4_put_6
  refine ⟨fun x1 M' => ∃ k, k ≤ w ∧ x1 = nI k ∧ (∀ c', c' ≠ 7 → M' c' = M c') ∧ (∀ j, j < a ∨ a + k ≤ j → M' 7 j = M 7 j) ∧ (∀ i, i < k → isBy (M' 7 (a + i)) ∧ oc (M' 7 (a + i)) = uN v / 2 ^ (8 * (w - 1 - i)) % 256), fun x1 _ => w - x1.toNatClampNeg, ⟨0, Nat.zero_le _, rfl, fun _ _ => rfl, fun _ _ => rfl, fun i hi => absurd hi (Nat.not_lt_zero i)⟩, ?_⟩
  rintro x1 M2 ⟨k, hk, rfl, h1, h2, h3⟩
  refine ⟨fun c => ?_, fun c => ?_⟩
  · have c' : w ≤ k := (nI_leI (by omega) (by omega)).mp c
    have e : k = w := by omega
    subst e
    exact h M2 h1 h2 h3
  · have c' : k < w := Nat.lt_of_not_le (fun z => c ((nI_leI (by omega) (by omega)).mpr z))
    rintro x4 rfl
    rw [nI_add]
    have es : (8 : Int32) * ((nI w - (1 : Int32)) - nI k) = nI (8 * (w - 1 - k)) := by
      rw [show nI w - (1 : Int32) = nI (w - 1) from pk_sub (b := 1) (by omega), pk_sub (by omega)]
      exact pk_mul 8 _
    refine ⟨fun M' => M' = mu M2 7 (a + k) (vp_nar .byte (((((v.toUInt64 >>> (((8 : Int32) * ((nI w - (1 : Int32)) - nI k)).toInt64.toUInt64 &&& Int64.toUInt64 63)).toInt64).toInt32).toInt8.toInt32))), ?_, ?_, ?_⟩
    · rintro M5 rfl x6 rfl
      refine ⟨⟨k + 1, by omega, nI_1 _, fun c' hc => by rw [mu_ne _ _ _ _ hc]; exact h1 c' hc, fun j hj => ?_, fun i hi => ?_⟩, ?_⟩
      · rw [mu_oth _ _ _ _ (by omega)]; exact h2 j (by omega)
      · by_cases e : i = k
        · subst e
          rw [mu_at]
          refine ⟨isBy_nar _, ?_⟩
          rw [oc_nar, oc_byte, oc_l2i, es, uN_sk _ (by omega)]
        · rw [mu_oth _ _ _ _ (by omega)]; exact h3 i (by omega)
      · dsimp only; rw [show nI k + (1 : Int32) = nI (k + 1) from nI_1 _, nI_clamp (by omega), nI_clamp (by omega)]; omega
    · intro c2; exact absurd c2 (nI_pos (by omega))
    · intro _
      refine ⟨fun c2 => ?_, fun c2 => ?_⟩
      · have := (nI_leI (a := 3332) (b := a + k) (by decide) (by omega)).mp c2
        omega
      · refine ⟨vp_in_nI (by omega) (by decide), ?_⟩
        rintro M9 rfl
        rw [nI_clamp (by omega)]
theorem sp_copy_3_1 {M : cM} {L : cL} {sp dp n : Nat} {Z : cM → Prop} (h4 : sp + n ≤ 2400) (h5 : dp + n ≤ 2408) (hf : ∀ i, i < n → isBy (M 2 (sp + i))) (h : ∀ M' : cM, (∀ c', c' ≠ 4 → M' c' = M c') → (∀ j, j < dp ∨ dp + n ≤ j → M' 4 j = M 4 j) → (∀ i, i < n → M' 4 (dp + i) = M 2 (sp + i)) → Z M') : wp_X4_copy_3_1 M L (nI sp) (nI dp) (nI n) Z := by
  unfold wp_X4_copy_3_1
  by_cases hn : n = 0
  · subst hn
    refine ⟨fun v => v = 0, ?_, True, fun _ => rfl, fun _ => trivial, fun c => absurd (nI_leI (a := 0) (b := 0) (by decide) (by decide) |>.mpr (Nat.le_refl 0)) c⟩
    rintro v rfl
    exact ⟨fun _ => h M (fun _ _ => rfl) (fun _ _ => rfl) (fun i hi => absurd hi (Nat.not_lt_zero i)), fun c => absurd rfl c⟩
  · refine ⟨fun v => v = 1, ?_, False, fun z => z.elim, ?_, ?_⟩
    · rintro v rfl
      refine ⟨fun c => absurd c (by decide), fun _ => ⟨fun c => absurd c (nI_pos (by omega)), fun c1 => ⟨fun c => ?_, fun _ => ?_⟩⟩⟩
      · rw [show (2408 : Int32) - nI n = nI (2408 - n) from pk_sub (a := 2408) (by omega)] at c
        have := (nI_ltI (by omega) (by omega)).mp c
        omega
      · have e1 := nI_clamp (n := sp) (by omega); have e2 := nI_clamp (n := dp) (by omega); have e3 := nI_clamp (n := n) (by omega)
        refine ⟨⟨nI_pos (by omega), nI_pos (by omega), nI_pos (by omega), by rw [e1, e3]; exact h4, by rw [e2, e3]; exact h5, fun i hi => ?_⟩, ?_⟩
        · rw [e1]; rw [e3] at hi; exact isBy_fit (hf i hi)
        · rintro M5 rfl
          rw [e1, e2, e3]
          refine h _ (fun c' hc => ms_ne _ _ _ hc) (fun j hj => ?_) (fun i hi => ?_)
          · rw [ms_at]; exact pk_cpy_out hj
          · rw [ms_at, pk_cpy_in (by omega) (by omega)]; congr 2; omega
    · intro c
      have := (nI_leI (a := n) (b := 0) (by omega) (by decide)).mp c
      omega
    · intro _
      refine ⟨fun c => absurd c (nI_pos (by omega)), fun _ => ⟨fun c => ?_, fun _ => rfl⟩⟩
      rw [show (2400 : Int32) - nI n = nI (2400 - n) from pk_sub (a := 2400) (by omega)] at c
      have := (nI_ltI (by omega) (by omega)).mp c
      omega
theorem sp_copy_6_1 {M : cM} {L : cL} {sp dp n : Nat} {Z : cM → Prop} (h4 : sp + n ≤ 2400) (h5 : dp + n ≤ 3332) (hf : ∀ i, i < n → isBy (M 2 (sp + i))) (h : ∀ M' : cM, (∀ c', c' ≠ 7 → M' c' = M c') → (∀ j, j < dp ∨ dp + n ≤ j → M' 7 j = M 7 j) → (∀ i, i < n → M' 7 (dp + i) = M 2 (sp + i)) → Z M') : wp_X4_copy_6_1 M L (nI sp) (nI dp) (nI n) Z := by
  unfold wp_X4_copy_6_1
  by_cases hn : n = 0
  · subst hn
    refine ⟨fun v => v = 0, ?_, True, fun _ => rfl, fun _ => trivial, fun c => absurd (nI_leI (a := 0) (b := 0) (by decide) (by decide) |>.mpr (Nat.le_refl 0)) c⟩
    rintro v rfl
    exact ⟨fun _ => h M (fun _ _ => rfl) (fun _ _ => rfl) (fun i hi => absurd hi (Nat.not_lt_zero i)), fun c => absurd rfl c⟩
  · refine ⟨fun v => v = 1, ?_, False, fun z => z.elim, ?_, ?_⟩
    · rintro v rfl
      refine ⟨fun c => absurd c (by decide), fun _ => ⟨fun c => absurd c (nI_pos (by omega)), fun c1 => ⟨fun c => ?_, fun _ => ?_⟩⟩⟩
      · rw [show (3332 : Int32) - nI n = nI (3332 - n) from pk_sub (a := 3332) (by omega)] at c
        have := (nI_ltI (by omega) (by omega)).mp c
        omega
      · have e1 := nI_clamp (n := sp) (by omega); have e2 := nI_clamp (n := dp) (by omega); have e3 := nI_clamp (n := n) (by omega)
        refine ⟨⟨nI_pos (by omega), nI_pos (by omega), nI_pos (by omega), by rw [e1, e3]; exact h4, by rw [e2, e3]; exact h5, fun i hi => ?_⟩, ?_⟩
        · rw [e1]; rw [e3] at hi; exact isBy_fit (hf i hi)
        · rintro M5 rfl
          rw [e1, e2, e3]
          refine h _ (fun c' hc => ms_ne _ _ _ hc) (fun j hj => ?_) (fun i hi => ?_)
          · rw [ms_at]; exact pk_cpy_out hj
          · rw [ms_at, pk_cpy_in (by omega) (by omega)]; congr 2; omega
    · intro c
      have := (nI_leI (a := n) (b := 0) (by omega) (by decide)).mp c
      omega
    · intro _
      refine ⟨fun c => absurd c (nI_pos (by omega)), fun _ => ⟨fun c => ?_, fun _ => rfl⟩⟩
      rw [show (2400 : Int32) - nI n = nI (2400 - n) from pk_sub (a := 2400) (by omega)] at c
      have := (nI_ltI (by omega) (by omega)).mp c
      omega
theorem sp_copy_6_3 {M : cM} {L : cL} {sp dp n : Nat} {Z : cM → Prop} (h4 : sp + n ≤ 2408) (h5 : dp + n ≤ 3332) (hf : ∀ i, i < n → isBy (M 4 (sp + i))) (h : ∀ M' : cM, (∀ c', c' ≠ 7 → M' c' = M c') → (∀ j, j < dp ∨ dp + n ≤ j → M' 7 j = M 7 j) → (∀ i, i < n → M' 7 (dp + i) = M 4 (sp + i)) → Z M') : wp_X4_copy_6_3 M L (nI sp) (nI dp) (nI n) Z := by
  unfold wp_X4_copy_6_3
  by_cases hn : n = 0
  · subst hn
    refine ⟨fun v => v = 0, ?_, True, fun _ => rfl, fun _ => trivial, fun c => absurd (nI_leI (a := 0) (b := 0) (by decide) (by decide) |>.mpr (Nat.le_refl 0)) c⟩
    rintro v rfl
    exact ⟨fun _ => h M (fun _ _ => rfl) (fun _ _ => rfl) (fun i hi => absurd hi (Nat.not_lt_zero i)), fun c => absurd rfl c⟩
  · refine ⟨fun v => v = 1, ?_, False, fun z => z.elim, ?_, ?_⟩
    · rintro v rfl
      refine ⟨fun c => absurd c (by decide), fun _ => ⟨fun c => absurd c (nI_pos (by omega)), fun c1 => ⟨fun c => ?_, fun _ => ?_⟩⟩⟩
      · rw [show (3332 : Int32) - nI n = nI (3332 - n) from pk_sub (a := 3332) (by omega)] at c
        have := (nI_ltI (by omega) (by omega)).mp c
        omega
      · have e1 := nI_clamp (n := sp) (by omega); have e2 := nI_clamp (n := dp) (by omega); have e3 := nI_clamp (n := n) (by omega)
        refine ⟨⟨nI_pos (by omega), nI_pos (by omega), nI_pos (by omega), by rw [e1, e3]; exact h4, by rw [e2, e3]; exact h5, fun i hi => ?_⟩, ?_⟩
        · rw [e1]; rw [e3] at hi; exact isBy_fit (hf i hi)
        · rintro M5 rfl
          rw [e1, e2, e3]
          refine h _ (fun c' hc => ms_ne _ _ _ hc) (fun j hj => ?_) (fun i hi => ?_)
          · rw [ms_at]; exact pk_cpy_out hj
          · rw [ms_at, pk_cpy_in (by omega) (by omega)]; congr 2; omega
    · intro c
      have := (nI_leI (a := n) (b := 0) (by omega) (by decide)).mp c
      omega
    · intro _
      refine ⟨fun c => absurd c (nI_pos (by omega)), fun _ => ⟨fun c => ?_, fun _ => rfl⟩⟩
      rw [show (2408 : Int32) - nI n = nI (2408 - n) from pk_sub (a := 2408) (by omega)] at c
      have := (nI_ltI (by omega) (by omega)).mp c
      omega
