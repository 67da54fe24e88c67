theorem sp_at_1 {M : cM} {L : cL} {k : Nat} {Z : Int32 → Prop} (hk : k < 2 ^ 31) (h : Z (nI (at8 (M 2) 2400 k))) : wp_X4_at_1 M L (nI k) Z := by
  unfold wp_X4_at_1
  refine ⟨fun c => absurd c (nI_pos hk), fun _ => ⟨fun c => ?_, fun c => ?_⟩⟩
  · have c' : 2400 ≤ k := (nI_leI (a := 2400) (b := k) (by decide) hk).mp c
    rw [show at8 (M 2) 2400 k = 0 from if_neg (by omega)] at h
    exact h
  · have c' : k < 2400 := Nat.lt_of_not_le (fun z => c ((nI_leI (a := 2400) (b := k) (by decide) hk).mpr z))
    refine ⟨vp_in_nI c' (by decide), ?_⟩
    rw [nI_clamp hk, oc_and]
    rw [at8_in c'] at h
    exact h
theorem sp_word_1 {M : cM} {L : cL} {k : Nat} {Z : Int32 → Prop} (hk : k + 1 < 2400) (h : Z (nI (wd8 (at8 (M 2) 2400) k))) : wp_X4_word_1 M L (nI k) Z := by
  unfold wp_X4_word_1
  refine ⟨fun c => absurd c (nI_pos (by omega)), fun _ => ⟨fun c => ?_, fun c => ?_⟩⟩
  · have c' : 2400 - 1 ≤ k := (nI_leI (a := 2400 - 1) (b := k) (by decide) (by omega)).mp c
    omega
  · refine ⟨vp_in_nI (by omega) (by decide), ?_⟩
    rw [show nI k + (1 : Int32) = nI (k + 1) from nI_1 k]
    refine ⟨vp_in_nI hk (by decide), ?_⟩
    rw [nI_clamp (by omega), nI_clamp (by omega), oc_and, oc_and, nI_or8 (oc_lt _) (oc_lt _)]
    unfold wd8 at h
    rw [at8_in (by omega), at8_in hk] at h
    exact h
theorem sp_sum_1 {M : cM} {L : cL} {a b : Nat} {Z : Int64 → Prop} (hab : a ≤ b) (hb : b < 2 ^ 30) (h : Z (lN (sm8 (at8 (M 2) 2400) a (b - a)))) : wp_X4_sum_1 M L (nI a) (nI b) Z := by
  unfold wp_X4_sum_1
  refine ⟨fun x1 x2 => ∃ k, k ≤ b - a ∧ x2 = nI (a + k) ∧ x1 = lN (sm8 (at8 (M 2) 2400) a k), fun _ x2 => b - x2.toNatClampNeg, ⟨0, Nat.zero_le _, rfl, rfl⟩, ?_⟩
  rintro x1 x2 ⟨k, hk, rfl, rfl⟩
  refine ⟨fun c => ?_, fun c => ?_⟩
  · have c' : b ≤ a + k := (nI_leI (by omega) (by omega)).mp c
    rw [show k = b - a by omega]; exact h
  · have c' : a + k < b := Nat.lt_of_not_le (fun z => c ((nI_leI (by omega) (by omega)).mpr z))
    refine sp_at_1 (by omega) ?_
    have hlt := at8_lt (M 2) 2400 (a + k)
    have e1 : nI (a + k) - nI a = nI k := by rw [pk_sub (by omega)]; congr 1; omega
    have e2 : (nI (a + k) - nI a) &&& (1 : Int32) = nI (k % 2) := by rw [e1]; exact pk_andN (by omega) 1 (by decide)
    refine ⟨fun v => v = lN (if k % 2 = 0 then at8 (M 2) 2400 (a + k) * 256 else at8 (M 2) 2400 (a + k)), ?_, ?_, ?_⟩
    · rintro v rfl x6 rfl x7 rfl
      refine ⟨⟨k + 1, by omega, nI_1 _, ?_⟩, ?_⟩
      · rw [lN_add]; rfl
      · dsimp only; rw [show nI (a + k) + (1 : Int32) = nI (a + k + 1) from nI_1 _, nI_clamp (by omega), nI_clamp (by omega)]; omega
    · intro c2
      rw [e2] at c2
      have : k % 2 ≠ 0 := fun z => c2 (by rw [z]; rfl)
      rw [if_neg this, nI_l (by omega)]
    · intro c2
      rw [e2] at c2
      have : k % 2 = 0 := (nI_eq (a := k % 2) (b := 0) (by omega) (by decide)).mp c2
      rw [if_pos this, show nI (at8 (M 2) 2400 (a + k)) <<< ((8 : Int32) &&& 31) = nI (at8 (M 2) 2400 (a + k) * 256) from pk_shlN ((8 : Int32) &&& 31) 8 (by decide) (by omega), nI_l (by omega)]
theorem sp_at_3 {M : cM} {L : cL} {k : Nat} {Z : Int32 → Prop} (hk : k < 2 ^ 31) (h : Z (nI (at8 (M 4) 2408 k))) : wp_X4_at_3 M L (nI k) Z := by
  unfold wp_X4_at_3
  refine ⟨fun c => absurd c (nI_pos hk), fun _ => ⟨fun c => ?_, fun c => ?_⟩⟩
  · have c' : 2408 ≤ k := (nI_leI (a := 2408) (b := k) (by decide) hk).mp c
    rw [show at8 (M 4) 2408 k = 0 from if_neg (by omega)] at h
    exact h
  · have c' : k < 2408 := Nat.lt_of_not_le (fun z => c ((nI_leI (a := 2408) (b := k) (by decide) hk).mpr z))
    refine ⟨vp_in_nI c' (by decide), ?_⟩
    rw [nI_clamp hk, oc_and]
    rw [at8_in c'] at h
    exact h
theorem sp_word_3 {M : cM} {L : cL} {k : Nat} {Z : Int32 → Prop} (hk : k + 1 < 2408) (h : Z (nI (wd8 (at8 (M 4) 2408) k))) : wp_X4_word_3 M L (nI k) Z := by
  unfold wp_X4_word_3
  refine ⟨fun c => absurd c (nI_pos (by omega)), fun _ => ⟨fun c => ?_, fun c => ?_⟩⟩
  · have c' : 2408 - 1 ≤ k := (nI_leI (a := 2408 - 1) (b := k) (by decide) (by omega)).mp c
    omega
  · refine ⟨vp_in_nI (by omega) (by decide), ?_⟩
    rw [show nI k + (1 : Int32) = nI (k + 1) from nI_1 k]
    refine ⟨vp_in_nI hk (by decide), ?_⟩
    rw [nI_clamp (by omega), nI_clamp (by omega), oc_and, oc_and, nI_or8 (oc_lt _) (oc_lt _)]
    unfold wd8 at h
    rw [at8_in (by omega), at8_in hk] at h
    exact h
theorem sp_sum_3 {M : cM} {L : cL} {a b : Nat} {Z : Int64 → Prop} (hab : a ≤ b) (hb : b < 2 ^ 30) (h : Z (lN (sm8 (at8 (M 4) 2408) a (b - a)))) : wp_X4_sum_3 M L (nI a) (nI b) Z := by
  unfold wp_X4_sum_3
  refine ⟨fun x1 x2 => ∃ k, k ≤ b - a ∧ x2 = nI (a + k) ∧ x1 = lN (sm8 (at8 (M 4) 2408) a k), fun _ x2 => b - x2.toNatClampNeg, ⟨0, Nat.zero_le _, rfl, rfl⟩, ?_⟩
  rintro x1 x2 ⟨k, hk, rfl, rfl⟩
  refine ⟨fun c => ?_, fun c => ?_⟩
  · have c' : b ≤ a + k := (nI_leI (by omega) (by omega)).mp c
    rw [show k = b - a by omega]; exact h
  · have c' : a + k < b := Nat.lt_of_not_le (fun z => c ((nI_leI (by omega) (by omega)).mpr z))
    refine sp_at_3 (by omega) ?_
    have hlt := at8_lt (M 4) 2408 (a + k)
    have e1 : nI (a + k) - nI a = nI k := by rw [pk_sub (by omega)]; congr 1; omega
    have e2 : (nI (a + k) - nI a) &&& (1 : Int32) = nI (k % 2) := by rw [e1]; exact pk_andN (by omega) 1 (by decide)
    refine ⟨fun v => v = lN (if k % 2 = 0 then at8 (M 4) 2408 (a + k) * 256 else at8 (M 4) 2408 (a + k)), ?_, ?_, ?_⟩
    · rintro v rfl x6 rfl x7 rfl
      refine ⟨⟨k + 1, by omega, nI_1 _, ?_⟩, ?_⟩
      · rw [lN_add]; rfl
      · dsimp only; rw [show nI (a + k) + (1 : Int32) = nI (a + k + 1) from nI_1 _, nI_clamp (by omega), nI_clamp (by omega)]; omega
    · intro c2
      rw [e2] at c2
      have : k % 2 ≠ 0 := fun z => c2 (by rw [z]; rfl)
      rw [if_neg this, nI_l (by omega)]
    · intro c2
      rw [e2] at c2
      have : k % 2 = 0 := (nI_eq (a := k % 2) (b := 0) (by omega) (by decide)).mp c2
      rw [if_pos this, show nI (at8 (M 4) 2408 (a + k)) <<< ((8 : Int32) &&& 31) = nI (at8 (M 4) 2408 (a + k) * 256) from pk_shlN ((8 : Int32) &&& 31) 8 (by decide) (by omega), nI_l (by omega)]
theorem sp_at_6 {M : cM} {L : cL} {k : Nat} {Z : Int32 → Prop} (hk : k < 2 ^ 31) (h : Z (nI (at8 (M 7) 3332 k))) : wp_X4_at_6 M L (nI k) Z := by
  unfold wp_X4_at_6
  refine ⟨fun c => absurd c (nI_pos hk), fun _ => ⟨fun c => ?_, fun c => ?_⟩⟩
  · have c' : 3332 ≤ k := (nI_leI (a := 3332) (b := k) (by decide) hk).mp c
    rw [show at8 (M 7) 3332 k = 0 from if_neg (by omega)] at h
    exact h
  · have c' : k < 3332 := Nat.lt_of_not_le (fun z => c ((nI_leI (a := 3332) (b := k) (by decide) hk).mpr z))
    refine ⟨vp_in_nI c' (by decide), ?_⟩
    rw [nI_clamp hk, oc_and]
    rw [at8_in c'] at h
    exact h
theorem sp_sum_6 {M : cM} {L : cL} {a b : Nat} {Z : Int64 → Prop} (hab : a ≤ b) (hb : b < 2 ^ 30) (h : Z (lN (sm8 (at8 (M 7) 3332) a (b - a)))) : wp_X4_sum_6 M L (nI a) (nI b) Z := by
  unfold wp_X4_sum_6
  refine ⟨fun x1 x2 => ∃ k, k ≤ b - a ∧ x2 = nI (a + k) ∧ x1 = lN (sm8 (at8 (M 7) 3332) a k), fun _ x2 => b - x2.toNatClampNeg, ⟨0, Nat.zero_le _, rfl, rfl⟩, ?_⟩
  rintro x1 x2 ⟨k, hk, rfl, rfl⟩
  refine ⟨fun c => ?_, fun c => ?_⟩
  · have c' : b ≤ a + k := (nI_leI (by omega) (by omega)).mp c
    rw [show k = b - a by omega]; exact h
  · have c' : a + k < b := Nat.lt_of_not_le (fun z => c ((nI_leI (by omega) (by omega)).mpr z))
    refine sp_at_6 (by omega) ?_
    have hlt := at8_lt (M 7) 3332 (a + k)
    have e1 : nI (a + k) - nI a = nI k := by rw [pk_sub (by omega)]; congr 1; omega
    have e2 : (nI (a + k) - nI a) &&& (1 : Int32) = nI (k % 2) := by rw [e1]; exact pk_andN (by omega) 1 (by decide)
    refine ⟨fun v => v = lN (if k % 2 = 0 then at8 (M 7) 3332 (a + k) * 256 else at8 (M 7) 3332 (a + k)), ?_, ?_, ?_⟩
    · rintro v rfl x6 rfl x7 rfl
      refine ⟨⟨k + 1, by omega, nI_1 _, ?_⟩, ?_⟩
      · rw [lN_add]; rfl
      · dsimp only; rw [show nI (a + k) + (1 : Int32) = nI (a + k + 1) from nI_1 _, nI_clamp (by omega), nI_clamp (by omega)]; omega
    · intro c2
      rw [e2] at c2
      have : k % 2 ≠ 0 := fun z => c2 (by rw [z]; rfl)
      rw [if_neg this, nI_l (by omega)]
    · intro c2
      rw [e2] at c2
      have : k % 2 = 0 := (nI_eq (a := k % 2) (b := 0) (by omega) (by decide)).mp c2
      rw [if_pos this, show nI (at8 (M 7) 3332 (a + k)) <<< ((8 : Int32) &&& 31) = nI (at8 (M 7) 3332 (a + k) * 256) from pk_shlN ((8 : Int32) &&& 31) 8 (by decide) (by omega), nI_l (by omega)]
