/-! the class reads a packet of IPv4 -/
theorem nI_fl (k : Nat) {w : Nat} (m : Int32) (hk : k < 16) (hm : m = nI (2 ^ k)) : (nI w &&& m = 0) ↔ ¬ (w / 2 ^ k % 2 = 1) := by
  subst hm
  rw [nx_and]
  have e : w &&& 2 ^ k = (w / 2 ^ k % 2) * 2 ^ k := by
    apply Nat.eq_of_testBit_eq
    intro i
    rw [Nat.testBit_and, Nat.testBit_two_pow]
    rcases Nat.mod_two_eq_zero_or_one (w / 2 ^ k) with h | h
    · rw [h, Nat.zero_mul, Nat.zero_testBit]
      by_cases c : k = i
      · subst c; rw [Nat.testBit_eq_decide_div_mod_eq, h]; simp
      · simp [c]
    · rw [h, Nat.one_mul, Nat.testBit_two_pow]
      by_cases c : k = i
      · subst c; rw [Nat.testBit_eq_decide_div_mod_eq, h]; simp
      · simp [c]
  rw [e]
  have hp : (2 : Nat) ^ k < 65536 := Nat.pow_lt_pow_right (by decide) hk
  have hp0 : 0 < (2 : Nat) ^ k := Nat.pow_pos (by decide)
  rcases Nat.mod_two_eq_zero_or_one (w / 2 ^ k) with h | h
  · rw [h]; simp only [Nat.zero_mul]; exact ⟨fun _ => by decide, fun _ => rfl⟩
  · rw [h, Nat.one_mul]
    exact ⟨fun z => absurd ((nI_eq (a := 2 ^ k) (b := 0) (by omega) (by decide)).mp z) (by omega), fun z => absurd rfl z⟩
theorem kfl {c P : Prop} (e : c ↔ ¬ P) : (c → (0 : Int32) = bI P) ∧ (¬ c → (1 : Int32) = bI P) := ⟨fun z => (bI_f (e.mp z)).symm, fun z => (bI_t (Classical.byContradiction (fun y => z (e.mpr y)))).symm⟩
theorem kfl' {c P : Prop} (e : c ↔ ¬ P) : (¬ c → (1 : Int32) = bI P) ∧ (c → (0 : Int32) = bI P) := ⟨(kfl e).2, (kfl e).1⟩
theorem nI_m15 {x : Nat} : (nI x &&& (15 : Int32)) = nI (x % 16) := by
  rw [show (15 : Int32) = nI 15 from rfl, nx_and]; exact congrArg nI (Nat.and_two_pow_sub_one_eq_mod x 4)
theorem nI_m8191 {x : Nat} : (nI x &&& (8191 : Int32)) = nI (x % 8192) := by
  rw [show (8191 : Int32) = nI 8191 from rfl, nx_and]; exact congrArg nI (Nat.and_two_pow_sub_one_eq_mod x 13)
theorem nI_mul' (a b : Nat) : nI a * nI b = nI (a * b) := pk_mul a b
theorem nI_sr4 {x : Nat} (h : x < 2 ^ 31) : (nI x >>> ((4 : Int32) &&& 31)) = nI (x / 16) := pk_shrN h _ 4 (by decide)
theorem nI_num4 {g : Nat → Nat} (a : Nat) : (lN (num8 g a 4)).toInt32 = nI (num8 g a 4) := lN_i _
theorem c_read_11 {M : cM} {L : cL} {x y : Int32} {Z : Int32 → cM → cL → Prop} {g : Nat → Nat} (a e : Nat) (hg : at8 (M 2) 2400 = g) (hae : a ≤ e) (he : e ≤ 2400)
    (h0 : ∀ M' L', fr M M' [11] → frL L L' [11] → ¬ rd4 g a e → Z 0 M' L')
    (h1 : ∀ M' L', fr M M' [11] → frL L L' [11] → rd4 g a e → pk4 (M' 11) (L' 11) g a e → Z 1 M' L') (hx : x = nI a) (hy : y = nI e) : wp_X0_read_11_1 M L x y Z := by
  subst hx hy
  have hgb : ∀ i, g i < 256 := fun i => by rw [← hg]; exact at8_lt _ _ _
  have hga := hgb a
  have hhl : hl4 g a ≤ 60 := hl4_le a
  unfold wp_X0_read_11_1
  refine c_at a hg ?_
  rw [nI_m15, show nI (g a % 16) * (4 : Int32) = nI (hl4 g a) from nI_mul' _ 4]
  rintro _ rfl
  by_cases c20 : a + 20 ≤ e
  · refine c_word (a + 2) hg ?_
    rintro _ rfl
    have htl : tl4 g a < 65536 := wd8_lt hgb _
    refine ⟨fun v => v = bI (a + hl4 g a ≤ e), ?_, ?_⟩
    · rintro _ rfl
      refine bz (fun c => ?_) (fun c1 => ?_)
      · exact h0 _ _ (fr_t (mu_fr _ _ _ _ (by decide)) (mu_fr _ _ _ _ (by decide))) (frL_r _ _) (fun z => c z.2.1)
      rw [nI_sr4 (by omega)]
      refine qen (g a / 16) _ (fun c2 => ?_) (fun c => h0 _ _ (fr_t (mu_fr _ _ _ _ (by decide)) (mu_fr _ _ _ _ (by decide))) (frL_r _ _) (fun z => c z.2.2.1)) rfl (by omega) (by omega)
      refine qs (hl4 g a) _ (fun c => h0 _ _ (fr_t (mu_fr _ _ _ _ (by decide)) (mu_fr _ _ _ _ (by decide))) (frL_r _ _) (fun z => by have := z.2.2.2.1; omega)) (fun c3 => ?_) rfl (by omega) (by omega)
      refine pk_le (hl4 g a) (tl4 g a) (fun c4 => ?_) (fun c => h0 _ _ (fr_t (mu_fr _ _ _ _ (by decide)) (mu_fr _ _ _ _ (by decide))) (frL_r _ _) (fun z => by have := z.2.2.2.2; omega)) rfl rfl (by omega) (by omega)
      have hrd : rd4 g a e := ⟨c20, c1, c2, c3, c4⟩
      rintro _ rfl
      refine c_at (a + 1) hg ?_
      rintro _ rfl
      refine c_word (a + 4) hg ?_
      rintro _ rfl
      refine c_word (a + 6) hg ?_
      have hfl : wd8 g (a + 6) < 65536 := wd8_lt hgb _
      refine ⟨fun v => v = bI (df4 g a), ?_, ?_⟩
      · rintro _ rfl
        refine ⟨isB_bI _, ?_⟩
        rintro _ rfl
        refine ⟨fun v => v = bI (mf4 g a), ?_, ?_⟩
        · rintro _ rfl
          refine ⟨isB_bI _, ?_⟩
          rintro _ rfl
          rw [nI_m8191]
          rintro _ rfl
          refine c_at (a + 8) hg ?_
          rintro _ rfl
          refine c_at (a + 9) hg ?_
          rintro _ rfl
          refine c_number (a + 12) 4 hg ?_
          rw [nI_num4]
          rintro _ rfl
          refine c_number (a + 16) 4 hg ?_
          rw [nI_num4]
          rintro _ rfl
          refine c_sum (a + 12) (a + 20) hg ?_
          rintro _ rfl _ rfl _ rfl _ rfl
          have e1 : nI a + nI (hl4 g a) = nI (a + hl4 g a) := nI_add _ _
          have e2 : nI (tl4 g a) - nI (hl4 g a) = nI (tl4 g a - hl4 g a) := pk_sub c4
          have e3 : (if nI a + nI (tl4 g a) < nI e then nI a + nI (tl4 g a) else nI e) - (nI a + nI (hl4 g a)) = nI (th4 g a e) := by
            rw [nI_add, nI_add]
            unfold th4
            by_cases z : a + tl4 g a < e
            · rw [if_pos z, if_pos ((nI_ltI (by omega) (by omega)).mpr z)]; exact pk_sub (by omega)
            · rw [if_neg z, if_neg (fun y => z ((nI_ltI (by omega) (by omega)).mp y))]; exact pk_sub (by omega)
          refine h1 _ _ ?_ (ml_frL _ _ _ _ (by decide)) hrd ?_
          · repeat' first | exact fr_r _ _ | refine fr_t ?_ (mu_fr _ _ _ _ (by decide))
          · exact ⟨rfl, rfl, rfl, rfl, rfl, rfl, rfl, e1, e2, e3, rfl, rfl, rfl, rfl, rfl, by rw [show a + 20 - (a + 12) = 8 by omega]; rfl⟩
        · exact kfl (nI_fl 13 8192 (by decide) rfl)
      · exact kfl (nI_fl 14 16384 (by decide) rfl)
    · rw [show nI e - nI a = nI (e - a) from pk_sub hae]
      refine ⟨_, id, ?_⟩
      refine qs (e - a) _ (fun c => by omega) (fun c => ?_) rfl (by omega) (by omega)
      refine pk_lt (e - a) (hl4 g a) (fun c => (bI_f (by omega)).symm) (fun c => (bI_t (by omega)).symm) rfl rfl (by omega) (by omega)
  · refine c_word_any (a + 2) ?_
    intro v hv
    rintro _ rfl
    refine ⟨fun v => v = 0, ?_, ?_⟩
    · rintro _ rfl
      refine ⟨fun _ => h0 _ _ (fr_t (mu_fr _ _ _ _ (by decide)) (mu_fr _ _ _ _ (by decide))) (frL_r _ _) (fun z => c20 z.1), fun z => absurd rfl z⟩
    · rw [show nI e - nI a = nI (e - a) from pk_sub hae]
      refine ⟨_, id, ?_⟩
      refine qs (e - a) _ (fun c => rfl) (fun c => ?_) rfl (by omega) (by omega)
      omega
theorem c_read_12 {M : cM} {L : cL} {x y : Int32} {Z : Int32 → cM → cL → Prop} {g : Nat → Nat} (a e : Nat) (hg : at8 (M 2) 2400 = g) (hae : a ≤ e) (he : e ≤ 2400)
    (h0 : ∀ M' L', fr M M' [12] → frL L L' [12] → ¬ rd4 g a e → Z 0 M' L')
    (h1 : ∀ M' L', fr M M' [12] → frL L L' [12] → rd4 g a e → pk4 (M' 12) (L' 12) g a e → Z 1 M' L') (hx : x = nI a) (hy : y = nI e) : wp_X0_read_12_1 M L x y Z := by
  subst hx hy
  have hgb : ∀ i, g i < 256 := fun i => by rw [← hg]; exact at8_lt _ _ _
  have hga := hgb a
  have hhl : hl4 g a ≤ 60 := hl4_le a
  unfold wp_X0_read_12_1
  refine c_at a hg ?_
  rw [nI_m15, show nI (g a % 16) * (4 : Int32) = nI (hl4 g a) from nI_mul' _ 4]
  rintro _ rfl
  by_cases c20 : a + 20 ≤ e
  · refine c_word (a + 2) hg ?_
    rintro _ rfl
    have htl : tl4 g a < 65536 := wd8_lt hgb _
    refine ⟨fun v => v = bI (a + hl4 g a ≤ e), ?_, ?_⟩
    · rintro _ rfl
      refine bz (fun c => ?_) (fun c1 => ?_)
      · exact h0 _ _ (fr_t (mu_fr _ _ _ _ (by decide)) (mu_fr _ _ _ _ (by decide))) (frL_r _ _) (fun z => c z.2.1)
      rw [nI_sr4 (by omega)]
      refine qen (g a / 16) _ (fun c2 => ?_) (fun c => h0 _ _ (fr_t (mu_fr _ _ _ _ (by decide)) (mu_fr _ _ _ _ (by decide))) (frL_r _ _) (fun z => c z.2.2.1)) rfl (by omega) (by omega)
      refine qs (hl4 g a) _ (fun c => h0 _ _ (fr_t (mu_fr _ _ _ _ (by decide)) (mu_fr _ _ _ _ (by decide))) (frL_r _ _) (fun z => by have := z.2.2.2.1; omega)) (fun c3 => ?_) rfl (by omega) (by omega)
      refine pk_le (hl4 g a) (tl4 g a) (fun c4 => ?_) (fun c => h0 _ _ (fr_t (mu_fr _ _ _ _ (by decide)) (mu_fr _ _ _ _ (by decide))) (frL_r _ _) (fun z => by have := z.2.2.2.2; omega)) rfl rfl (by omega) (by omega)
      have hrd : rd4 g a e := ⟨c20, c1, c2, c3, c4⟩
      rintro _ rfl
      refine c_at (a + 1) hg ?_
      rintro _ rfl
      refine c_word (a + 4) hg ?_
      rintro _ rfl
      refine c_word (a + 6) hg ?_
      have hfl : wd8 g (a + 6) < 65536 := wd8_lt hgb _
      refine ⟨fun v => v = bI (df4 g a), ?_, ?_⟩
      · rintro _ rfl
        refine ⟨isB_bI _, ?_⟩
        rintro _ rfl
        refine ⟨fun v => v = bI (mf4 g a), ?_, ?_⟩
        · rintro _ rfl
          refine ⟨isB_bI _, ?_⟩
          rintro _ rfl
          rw [nI_m8191]
          rintro _ rfl
          refine c_at (a + 8) hg ?_
          rintro _ rfl
          refine c_at (a + 9) hg ?_
          rintro _ rfl
          refine c_number (a + 12) 4 hg ?_
          rw [nI_num4]
          rintro _ rfl
          refine c_number (a + 16) 4 hg ?_
          rw [nI_num4]
          rintro _ rfl
          refine c_sum (a + 12) (a + 20) hg ?_
          rintro _ rfl _ rfl _ rfl _ rfl
          have e1 : nI a + nI (hl4 g a) = nI (a + hl4 g a) := nI_add _ _
          have e2 : nI (tl4 g a) - nI (hl4 g a) = nI (tl4 g a - hl4 g a) := pk_sub c4
          have e3 : (if nI a + nI (tl4 g a) < nI e then nI a + nI (tl4 g a) else nI e) - (nI a + nI (hl4 g a)) = nI (th4 g a e) := by
            rw [nI_add, nI_add]
            unfold th4
            by_cases z : a + tl4 g a < e
            · rw [if_pos z, if_pos ((nI_ltI (by omega) (by omega)).mpr z)]; exact pk_sub (by omega)
            · rw [if_neg z, if_neg (fun y => z ((nI_ltI (by omega) (by omega)).mp y))]; exact pk_sub (by omega)
          refine h1 _ _ ?_ (ml_frL _ _ _ _ (by decide)) hrd ?_
          · repeat' first | exact fr_r _ _ | refine fr_t ?_ (mu_fr _ _ _ _ (by decide))
          · exact ⟨rfl, rfl, rfl, rfl, rfl, rfl, rfl, e1, e2, e3, rfl, rfl, rfl, rfl, rfl, by rw [show a + 20 - (a + 12) = 8 by omega]; rfl⟩
        · exact kfl (nI_fl 13 8192 (by decide) rfl)
      · exact kfl (nI_fl 14 16384 (by decide) rfl)
    · rw [show nI e - nI a = nI (e - a) from pk_sub hae]
      refine ⟨_, id, ?_⟩
      refine qs (e - a) _ (fun c => by omega) (fun c => ?_) rfl (by omega) (by omega)
      refine pk_lt (e - a) (hl4 g a) (fun c => (bI_f (by omega)).symm) (fun c => (bI_t (by omega)).symm) rfl rfl (by omega) (by omega)
  · refine c_word_any (a + 2) ?_
    intro v hv
    rintro _ rfl
    refine ⟨fun v => v = 0, ?_, ?_⟩
    · rintro _ rfl
      refine ⟨fun _ => h0 _ _ (fr_t (mu_fr _ _ _ _ (by decide)) (mu_fr _ _ _ _ (by decide))) (frL_r _ _) (fun z => c20 z.1), fun z => absurd rfl z⟩
    · rw [show nI e - nI a = nI (e - a) from pk_sub hae]
      refine ⟨_, id, ?_⟩
      refine qs (e - a) _ (fun c => rfl) (fun c => ?_) rfl (by omega) (by omega)
      omega
/-! options -/
theorem op4_end {g : Nat → Nat} {e f i : Nat} {r : Bool} (h : e ≤ i ∨ g i = 0) : op4 g e f i r = if r then 2 else 1 := by
  cases f with
  | zero => rfl
  | succ f => unfold op4; rw [if_pos h]
theorem op4_one {g : Nat → Nat} {e f i : Nat} {r : Bool} (h : ¬ (e ≤ i ∨ g i = 0)) (h1 : g i = 1) : op4 g e (f + 1) i r = op4 g e f (i + 1) r := by
  rw [op4, if_neg h, if_pos h1]
theorem op4_bad {g : Nat → Nat} {e f i : Nat} {r : Bool} (h : ¬ (e ≤ i ∨ g i = 0)) (h1 : ¬ g i = 1) (h2 : e ≤ i + 1 ∨ g (i + 1) < 2 ∨ e < i + g (i + 1)) : op4 g e (f + 1) i r = 0 := by
  rw [op4, if_neg h, if_neg h1, if_pos h2]
theorem op4_go {g : Nat → Nat} {e f i : Nat} {r : Bool} (r' : Bool) (h : ¬ (e ≤ i ∨ g i = 0)) (h1 : ¬ g i = 1) (h2 : ¬ (e ≤ i + 1 ∨ g (i + 1) < 2 ∨ e < i + g (i + 1))) (hr : r' = (r || decide ((g i = 131 ∨ g i = 137) ∧ 3 ≤ g (i + 1) ∧ g (i + 2) ≤ g (i + 1)))) : op4 g e (f + 1) i r = op4 g e f (i + g (i + 1)) r' := by
  rw [op4, if_neg h, if_neg h1, if_neg h2, hr]
def rb (r : Bool) : Int32 := if r then 1 else 0
/-- what both loops keep -/
def oInv (g : Nat → Nat) (e i : Nat) (r : Bool) : Prop := 20 ≤ i ∧ i ≤ e ∧ ∃ f, e - i ≤ f ∧ op4 g e f i r = opr g
theorem oInv_0 {g : Nat → Nat} (h : 20 ≤ hl4 g 0) : oInv g (hl4 g 0) 20 false := ⟨Nat.le_refl _, h, hl4 g 0, by omega, rfl⟩
theorem oInv_end {g : Nat → Nat} {e i : Nat} {r : Bool} (h : oInv g e i r) (c : e ≤ i ∨ g i = 0) : opr g = if r then 2 else 1 := by
  obtain ⟨_, _, f, hf, hr⟩ := h
  rw [← hr, op4_end c]
theorem oInv_one {g : Nat → Nat} {e i : Nat} {r : Bool} (h : oInv g e i r) (c : i < e) (c0 : g i ≠ 0) (c1 : g i = 1) : oInv g e (i + 1) r := by
  obtain ⟨h1, h2, f, hf, hr⟩ := h
  obtain ⟨f, rfl⟩ : ∃ f', f = f' + 1 := ⟨f - 1, by omega⟩
  exact ⟨by omega, by omega, f, by omega, by rw [← hr, op4_one (by omega) c1]⟩
theorem oInv_bad {g : Nat → Nat} {e i : Nat} {r : Bool} (h : oInv g e i r) (c : i < e) (c0 : g i ≠ 0) (c1 : ¬ g i = 1) (c2 : e ≤ i + 1 ∨ g (i + 1) < 2 ∨ e < i + g (i + 1)) : opr g = 0 := by
  obtain ⟨h1, h2, f, hf, hr⟩ := h
  obtain ⟨f, rfl⟩ : ∃ f', f = f' + 1 := ⟨f - 1, by omega⟩
  rw [← hr, op4_bad (by omega) c1 c2]
theorem oInv_go {g : Nat → Nat} {e i : Nat} {r : Bool} (r' : Bool) (h : oInv g e i r) (c : i < e) (c0 : g i ≠ 0) (c1 : ¬ g i = 1) (c2 : ¬ (e ≤ i + 1 ∨ g (i + 1) < 2 ∨ e < i + g (i + 1))) (hr' : r' = (r || decide ((g i = 131 ∨ g i = 137) ∧ 3 ≤ g (i + 1) ∧ g (i + 2) ≤ g (i + 1)))) : oInv g e (i + g (i + 1)) r' := by
  obtain ⟨h1, h2, f, hf, hr⟩ := h
  obtain ⟨f, rfl⟩ : ∃ f', f = f' + 1 := ⟨f - 1, by omega⟩
  exact ⟨by omega, by omega, f, by omega, by rw [← hr, op4_go r' (by omega) c1 c2 hr']⟩
