/-! the reference reads a packet of IPv4 -/
theorem by_sm : ∀ n, n < 128 → isBy (nI n) := by unfold isBy; decide +kernel
theorem by_eq {x : Int32} (h : isBy x) {n : Nat} (hn : n < 128) : x = nI n ↔ oc x = n := by
  refine ⟨fun z => by rw [z, oc_nI]; omega, fun z => isBy_eq h (by_sm n hn) (by rw [z, oc_nI]; omega)⟩
theorem b_15 (x : Int32) : x &&& (15 : Int32) = nI (oc x % 16) := by
  rw [pk_and x 4 (by decide)]
  unfold oc
  congr 1
  omega
theorem b_fl (x : Int32) (k : Nat) (m : Int32) (hk : k < 8) (hm : m = nI (2 ^ k)) : (x &&& m = 0) ↔ ¬ (oc x / 2 ^ k % 2 = 1) := by
  rw [← nI_u32 x, nI_fl k m (by omega) hm, nI_u32]
  unfold oc u32
  have e : x.toBitVec.toNat % 256 / 2 ^ k % 2 = x.toBitVec.toNat / 2 ^ k % 2 := bit_cut _ 8 k hk
  rw [e]
theorem d_header4 {M : cM} {L : cL} {x : Int32} {Z : cM → Prop} {g : Nat → Nat} (a : Nat) (hg : at8 (M 1) 2400 = g) (h : ∀ M', fz M M' [0] [31, 32, 33, 34, 35] → M' 0 31 = nI (hl4 g a) → M' 0 32 = nI (tl4 g a) → M' 0 33 = nI (of4 g a * 8) → M' 0 34 = bI (mf4 g a) → M' 0 35 = nI (g (a + 9)) → Z M') (ha : a + 9 < 2400 := by omega) (hx : x = nI a := by first | rfl | assumption) : wp_X7_header4_0 M L x Z := by
  subst hx
  have hgb : ∀ i, g i < 256 := fun i => by rw [← hg]; exact at8_lt _ _ _
  have o0 : oc (M 1 a) = g a := by rw [← hg, at8_in (by omega)]
  have o6 : oc (M 1 (a + 6)) = g (a + 6) := by rw [← hg, at8_in (by omega)]
  unfold wp_X7_header4_0
  refine ⟨vp_in_nI (by omega) (by decide), ?_⟩
  rw [nI_clamp (by omega), b_15, o0, show (4 : Int32) * nI (g a % 16) = nI (hl4 g a) from by rw [show (4 : Int32) = nI 4 from rfl, nI_mul', Nat.mul_comm]; rfl]
  rintro _ rfl
  refine d_two (a + 2) hg ?_
  rintro _ rfl
  refine d_two (a + 6) hg ?_
  rw [nI_m8191, show (8 : Int32) * nI (wd8 g (a + 6) % 8192) = nI (of4 g a * 8) from by rw [show (8 : Int32) = nI 8 from rfl, nI_mul', Nat.mul_comm]; rfl, show nI a + (6 : Int32) = nI (a + 6) from nI_add a 6, nI_clamp (by omega)]
  rintro _ rfl
  refine ⟨vp_in_nI (by omega) (by decide), ?_⟩
  refine ⟨fun v => v = bI (mf4 g a), ?_, ?_⟩
  · rintro _ rfl
    refine ⟨isB_bI _, ?_⟩
    rintro _ rfl
    refine d_oct (a + 9) hg ?_
    rintro _ rfl
    refine h _ ?_ rfl rfl rfl rfl rfl
    repeat' first | exact fz_r _ _ _ | refine fz_t ?_ (mu_fz0 _ _ _ (by decide) (by decide))
  · have e : oc (M 1 (a + 6)) / 2 ^ 5 % 2 = 1 ↔ mf4 g a := by
      rw [o6]
      unfold mf4 fl4 wd8
      have := hgb (a + 6 + 1)
      omega
    exact kfl ((b_fl (M 1 (a + 6)) 5 32 (by decide) rfl).trans (not_congr e))
theorem d_options {M : cM} {L : cL} {Z : Int32 → cM → Prop} {g : Nat → Nat} (hg : at8 (M 1) 2400 = g) (hB : ∀ j, isBy (M 1 j)) (h31 : M 0 31 = nI (hl4 g 0)) (h20 : 20 ≤ hl4 g 0) (h0 : ∀ r, opr g = 0 → Z 0 (mu M 0 36 (rb r))) (h1 : ∀ r, opr g = (if r then 2 else 1) → Z 1 (mu M 0 36 (rb r))) : wp_X7_optionsAreGood_0 M L Z := by
  have hgb : ∀ i, g i < 256 := fun i => by rw [← hg]; exact at8_lt _ _ _
  have hhl : hl4 g 0 ≤ 60 := hl4_le 0
  unfold wp_X7_optionsAreGood_0
  rintro _ rfl
  refine ⟨fun x2 M3 => ∃ i r, x2 = nI i ∧ M3 = mu M 0 36 (rb r) ∧ oInv g (hl4 g 0) i r, fun x2 _ => 100 - x2.toNatClampNeg, ⟨20, false, rfl, rfl, oInv_0 h20⟩, ?_⟩
  rintro _ _ ⟨i, r, rfl, rfl, hi⟩
  have hie : i ≤ hl4 g 0 := hi.2.1
  refine pk_le (hl4 g 0) i (fun c => h1 r (oInv_end hi (Or.inl c))) (fun ci => ?_) h31 rfl (by omega) (by omega)
  refine ⟨vp_in_nI (by omega) (by decide), ?_⟩
  rw [nI_clamp (by omega)]
  have oi : oc (M 1 i) = g i := by rw [← hg, at8_in (by omega)]
  have e0 : (mu M 0 36 (rb r) 1 i = 0) ↔ g i = 0 := by rw [← oi]; exact by_eq (hB i) (n := 0) (by decide)
  refine ⟨fun z => h1 r (oInv_end hi (Or.inr (e0.mp z))), fun z => ?_⟩
  have c0 : g i ≠ 0 := fun y => z (e0.mpr y)
  have hb0 := hgb i
  have hb1 := hgb (i + 1)
  have hb2 := hgb (i + 2)
  refine d_oct i hg ?_
  refine qen (g i) _ (fun z1 => ?_) (fun z1 => ?_) rfl (by omega) (by omega)
  · rintro _ rfl
    refine ⟨⟨i + 1, r, nI_1 i, rfl, oInv_one hi ci c0 z1⟩, ?_⟩
    dsimp only
    rw [nI_1, nI_clamp (by omega), nI_clamp (by omega)]
    omega
  refine pk_lt (i + 1) (hl4 g 0) (fun z2 => ?_) (fun z2 => h0 r (oInv_bad hi ci c0 z1 (Or.inl z2))) (nI_1 i) h31 (by omega) (by omega)
  refine d_oct (i + 1) hg ?_
  refine qs (g (i + 1)) _ (fun c => h0 r (oInv_bad hi ci c0 z1 (Or.inr (Or.inl c)))) (fun c3 => ?_) rfl (by omega) (by omega)
  refine pk_le (i + g (i + 1)) (hl4 g 0) (fun c4 => ?_) (fun c4 => h0 r (oInv_bad hi ci c0 z1 (Or.inr (Or.inr c4)))) (nI_add _ _) h31 (by omega) (by omega)
  have hnew := oInv_go _ hi ci c0 z1 (by omega) rfl
  refine ⟨fun M' => M' = mu M 0 36 (rb (r || decide ((g i = 131 ∨ g i = 137) ∧ 3 ≤ g (i + 1) ∧ g (i + 2) ≤ g (i + 1)))), ?_, ?_⟩
  · rintro _ rfl
    rintro _ rfl
    refine ⟨⟨i + g (i + 1), _, nI_add _ _, rfl, hnew⟩, ?_⟩
    dsimp only
    rw [nI_add, nI_clamp (by omega), nI_clamp (by omega)]
    omega
  · by_cases c : g i = 131 ∨ g i = 137
    · refine ⟨True, fun _ => ?_, ?_⟩
      · refine qs (g (i + 1)) _ (fun c2 => ?_) (fun c2 => ?_) rfl (by omega) (by omega)
        · rw [decide_eq_false (fun z => by have := z.2.1; omega), Bool.or_false]
        · refine d_oct (i + 2) hg ?_
          refine pk_lt (g (i + 1)) (g (i + 2)) (fun c3 => ?_) (fun c3 => ?_) rfl rfl (by omega) (by omega)
          · rw [decide_eq_false (fun z => by have := z.2.2; omega), Bool.or_false]
          · rintro _ rfl
            rw [decide_eq_true ⟨c, c2, c3⟩, Bool.or_true, mu_mu]
            rfl
      · refine qe (g i) _ (fun _ => trivial) (fun c5 => ?_) rfl (by omega) (by omega)
        refine qen (g i) _ (fun _ => trivial) (fun c6 => by omega) rfl (by omega) (by omega)
    · rw [decide_eq_false (fun z => c z.1), Bool.or_false]
      refine ⟨False, False.elim, ?_⟩
      refine qe (g i) _ (fun _ => by omega) (fun c5 => ?_) rfl (by omega) (by omega)
      refine qen (g i) _ (fun _ => by omega) (fun c6 => rfl) rfl (by omega) (by omega)
theorem lg_eq {a b : Nat} {A B : Prop} {x y : Int64} (f : a = b → A) (g : a ≠ b → B) (hx : x = lN a) (hy : y = lN b) (ha : a < 2 ^ 63) (hb : b < 2 ^ 63) : (lg_cmp x y = 0 → A) ∧ (¬ lg_cmp x y = 0 → B) := by
  subst hx hy
  rw [lg_cmp_eq, pk_lEQ ha hb]
  exact ⟨f, g⟩
theorem lg_eqn {a b : Nat} {A B : Prop} {x y : Int64} (f : a = b → A) (g : a ≠ b → B) (hx : x = lN a) (hy : y = lN b) (ha : a < 2 ^ 63) (hb : b < 2 ^ 63) : (¬ lg_cmp x y = 0 → B) ∧ (lg_cmp x y = 0 → A) := ⟨(lg_eq f g hx hy ha hb).2, (lg_eq f g hx hy ha hb).1⟩
theorem d_formed4 {M : cM} {L : cL} {x : Int32} {Z : Int32 → cM → cL → Prop} {g : Nat → Nat} (n : Nat) (hg : at8 (M 1) 2400 = g) (hB : ∀ j, isBy (M 1 j)) (hn : n ≤ 2400)
    (h0 : ∀ M' L', fz M M' [0] [31, 32, 33, 34, 35, 36] → fL L L' [18] → ¬ form4 g n → Z 0 M' L')
    (h1 : ∀ M' L', fz M M' [0] [31, 32, 33, 34, 35, 36] → fL L L' [18] → form4 g n → M' 0 31 = nI (hl4 g 0) → M' 0 32 = nI (tl4 g 0) → M' 0 33 = nI (of4 g 0 * 8) → M' 0 34 = bI (mf4 g 0) → M' 0 35 = nI (g 9) → M' 0 36 = bI (opr g = 2) → Z 1 M' L') (hx : x = nI n) : wp_X7_isFormed4_0 M L x Z := by
  subst hx
  have hgb : ∀ i, g i < 256 := fun i => by rw [← hg]; exact at8_lt _ _ _
  have hhl : hl4 g 0 ≤ 60 := hl4_le 0
  have htl : tl4 g 0 < 65536 := wd8_lt hgb _
  have ho : of4 g 0 < 8192 := Nat.mod_lt _ (by decide)
  unfold wp_X7_isFormed4_0
  refine qs n _ (fun c => h0 _ _ (fz_r _ _ _) (fL_r _ _) (fun z => by have := z.1.1; omega)) (fun c1 => ?_) rfl (by omega) (by omega)
  refine d_oct 0 hg ?_
  have hb0 := hgb 0
  rw [nI_sr4 (by omega)]
  refine qe (g 0 / 16) _ (fun c2 => ?_) (fun c => h0 _ _ (fz_r _ _ _) (fL_r _ _) (fun z => c z.1.2.2.1)) rfl (by omega) (by omega)
  refine d_header4 0 hg (fun M1 f1 e31 e32 e33 e34 e35 => ?_)
  have f1' : fz M M1 [0] [31, 32, 33, 34, 35, 36] := fz_s f1 (by decide) (by decide)
  refine qs (hl4 g 0) _ (fun c => h0 _ _ f1' (fL_r _ _) (fun z => by have := z.1.2.2.2.1; omega)) (fun c3 => ?_) e31 (by omega) (by omega)
  refine pk_lt n (hl4 g 0) (fun c => h0 _ _ f1' (fL_r _ _) (fun z => by have := z.1.2.1; omega)) (fun c4 => ?_) rfl e31 (by omega) (by omega)
  refine pk_lt (tl4 g 0) (hl4 g 0) (fun c => h0 _ _ f1' (fL_r _ _) (fun z => by have := z.1.2.2.2.2; omega)) (fun c5 => ?_) e32 e31 (by omega) (by omega)
  refine pk_le (tl4 g 0) n (fun c6 => ?_) (fun c => h0 _ _ f1' (fL_r _ _) (fun z => by have := z.2.1; omega)) e32 rfl (by omega) (by omega)
  rintro _ rfl
  have hg1 : at8 (M1 1) 2400 = g := by rw [f1.1 1 (by decide)]; exact hg
  have hB1 : ∀ j, isBy (M1 1 j) := by rw [f1.1 1 (by decide)]; exact hB
  refine r_words_1 0 (hl4 g 0) 0 (fun L1 s1 e18 => ?_) rfl (by omega) (by omega) rfl e31
  rw [hg1, Nat.zero_add, Nat.sub_zero] at e18
  have k1 : fL L L1 [18] := fL_t (ml_fL _ _ _ (by decide)) (sF_fL s1 (by decide))
  have := fo_le (sm8 g 0 (hl4 g 0))
  have hrd : rd4 g 0 n := ⟨by omega, by omega, c2, c3, c5⟩
  refine lg_eqn (b := 65535) (fun c7 => ?_) (fun c => h0 _ _ f1' k1 (fun z => c z.2.2.1)) e18 rfl (by omega) (by omega)
  refine d_options hg1 hB1 e31 c3 (fun r hr => ?_) (fun r hr => ?_)
  · exact ⟨fun _ => h0 _ _ (fz_t f1' (mu_fz0 _ _ _ (by decide) (by decide))) k1 (fun z => z.2.2.2.1 hr), fun z => absurd rfl z⟩
  refine ⟨fun z => absurd z (by decide), fun _ => ?_⟩
  refine qb (of4 g 0 * 8 + tl4 g 0 - hl4 g 0) _ (fun c => h0 _ _ (fz_t f1' (mu_fz0 _ _ _ (by decide) (by decide))) k1 (fun z => by have := z.2.2.2.2; omega)) (fun c8 => ?_) ?_ (by omega) (by omega)
  · refine h1 _ _ (fz_t f1' (mu_fz0 _ _ _ (by decide) (by decide))) k1 ⟨hrd, c6, c7, by rw [hr]; cases r <;> decide, by omega⟩ e31 e32 e33 e34 e35 ?_
    show rb r = _
    rw [hr]
    cases r
    · exact (bI_f (by decide)).symm
    · exact (bI_t (by decide)).symm
  · show M1 0 33 + M1 0 32 - M1 0 31 = _
    rw [e33, e32, e31, nI_add]
    exact pk_sub (by omega)
