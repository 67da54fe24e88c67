theorem mu_mu (M : cM) (c k : Nat) (v w : Int32) : mu (mu M c k v) c k w = mu M c k w := by
  funext c' k'
  unfold mu
  by_cases h : c' = c
  · simp only [h, if_true]
    by_cases h2 : k' = k
    · simp only [h2, if_true]
    · simp only [h2, if_false]
  · simp only [h, if_false]
theorem c_readOptions {M : cM} {L : cL} {Z : Int32 → cM → Prop} {g : Nat → Nat} (n : Nat) (hg : at8 (M 2) 2400 = g) (hp : pk4 (M 11) (L 11) g 0 n) (h20 : 20 ≤ hl4 g 0) (h0 : ∀ r, opr g = 0 → Z 0 (mu M 11 17 (rb r))) (h1 : ∀ r, opr g = (if r then 2 else 1) → Z 1 (mu M 11 17 (rb r))) : wp_X0_readOptions_11_1 M L Z := by
  have hgb : ∀ i, g i < 256 := fun i => by rw [← hg]; exact at8_lt _ _ _
  have hhl : hl4 g 0 ≤ 60 := hl4_le 0
  have h14 : M 11 14 = nI (hl4 g 0) := hp.2.2.2.2.2.2.2.2.2.2.2.2.1
  unfold wp_X0_readOptions_11_1
  intro x1 hx1 x2 hx2
  have e1 : x1 = nI (hl4 g 0) := by rw [hx1, hp.1, h14, nI_add, Nat.zero_add]
  have e2 : x2 = nI 20 := by rw [hx2, hp.1]; exact nI_add 0 20
  subst e1 e2
  rintro _ rfl
  refine ⟨fun x4 x5 M6 => ∃ i k r, x4 = nI i ∧ x5 = nI k ∧ M6 = mu M 11 17 (rb r) ∧ oInv g (hl4 g 0) i r ∧ k + 20 ≤ i, fun x4 _ _ => 100 - x4.toNatClampNeg, ⟨20, 0, false, rfl, rfl, rfl, oInv_0 h20, by omega⟩, ?_⟩
  rintro _ _ _ ⟨i, k, r, rfl, rfl, rfl, hi, hk⟩
  have hie : i ≤ hl4 g 0 := hi.2.1
  refine pk_le (hl4 g 0) k (fun c => by omega) (fun c => ?_) h14 rfl (by omega) (by omega)
  refine pk_le (hl4 g 0) i (fun c => h1 r (oInv_end hi (Or.inl c))) (fun ci => ?_) rfl rfl (by omega) (by omega)
  refine c_at i hg ?_
  have hb0 := hgb i
  have hb1 := hgb (i + 1)
  have hb2 := hgb (i + 2)
  refine qen (g i) _ (fun c0 => h1 r (oInv_end hi (Or.inr c0))) (fun c0 => ?_) rfl (by omega) (by omega)
  by_cases z1 : g i = 1
  · refine ⟨fun v => v = 1, ?_, ?_⟩
    · rintro _ rfl
      refine ⟨fun c => absurd c (by decide), fun _ => ?_⟩
      refine ⟨True, fun _ => ?_, ?_⟩
      · refine pk_le (i + 1) (hl4 g 0) (fun c2 => ?_) (fun c2 => by omega) (nI_1 i) rfl (by omega) (by omega)
        refine ⟨fun v => v = 0, ?_, ?_⟩
        · rintro _ rfl
          refine ⟨fun M' => M' = mu M 11 17 (rb r), ?_, ?_⟩
          · rintro _ rfl
            rintro _ rfl _ rfl
            refine ⟨⟨i + 1, k + 1, r, nI_1 i, nI_1 k, rfl, oInv_one hi ci c0 z1, by omega⟩, ?_⟩
            dsimp only
            rw [nI_1, nI_clamp (by omega), nI_clamp (by omega)]
            omega
          · exact ⟨fun _ => rfl, fun c => absurd rfl c⟩
        · refine ⟨False, False.elim, ?_⟩
          refine qe (g i) _ (fun c => by omega) (fun c => ?_) rfl (by omega) (by omega)
          refine qen (g i) _ (fun c => by omega) (fun c => rfl) rfl (by omega) (by omega)
      · refine ⟨fun _ => trivial, fun _ => ?_⟩
        refine qen (g i) _ (fun c => trivial) (fun c => absurd z1 c) rfl (by omega) (by omega)
    · refine qen (g i) _ (fun c => rfl) (fun c => absurd z1 c) rfl (by omega) (by omega)
  · by_cases z2 : hl4 g 0 ≤ i + 1
    · refine ⟨fun v => v = 0, ?_, ?_⟩
      · rintro _ rfl
        exact ⟨fun _ => h0 r (oInv_bad hi ci c0 z1 (Or.inl z2)), fun c => absurd (by decide) c⟩
      · refine qen (g i) _ (fun c => absurd c z1) (fun c => ?_) rfl (by omega) (by omega)
        refine pk_le (hl4 g 0) (i + 1) (fun _ => rfl) (fun c => by omega) rfl (nI_1 i) (by omega) (by omega)
    · refine ⟨fun v => v = nI (g (i + 1)), ?_, ?_⟩
      · rintro _ rfl
        refine qs (g (i + 1)) _ (fun c => h0 r (oInv_bad hi ci c0 z1 (Or.inr (Or.inl (by omega))))) (fun c3 => ?_) rfl (by omega) (by omega)
        by_cases z3 : g (i + 1) < 2
        · refine ⟨False, False.elim, ?_⟩
          refine qg (g (i + 1)) _ (fun c => by omega) (fun c => ?_) rfl (by omega) (by omega)
          refine qen (g i) _ (fun c => absurd c z1) (fun c => h0 r (oInv_bad hi ci c0 z1 (Or.inr (Or.inl z3)))) rfl (by omega) (by omega)
        · refine ⟨True, fun _ => ?_, ?_⟩
          · refine pk_le (i + g (i + 1)) (hl4 g 0) (fun c4 => ?_) (fun c4 => h0 r (oInv_bad hi ci c0 z1 (Or.inr (Or.inr c4)))) (nI_add _ _) rfl (by omega) (by omega)
            have hnew := oInv_go _ hi ci c0 z1 (by omega) rfl
            refine ⟨fun v => v = bI (g i = 131 ∨ g i = 137), ?_, ?_⟩
            · rintro _ rfl
              refine ⟨fun M' => M' = mu M 11 17 (rb (r || decide ((g i = 131 ∨ g i = 137) ∧ 3 ≤ g (i + 1) ∧ g (i + 2) ≤ g (i + 1)))), ?_, ?_⟩
              · rintro _ rfl
                rintro _ rfl _ rfl
                refine ⟨⟨i + g (i + 1), k + 1, _, nI_add _ _, nI_1 k, rfl, hnew, by omega⟩, ?_⟩
                dsimp only
                rw [nI_add, nI_clamp (by omega), nI_clamp (by omega)]
                omega
              · refine bz (fun c => ?_) (fun c => ?_)
                · rw [decide_eq_false (fun z => c z.1), Bool.or_false]
                · refine qs (g (i + 1)) _ (fun c2 => ?_) (fun c2 => ?_) rfl (by omega) (by omega)
                  · rw [decide_eq_false (fun z => by have := z.2.1; omega), Bool.or_false]
                  · refine c_at (i + 2) hg ?_
                    refine pk_lt (g (i + 1)) (g (i + 2)) (fun c3 => ?_) (fun c3 => ?_) rfl rfl (by omega) (by omega)
                    · rw [decide_eq_false (fun z => by have := z.2.2; omega), Bool.or_false]
                    · rintro _ rfl
                      rw [decide_eq_true ⟨c, c2, c3⟩, Bool.or_true, mu_mu]
                      rfl
            · repeat' first
                | exact (bI_t (by omega)).symm
                | exact (bI_f (by omega)).symm
                | refine bz (fun c => ?_) (fun c => ?_)
                | refine zb (fun c => ?_) (fun c => ?_)
                | refine qe _ _ (fun c => ?_) (fun c => ?_) (by first | rfl | assumption) (by omega) (by omega)
                | refine qen _ _ (fun c => ?_) (fun c => ?_) (by first | rfl | assumption) (by omega) (by omega)
                | refine ql _ _ (fun c => ?_) (fun c => ?_) (by first | rfl | assumption) (by omega) (by omega)
                | refine qln _ _ (fun c => ?_) (fun c => ?_) (by first | rfl | assumption) (by omega) (by omega)
                | refine qg _ _ (fun c => ?_) (fun c => ?_) (by first | rfl | assumption) (by omega) (by omega)
                | refine qgn _ _ (fun c => ?_) (fun c => ?_) (by first | rfl | assumption) (by omega) (by omega)
                | refine qs _ _ (fun c => ?_) (fun c => ?_) (by first | rfl | assumption) (by omega) (by omega)
                | refine qsn _ _ (fun c => ?_) (fun c => ?_) (by first | rfl | assumption) (by omega) (by omega)
                | refine qb _ _ (fun c => ?_) (fun c => ?_) (by first | rfl | assumption) (by omega) (by omega)
                | refine qbn _ _ (fun c => ?_) (fun c => ?_) (by first | rfl | assumption) (by omega) (by omega)
                | refine pk_eq _ _ (fun c => ?_) (fun c => ?_) (by first | rfl | assumption) (by first | rfl | assumption) (by omega) (by omega)
                | refine pn_eq _ _ (fun c => ?_) (fun c => ?_) (by first | rfl | assumption) (by first | rfl | assumption) (by omega) (by omega)
                | refine pk_le _ _ (fun c => ?_) (fun c => ?_) (by first | rfl | assumption) (by first | rfl | assumption) (by omega) (by omega)
                | refine pn_le _ _ (fun c => ?_) (fun c => ?_) (by first | rfl | assumption) (by first | rfl | assumption) (by omega) (by omega)
                | refine pk_lt _ _ (fun c => ?_) (fun c => ?_) (by first | rfl | assumption) (by first | rfl | assumption) (by omega) (by omega)
                | refine pn_lt _ _ (fun c => ?_) (fun c => ?_) (by first | rfl | assumption) (by first | rfl | assumption) (by omega) (by omega)
                | refine And.intro (fun c => absurd c (by decide)) (fun _ => ?_)
                | refine And.intro (fun _ => ?_) (fun c => absurd rfl c)
                | refine And.intro (fun c => absurd rfl c) (fun _ => ?_)
                | refine And.intro (fun _ => ?_) (fun c => absurd c (by decide))
                | refine Exists.intro _ (And.intro (fun hv => hv) ?_)
          · refine qg (g (i + 1)) _ (fun c => trivial) (fun c => by omega) rfl (by omega) (by omega)
      · refine qen (g i) _ (fun c => absurd c z1) (fun c => ?_) rfl (by omega) (by omega)
        refine pk_le (hl4 g 0) (i + 1) (fun c => by omega) (fun c => ?_) rfl (nI_1 i) (by omega) (by omega)
        exact c_at (i + 1) hg rfl
theorem c_fragment_11 {M : cM} {L : cL} {Z : Int32 → Prop} {g : Nat → Nat} (a n : Nat) (hgb : ∀ i, g i < 256) (hp : pk4 (M 11) (L 11) g a n) (h : Z (bI (fg4 g a))) : wp_X2_fragment_11 M L Z := by
  have h5 : M 11 5 = bI (mf4 g a) := hp.2.2.2.2.2.1
  have h6 : M 11 6 = nI (of4 g a) := hp.2.2.2.2.2.2.1
  have ho : of4 g a < 8192 := Nat.mod_lt _ (by decide)
  unfold wp_X2_fragment_11
  rw [h5, h6]
  refine zb (fun c => ?_) (fun c => zt h (Or.inl c))
  refine qe (of4 g a) _ (fun c2 => zf h (fun z => z.elim c (fun y => y c2))) (fun c2 => zt h (Or.inr c2)) rfl (by omega) (by omega)
theorem c_fragmentHeader_11 {M : cM} {L : cL} {Z : Int32 → Prop} {g : Nat → Nat} (a n : Nat) (hgb : ∀ i, g i < 256) (hp : pk4 (M 11) (L 11) g a n) (h : Z (nI (cI (fg4 g a) 8 0))) : wp_X0_fragmentHeader_11 M L Z := by
  unfold wp_X0_fragmentHeader_11
  refine c_fragment_11 a n hgb hp ?_
  refine bz (fun c => ?_) (fun c => ?_)
  · rw [cI_f c] at h; exact h
  · rw [cI_t c] at h; exact h
theorem c_fragment_12 {M : cM} {L : cL} {Z : Int32 → Prop} {g : Nat → Nat} (a n : Nat) (hgb : ∀ i, g i < 256) (hp : pk4 (M 12) (L 12) g a n) (h : Z (bI (fg4 g a))) : wp_X2_fragment_12 M L Z := by
  have h5 : M 12 5 = bI (mf4 g a) := hp.2.2.2.2.2.1
  have h6 : M 12 6 = nI (of4 g a) := hp.2.2.2.2.2.2.1
  have ho : of4 g a < 8192 := Nat.mod_lt _ (by decide)
  unfold wp_X2_fragment_12
  rw [h5, h6]
  refine zb (fun c => ?_) (fun c => zt h (Or.inl c))
  refine qe (of4 g a) _ (fun c2 => zf h (fun z => z.elim c (fun y => y c2))) (fun c2 => zt h (Or.inr c2)) rfl (by omega) (by omega)
theorem c_fragmentHeader_12 {M : cM} {L : cL} {Z : Int32 → Prop} {g : Nat → Nat} (a n : Nat) (hgb : ∀ i, g i < 256) (hp : pk4 (M 12) (L 12) g a n) (h : Z (nI (cI (fg4 g a) 8 0))) : wp_X0_fragmentHeader_12 M L Z := by
  unfold wp_X0_fragmentHeader_12
  refine c_fragment_12 a n hgb hp ?_
  refine bz (fun c => ?_) (fun c => ?_)
  · rw [cI_f c] at h; exact h
  · rw [cI_t c] at h; exact h
theorem c_endsTooFar_11 {M : cM} {L : cL} {Z : Int32 → Prop} {g : Nat → Nat} (n : Nat) (hgb : ∀ i, g i < 256) (hp : pk4 (M 11) (L 11) g 0 n) (h : Z (bI (65535 < of4 g 0 * 8 + (tl4 g 0 - hl4 g 0)))) (hl : tl4 g 0 ≤ 2400) : wp_X2_endsTooFar_11 M L Z := by
  have h6 : M 11 6 = nI (of4 g 0) := hp.2.2.2.2.2.2.1
  have h8 : M 11 8 = nI (tl4 g 0 - hl4 g 0) := hp.2.2.2.2.2.2.2.2.1
  have ho : of4 g 0 < 8192 := Nat.mod_lt _ (by decide)
  unfold wp_X2_endsTooFar_11
  refine c_fragment_11 0 n hgb hp ?_
  rw [h6, h8]
  refine bz (fun c => zf h (fun z => c (Or.inr (by omega)))) (fun c => ?_)
  refine ql (of4 g 0 * 8 + (tl4 g 0 - hl4 g 0)) _ (fun c2 => zf h (by omega)) (fun c2 => zt h c2) (by rw [show (8 : Int32) = nI 8 from rfl, nI_mul', nI_add]) (by omega) (by omega)
theorem c_readWhole_11 {M : cM} {L : cL} {Z : Int32 → cM → cL → Prop} {g : Nat → Nat} (n : Nat) (hg : at8 (M 2) 2400 = g) (hn : n ≤ 2400) (hn1 : M 1 1 = nI n)
    (h0 : ∀ M' L', fr M M' [11] → frL L L' [11] → ¬ form4 g n → Z 0 M' L')
    (h1 : ∀ M' L', fr M M' [11] → frL L L' [11] → form4 g n → pk4 (M' 11) (L' 11) g 0 n → M' 11 17 = bI (opr g = 2) → Z 1 M' L') : wp_X0_readWhole_11_1 M L Z := by
  have hgb : ∀ i, g i < 256 := fun i => by rw [← hg]; exact at8_lt _ _ _
  have hhl : hl4 g 0 ≤ 60 := hl4_le 0
  have htl : tl4 g 0 < 65536 := wd8_lt hgb _
  unfold wp_X0_readWhole_11_1
  refine c_read_11 0 n hg (Nat.zero_le _) hn (fun M1 L1 f1 k1 c => ?_) (fun M1 L1 f1 k1 c hp => ?_) rfl hn1
  · exact ⟨fun _ => h0 _ _ f1 k1 (fun z => c z.1), fun z => absurd rfl z⟩
  refine ⟨fun z => absurd z (by decide), fun _ => ?_⟩
  have h15 : M1 11 15 = nI (tl4 g 0) := hp.2.2.2.2.2.2.2.2.2.2.2.2.2.1
  have h14 : M1 11 14 = nI (hl4 g 0) := hp.2.2.2.2.2.2.2.2.2.2.2.2.1
  have hg1 : at8 (M1 2) 2400 = g := by rw [f1 2 (by decide)]; exact hg
  refine pk_lt n (tl4 g 0) (fun c2 => h0 _ _ f1 k1 (fun z => by have := z.2.1; omega)) (fun c2 => ?_) (by rw [f1 1 (by decide)]; exact hn1) h15 (by omega) (by omega)
  refine c_sum 0 (hl4 g 0) hg1 ?_ (by omega) (by omega) rfl h14
  have hs := sm8_le hgb 0 (hl4 g 0)
  refine p_folded (sm8 g 0 (hl4 g 0)) ?_ (by omega) rfl
  have := fo_le (sm8 g 0 (hl4 g 0))
  refine qen (fo (sm8 g 0 (hl4 g 0))) _ (fun c3 => ?_) (fun c3 => h0 _ _ f1 k1 (fun z => c3 z.2.2.1)) rfl (by omega) (by omega)
  refine c_readOptions n hg1 hp c.2.2.2.1 (fun r ho => ?_) (fun r ho => ?_)
  · exact ⟨fun _ => h0 _ _ (fr_t f1 (mu_fr _ _ _ _ (by decide))) k1 (fun z => z.2.2.2.1 ho), fun z => absurd rfl z⟩
  refine ⟨fun z => absurd z (by decide), fun _ => ?_⟩
  have hp2 : pk4 (mu M1 11 17 (rb r) 11) (L1 11) g 0 n := hp
  refine c_endsTooFar_11 n hgb hp2 ?_ (by omega)
  refine zb (fun c4 => ?_) (fun c4 => h0 _ _ (fr_t f1 (mu_fr _ _ _ _ (by decide))) k1 (fun z => by have := z.2.2.2.2; omega))
  refine h1 _ _ (fr_t f1 (mu_fr _ _ _ _ (by decide))) k1 ⟨c, c2, c3, by rw [ho]; cases r <;> decide, by omega⟩ hp2 ?_
  show rb r = _
  rw [ho]
  cases r
  · exact (bI_f (by decide)).symm
  · exact (bI_t (by decide)).symm
