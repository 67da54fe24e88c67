/-! the body of a packet of IPv4 -/
theorem flt_0 {g : Nat → Nat} {pr off len pa : Nat} {mo zl : Prop} (h : flt g pr off len pa mo zl = 0) (ho : off = 0) (hp : pr = 17 ∨ pr = 1 ∨ pr = 58 ∨ pr = 6) : 8 ≤ len ∧ (pr = 6 → 20 ≤ len) := by
  unfold flt at h
  rw [cI_f (fun z => z.elim (fun y => y ho) (fun y => y hp))] at h
  by_cases c : len < cI (pr = 6) 20 8
  · rw [cI_t c] at h; exact absurd h (by decide)
  · by_cases z : pr = 6
    · rw [cI_t z] at c; exact ⟨by omega, fun _ => by omega⟩
    · rw [cI_f z] at c; exact ⟨by omega, fun y => absurd y z⟩
theorem f4_0 {g : Nat → Nat} {lt : Prop} (h : f4 g lt = 0) : ¬ bar4 (g 9) ∧ ¬ (g 9 = 1 ∧ fg4 g 0) ∧ ft4 g lt = 0 ∧ ¬ (g 9 = 1 ∧ ¬ (ec4 (g (hl4 g 0)) ∨ er4 (g (hl4 g 0)))) := by
  unfold f4 at h
  by_cases c1 : bar4 (g 9)
  · rw [cI_t c1] at h; exact absurd h (by decide)
  rw [cI_f c1] at h
  by_cases c2 : g 9 = 1 ∧ fg4 g 0
  · rw [cI_t c2] at h; exact absurd h (by decide)
  rw [cI_f c2] at h
  by_cases c3 : ft4 g lt ≠ 0
  · rw [cI_t c3] at h; exact absurd h c3
  rw [cI_f c3] at h
  by_cases c4 : g 9 = 1 ∧ ¬ (ec4 (g (hl4 g 0)) ∨ er4 (g (hl4 g 0)))
  · rw [cI_t c4] at h; exact absurd h (by decide)
  exact ⟨c1, c2, Classical.byContradiction c3, c4⟩
theorem f4_8 {g : Nat → Nat} {lt : Prop} (h : f4 g lt = 0) (ho : of4 g 0 = 0) (hp : g 9 = 17 ∨ g 9 = 1 ∨ g 9 = 6) : 8 ≤ tl4 g 0 - hl4 g 0 ∧ (g 9 = 6 → 20 ≤ tl4 g 0 - hl4 g 0) := flt_0 (f4_0 h).2.2.1 ho (by omega)
theorem f4_i {g : Nat → Nat} {lt : Prop} (h : f4 g lt = 0) (hp : g 9 = 1) : of4 g 0 = 0 ∧ ¬ mf4 g 0 ∧ ¬ fg4 g 0 := by
  have h1 := (f4_0 h).2.1
  refine ⟨Classical.byContradiction (fun z => h1 ⟨hp, Or.inr z⟩), fun z => h1 ⟨hp, Or.inl z⟩, fun z => h1 ⟨hp, z⟩⟩
noncomputable def bd4 (g : Nat → Nat) (W : Nat) : List Nat :=
  cI (g 9 = 1) (fxE6 (seg g (hl4 g 0) (tl4 g 0 - hl4 g 0)) 0 (tl4 g 0 - hl4 g 0) W)
    (cI (g 9 = 17 ∧ of4 g 0 = 0 ∧ wd8 g (hl4 g 0 + 6) = 0) (spl (seg g (hl4 g 0) (tl4 g 0 - hl4 g 0)) 6 (bys 2 (fxv 17 (65535 - fo (W + (tl4 g 0 - hl4 g 0) + 17 + sm8 g (hl4 g 0) (tl4 g 0 - hl4 g 0))))))
      (fxT (seg g (hl4 g 0) (tl4 g 0 - hl4 g 0)) (g 9) (of4 g 0) (tl4 g 0 - hl4 g 0) 0 (sm8 g 12 8) 4 W))
theorem bd4_len {g : Nat → Nat} {lt : Prop} {W : Nat} (h : f4 g lt = 0) : (bd4 g W).length = tl4 g 0 - hl4 g 0 := by
  unfold bd4
  by_cases c : g 9 = 1
  · have := (f4_8 h (f4_i h c).1 (Or.inr (Or.inl c))).1
    rw [cI_t c, fxE6_len (by rw [seg_len]; omega), seg_len]
  · rw [cI_f c]
    by_cases c2 : g 9 = 17 ∧ of4 g 0 = 0 ∧ wd8 g (hl4 g 0 + 6) = 0
    · have := (f4_8 h c2.2.1 (Or.inl c2.1)).1
      rw [cI_t c2, spl_len (by rw [bys_len, seg_len]; omega), seg_len]
    · rw [cI_f c2, fxT_len (by rw [seg_len]; omega), seg_len]
theorem th4_w {g : Nat → Nat} {n : Nat} (h : tl4 g 0 ≤ n) : th4 g 0 n = tl4 g 0 - hl4 g 0 := by
  unfold th4; split <;> omega
theorem sm8_8 {g : Nat → Nat} (hg : ∀ i, g i < 256) (a : Nat) : sm8 g a 8 ≤ 262140 := by
  have e : sm8 g a 8 = wd8 g a + wd8 g (a + 2) + wd8 g (a + 4) + wd8 g (a + 6) := by
    simp [sm8, wd8, Nat.add_assoc]
  have := wd8_lt hg a
  have := wd8_lt hg (a + 2)
  have := wd8_lt hg (a + 4)
  have := wd8_lt hg (a + 6)
  omega
theorem c_bodyFromFour {M : cM} {L : cL} {Z : cM → Prop} {g : Nat → Nat} {H Lo : Int64} {B : Nat} (n : Nat) (lt : Prop) (hg : at8 (M 2) 2400 = g) (hB : ∀ j, isBy (M 2 j)) (hp : pk4 (M 11) (L 11) g 0 n) (hf : form4 g n) (hn : n ≤ 2400) (h0 : f4 g lt = 0) (k13 : L 11 13 = lN (iw H Lo B (sr4 g 0) (tg4 g 0))) (h : ∀ M', fr M M' [3, 4] → holds (M' 4) 0 (bd4 g (iw H Lo B (sr4 g 0) (tg4 g 0))) → M' 3 1 = nI (tl4 g 0 - hl4 g 0) → Z M') : wp_X6_bodyFromFour_0_11 M L Z := by
  have hgb : ∀ i, g i < 256 := fun i => by rw [← hg]; exact at8_lt _ _ _
  have hhl : hl4 g 0 ≤ 60 := hl4_le 0
  have hh := hf.1.2.2.2.2
  have hn2 := hf.2.1
  have htl : tl4 g 0 < 65536 := wd8_lt hgb _
  have h3 : M 11 3 = nI (g 9) := hp.2.2.2.1
  have h6 : M 11 6 = nI (of4 g 0) := hp.2.2.2.2.2.2.1
  have h7 : M 11 7 = nI (hl4 g 0) := by rw [hp.2.2.2.2.2.2.2.1, Nat.zero_add]
  have h8 : M 11 8 = nI (tl4 g 0 - hl4 g 0) := hp.2.2.2.2.2.2.2.2.1
  have h9 : M 11 9 = nI (tl4 g 0 - hl4 g 0) := by rw [hp.2.2.2.2.2.2.2.2.2.1, th4_w hn2]
  have k12 : L 11 12 = lN (sm8 g 12 8) := hp.2.2.2.2.2.2.2.2.2.2.2.2.2.2.2
  have ho4 : of4 g 0 < 8192 := Nat.mod_lt _ (by decide)
  have hb9 := hgb 9
  have hW := iw_le H Lo B (sr4 g 0) (tg4 g 0)
  have hF := sm8_8 hgb 12
  have hlen : (seg g (hl4 g 0) (tl4 g 0 - hl4 g 0)).length = tl4 g 0 - hl4 g 0 := seg_len _ _ _
  have hbl := bd4_len (W := iw H Lo B (sr4 g 0) (tg4 g 0)) h0
  unfold wp_X6_bodyFromFour_0_11
  refine c_copy31 (hl4 g 0) 0 (tl4 g 0 - hl4 g 0) hg hB (fun M1 w1 => ?_) (by omega) (by omega) h7 rfl h8
  rw [w1.1 11 (by decide), h8]
  rintro _ rfl
  have f2 : fr M (mu M1 3 1 (nI (tl4 g 0 - hl4 g 0))) [3, 4] := fr_t (wr_fr w1 (by decide)) (mu_fr _ _ _ _ (by decide))
  have b2 : holds (mu M1 3 1 (nI (tl4 g 0 - hl4 g 0)) 4) 0 (seg g (hl4 g 0) (tl4 g 0 - hl4 g 0)) := w1.2.2
  have c2 : mu M1 3 1 (nI (tl4 g 0 - hl4 g 0)) 3 1 = nI (tl4 g 0 - hl4 g 0) := rfl
  generalize mu M1 3 1 (nI (tl4 g 0 - hl4 g 0)) = M2 at f2 b2 c2 ⊢
  have e2 : M2 11 = M 11 := f2 11 (by decide)
  refine c_fixToSix_11 (g 9) (of4 g 0) (tl4 g 0 - hl4 g 0) (tl4 g 0 - hl4 g 0) 0 0 (sm8 g 12 8) (iw H Lo B (sr4 g 0) (tg4 g 0)) b2 (by rw [hlen]; omega) (by rw [hlen]; omega) (by rw [e2]; exact h3) (by rw [e2]; exact h6) (by rw [e2]; exact h8) (by rw [e2]; exact h9) hb9 ho4 (by omega) hF hW k12 k13 (fun z => by have := (f4_8 h0 (f4_i h0 z).1 (Or.inr (Or.inl z))).1; omega) (fun M3 f3 b3 => ?_) rfl
  have f30 : fr M M3 [3, 4] := fr_t f2 (fr_s f3 (by decide))
  have c3 : M3 3 1 = nI (tl4 g 0 - hl4 g 0) := by rw [f3 3 (by decide)]; exact c2
  rw [f30 11 (by decide), h3, h6, h8]
  unfold bd4 at h hbl
  refine qen (g 9) _ (fun c17 => ?_) (fun c17 => ?_) rfl (by omega) (by omega)
  · rw [cI_f (by omega)] at b3 h hbl
    refine qen (of4 g 0) _ (fun co => ?_) (fun co => ?_) rfl (by omega) (by omega)
    · have h8l := (f4_8 h0 co (Or.inl c17)).1
      have hlw : lw (seg g (hl4 g 0) (tl4 g 0 - hl4 g 0)) 6 = wd8 g (hl4 g 0 + 6) := seg_lw (by omega)
      have hwl : wd8 g (hl4 g 0 + 6) < 65536 := wd8_lt hgb _
      have hfp : fxp (g 9) = 6 := if_pos c17
      have b3l : (fxT (seg g (hl4 g 0) (tl4 g 0 - hl4 g 0)) (g 9) (of4 g 0) (tl4 g 0 - hl4 g 0) 0 (sm8 g 12 8) 4 (iw H Lo B (sr4 g 0) (tg4 g 0))).length = tl4 g 0 - hl4 g 0 := by rw [fxT_len (by rw [hlen]; omega), hlen]
      have hw3 := holds_wd b3 (n := 2408) (by rw [b3l]; omega) (k := 6) (by rw [b3l]; omega)
      rw [Nat.zero_add] at hw3
      refine p_word_3 6 ?_ (by omega) rfl
      rw [hw3]
      by_cases cz : wd8 g (hl4 g 0 + 6) = 0
      · have eT : fxT (seg g (hl4 g 0) (tl4 g 0 - hl4 g 0)) (g 9) (of4 g 0) (tl4 g 0 - hl4 g 0) 0 (sm8 g 12 8) 4 (iw H Lo B (sr4 g 0) (tg4 g 0)) = seg g (hl4 g 0) (tl4 g 0 - hl4 g 0) := by
          unfold fxT
          rw [hfp, Nat.zero_add, hlw]
          exact cI_f (fun z => z.2.2.2 ⟨c17, cz⟩)
        rw [eT] at b3 ⊢
        rw [cI_t ⟨c17, co, cz⟩] at h
        rw [hlw]
        refine qen (wd8 g (hl4 g 0 + 6)) _ (fun _ => ?_) (fun c => absurd cz c) rfl (by omega) (by omega)
        refine p_sum_3 0 (tl4 g 0 - hl4 g 0) ?_ (by omega) (by omega) rfl c3
        have s3 := sm8_holds b3 (n := 2408) (by rw [hlen]; omega)
        rw [hlen, seg_lsm] at s3
        rw [Nat.sub_zero, s3, k13, nI_l (by omega), lN_add, show (17 : Int64) = lN 17 from rfl, lN_add, lN_add]
        have hsl := sm8_le hgb (hl4 g 0) (tl4 g 0 - hl4 g 0)
        refine p_checksum _ ?_ (by omega) rfl
        have hcl : 65535 - fo (iw H Lo B (sr4 g 0) (tg4 g 0) + (tl4 g 0 - hl4 g 0) + 17 + sm8 g (hl4 g 0) (tl4 g 0 - hl4 g 0)) < 65536 := by omega
        generalize 65535 - fo (iw H Lo B (sr4 g 0) (tg4 g 0) + (tl4 g 0 - hl4 g 0) + 17 + sm8 g (hl4 g 0) (tl4 g 0 - hl4 g 0)) = cc at h hcl ⊢
        have hvl := fxv_lt 17 cc hcl
        refine ⟨fun v => v = lN (fxv 17 cc), ?_, ?_⟩
        · rintro _ rfl
          refine p_put3 6 2 (fxv 17 cc) (hv_n 2 _ (by omega)) (fun M4 w4 => ?_) rfl rfl (by omega) (by omega)
          have w4' : wr M3 M4 4 (0 + 6) (bys 2 (fxv 17 cc)) := w4
          exact h M4 (fr_t f30 (wr_fr w4 (by decide))) (holds_put b3 w4' (by rw [hlen]; omega)) (by rw [w4.1 3 (by decide)]; exact c3)
        · refine qen cc _ (fun c6 => ?_) (fun c6 => ?_) rfl (by omega) (by omega)
          · rw [show fxv 17 cc = 65535 from cI_t ⟨rfl, c6⟩]; rfl
          · rw [show fxv 17 cc = cc from cI_f (fun z => c6 z.2)]; exact nI_l (by omega)
      · rw [cI_f (fun z => cz z.2.2)] at h
        have hne : lw (fxT (seg g (hl4 g 0) (tl4 g 0 - hl4 g 0)) (g 9) (of4 g 0) (tl4 g 0 - hl4 g 0) 0 (sm8 g 12 8) 4 (iw H Lo B (sr4 g 0) (tg4 g 0))) 6 ≠ 0 := by
          unfold fxT
          rw [hfp, Nat.zero_add, cI_t ⟨Or.inl c17, co, by omega, fun z => cz (by rw [← hlw]; exact z.2)⟩, lw_spl (by rw [hlen]; omega) (fxv_lt _ _ (adj_lt _ _ _ _))]
          unfold fxv
          by_cases z : g 9 = 17 ∧ adj (lw (seg g (hl4 g 0) (tl4 g 0 - hl4 g 0)) 6) (sm8 g 12 8) 4 (iw H Lo B (sr4 g 0) (tg4 g 0)) = 0
          · rw [cI_t z]; decide
          · rw [cI_f z]; exact fun y => z ⟨c17, y⟩
        have hl3 := lw_lt (holds_oct b3) 6
        refine qen (lw (fxT (seg g (hl4 g 0) (tl4 g 0 - hl4 g 0)) (g 9) (of4 g 0) (tl4 g 0 - hl4 g 0) 0 (sm8 g 12 8) 4 (iw H Lo B (sr4 g 0) (tg4 g 0))) 6) _ (fun c => absurd c hne) (fun _ => h M3 f30 b3 c3) rfl (by omega) (by omega)
    · rw [cI_f (fun z => co z.2.1)] at h
      exact h M3 f30 b3 c3
  · by_cases c1 : g 9 = 1
    · rw [cI_t c1] at b3 h
      exact h M3 f30 b3 c3
    · rw [cI_f c1] at b3 h
      rw [cI_f (fun z => c17 z.1)] at h
      exact h M3 f30 b3 c3
