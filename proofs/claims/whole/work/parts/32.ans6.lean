/-! answers of IPv6 -/
def a6a (len : Nat) : List Nat := bys 4 1610612736 ++ bys 2 len ++ bys 1 58 ++ bys 1 64
def a6b (oH oL : Nat) (g : Nat → Nat) : List Nat := bys 8 oH ++ bys 8 oL ++ seg g 8 16
def a6p (oH oL : Nat) (g : Nat → Nat) (q k m : Nat) : List Nat := a6a (8 + q) ++ a6b oH oL g ++ spl (a4m g q k m) 2 (bys 2 (65535 - fo (lsm (a6b oH oL g) + (8 + q) + 58 + lsm (a4m g q k m))))
theorem a6a_len (l : Nat) : (a6a l).length = 8 := by simp [a6a, bys_len]
theorem a6b_len (oH oL : Nat) (g : Nat → Nat) : (a6b oH oL g).length = 32 := by simp [a6b, bys_len, seg_len]
theorem a6p_len (oH oL : Nat) (g : Nat → Nat) (q k m : Nat) : (a6p oH oL g q k m).length = 48 + q := by
  unfold a6p
  rw [List.length_append, List.length_append, a6a_len, a6b_len, spl_len (by rw [bys_len, a4m_len]; omega), a4m_len]; omega
def un6 (g : Nat → Nat) (x i fa : Nat) : Prop := ofs g fa ≠ 0 ∨ (x = 58 ∧ ¬ (0 < 40 + ln6 g 0 - i ∧ ec6 (g i)))
def q6 (g : Nat → Nat) : Nat := if 1232 < 40 + ln6 g 0 then 1232 else 40 + ln6 g 0
theorem c_answerSix {M : cM} {L : cL} {y z : Int32} {Z : Int32 → cM → Prop} {g : Nat → Nat} (n x i fa sg k m : Nat) (oH oL : Int64) (hg : at8 (M 2) 2400 = g) (hB : ∀ j, isBy (M 2 j)) (hp : p6 (M 13) (L 13) g 0 n x i fa sg) (h8 : M 13 8 = nI (40 + ln6 g 0 - i)) (hok : hOk 0 (40 + ln6 g 0) x i fa sg) (hn2 : 40 + ln6 g 0 ≤ 2400) (ho : outC M []) (hH : L 0 10 = oH) (hL : L 0 11 = oL) (hk : k < 65536) (hm : m < 65536) (h9 : un6 g x i fa → Z 9 M) (h10 : ¬ un6 g x i fa → ∀ M', fr M M' [5, 6, 7, 8, 9] → outC M' [a6p (uN oH) (uN oL) g (q6 g) k m] → Z 10 M') (hx : y = nI k) (hy : z = nI m) : wp_X6_answerSix_0_13 M L y z Z := by
  subst hx hy
  have hgb : ∀ i, g i < 256 := fun i => by rw [← hg]; exact at8_lt _ _ _
  have h3 : M 13 3 = nI x := hp.2.2.2.1
  have h7 : M 13 7 = nI i := hp.2.2.2.2.2.1
  have h6 : M 13 6 = nI (ofs g fa) := hp.2.2.2.2.1.2.2.1
  have ho4 := ofs_lt hgb fa
  have hil := hok.2.1
  have hx2 := hok.2.2.1
  have hbi := hgb i
  unfold wp_X6_answerSix_0_13
  rw [h3, h6, h7, h8]
  refine ⟨fun v => v = bI (0 < 40 + ln6 g 0 - i ∧ ec6 (g i)), ?_, ?_⟩
  · rintro _ rfl
    refine qen (ofs g fa) _ (fun c1 => ?_) (fun c1 => h9 (Or.inl c1)) rfl (by omega) (by omega)
    by_cases hu : un6 g x i fa
    · refine ⟨False, False.elim, ?_⟩
      have hu2 : x = 58 ∧ ¬ (0 < 40 + ln6 g 0 - i ∧ ec6 (g i)) := hu.resolve_left (fun z => z c1)
      refine qen x _ (fun c2 => ?_) (fun c2 => absurd hu2.1 c2) rfl (by omega) (by omega)
      exact zb (fun c => h9 hu) (fun c => absurd c hu2.2)
    · refine ⟨True, fun _ => ?_, ?_⟩
      · have eq : (if (1232 : Int32) < nI i + nI (40 + ln6 g 0 - i) then (1232 : Int32) else nI i + nI (40 + ln6 g 0 - i)) = nI (q6 g) := by
          rw [nI_add, show i + (40 + ln6 g 0 - i) = 40 + ln6 g 0 by omega, show (1232 : Int32) = nI 1232 from rfl, nI_if (by decide) (by omega), nI_ite]
          rfl
        have hq : q6 g ≤ 1232 ∧ q6 g ≤ 40 + ln6 g 0 := by unfold q6; split <;> omega
        rw [eq]
        rintro _ rfl
        rw [show (8 : Int32) + nI (q6 g) = nI (8 + q6 g) from nI_add 8 _]
        rintro _ rfl
        refine p_open [] (48 + q6 g) ho (by decide) (fun M1 f1 cl => ?_) (by rw [show (40 : Int32) = nI 40 from rfl, nI_add]; congr 1; omega)
        have hg1 : at8 (M1 2) 2400 = g := by rw [f1 2 (by decide)]; exact hg
        have hB1 : ∀ j, isBy (M1 2 j) := by rw [f1 2 (by decide)]; exact hB
        refine p_put6 0 4 1610612736 (by decide) (fun M2 w2 => ?_) rfl rfl
        refine p_put6 4 2 (8 + q6 g) (hv_i 2 (by decide) _ _ rfl) (fun M3 w3 => ?_) rfl rfl
        have v3 := wr_app w2 w3 (by rw [bys_len])
        refine p_put6 6 1 58 (by decide) (fun M4 w4 => ?_) rfl rfl
        have v4 := wr_app v3 w4 (by simp [bys_len])
        refine p_put6 7 1 64 (by decide) (fun M5 w5 => ?_) rfl rfl
        have v5 : wr M1 M5 7 0 (a6a (8 + q6 g)) := wr_app v4 w5 (by simp [bys_len])
        refine p_put6 8 8 (uN oH) (by rw [hH]) (fun M6 w6 => ?_) rfl rfl
        refine p_put6 16 8 (uN oL) (by rw [hL]) (fun M7 w7 => ?_) rfl rfl
        have v7 := wr_app w6 w7 (by rw [bys_len])
        have e72 : M7 2 = M1 2 := (v7.1 2 (by decide)).trans (v5.1 2 (by decide))
        refine c_copy61 (g := g) 8 24 16 (by rw [e72]; exact hg1) (by rw [e72]; exact hB1) (fun M8 w8 => ?_) (by omega) (by omega) rfl rfl rfl
        have v8 : wr M5 M8 7 8 (a6b (uN oH) (uN oL) g) := wr_app v7 w8 (by simp [bys_len])
        have v9 := wr_app v5 v8 (by rw [a6a_len])
        rintro _ rfl
        refine p_put6 40 4 (k * 65536) (hv_l 4 _ _ (l_shl16 (by omega)) (by omega)) (fun M9 w9 => ?_) rfl rfl
        refine p_put6 44 4 m (hv_i 4 (by decide) _ _ rfl) (fun M10 w10 => ?_) rfl rfl
        have v10 := wr_app w9 w10 (by rw [bys_len])
        have e2 : M10 2 = M1 2 := (v10.1 2 (by decide)).trans (v9.1 2 (by decide))
        refine c_copy61 (g := g) 0 48 (q6 g) (by rw [e2]; exact hg1) (by rw [e2]; exact hB1) (fun M11 w11 => ?_) (by omega) (by omega) rfl rfl rfl
        have v11 : wr M8 M11 7 40 (a4m g (q6 g) k m) := wr_app v10 w11 (by simp [bys_len])
        have hb8 : holds (M11 7) 8 (a6b (uN oH) (uN oL) g) := wr_keep v11 v8.2.2 (Or.inl (by rw [a6b_len]; omega))
        refine p_sum_6 8 40 ?_ (by omega) (by omega) rfl rfl
        have s8 := sm8_holds hb8 (n := 3332) (by rw [a6b_len]; omega)
        rw [a6b_len] at s8
        rw [show 40 - 8 = 32 from rfl, s8, nI_l (by omega), lN_add, show (58 : Int64) = lN 58 from rfl, lN_add]
        rintro _ rfl
        refine p_sum_6 40 (48 + q6 g) ?_ (by omega) (by omega) rfl (by rw [List.flatten_nil, List.length_nil, show nI 0 + (40 : Int32) = nI 40 from nI_add 0 40, nI_add]; congr 1; omega)
        have s11 := sm8_holds v11.2.2 (n := 3332) (by rw [a4m_len]; omega)
        rw [a4m_len] at s11
        rw [show 48 + q6 g - 40 = 8 + q6 g by omega, s11, lN_add]
        have hs8 := lsm_lt (holds_oct hb8)
        rw [a6b_len] at hs8
        have hs11 := lsm_lt (holds_oct v11.2.2)
        rw [a4m_len] at hs11
        refine p_checksum _ ?_ (by omega) rfl
        refine p_put6 42 2 (65535 - fo (lsm (a6b (uN oH) (uN oL) g) + (8 + q6 g) + 58 + lsm (a4m g (q6 g) k m))) (hv_i 2 (by decide) _ _ rfl) (fun M12 w12 => ?_) rfl rfl
        have v12 := wr_spl (k := 2) v11 w12 rfl (by rw [bys_len, a4m_len]; omega)
        have v13 : wr M1 M12 7 0 (a6p (uN oH) (uN oL) g (q6 g) k m) := wr_app v9 v12 (by rw [List.length_append, a6a_len, a6b_len])
        exact h10 hu M12 (fr_t (fr_s f1 (by decide)) (wr_fr v13 (by decide))) (cl M12 _ v13 (a6p_len _ _ _ _ _ _) (by rw [List.flatten_nil, List.length_nil]; omega))
      · refine qen x _ (fun c2 => ?_) (fun c2 => trivial) rfl (by omega) (by omega)
        exact zb (fun c => absurd (Or.inr ⟨c2, c⟩) hu) (fun c => trivial)
  · by_cases z : 0 < 40 + ln6 g 0 - i ∧ ec6 (g i)
    · rw [bI_t z]
      refine ⟨False, False.elim, ?_⟩
      refine ql (40 + ln6 g 0 - i) _ (fun c => by omega) (fun c => ?_) rfl (by omega) (by omega)
      refine c_at i hg ?_ (by omega) rfl
      refine p_echoSix (g i) ?_ hbi rfl
      exact bz (fun c => absurd z.2 c) (fun c => rfl)
    · rw [bI_f z]
      refine ⟨True, fun _ => rfl, ?_⟩
      refine ql (40 + ln6 g 0 - i) _ (fun c => trivial) (fun c => ?_) rfl (by omega) (by omega)
      refine c_at i hg ?_ (by omega) rfl
      refine p_echoSix (g i) ?_ hbi rfl
      exact bz (fun c => trivial) (fun c5 => absurd ⟨c, c5⟩ z)
theorem seg_bys {g : Nat → Nat} (hg : ∀ i, g i < 256) (k w : Nat) : bys w (num8 g k w) = seg g k w := by
  induction w with
  | zero => rfl
  | succ w ih =>
    rw [seg_snoc, ← ih, show w + 1 = w + 1 from rfl]
    have := hg (k + w)
    have e : num8 g k (w + 1) = num8 g k w * 256 + g (k + w) := rfl
    rw [bys_add w 1 (num8 g k (w + 1)), e, bys_1, Nat.pow_one, show (num8 g k w * 256 + g (k + w)) / 256 = num8 g k w by omega, show (num8 g k w * 256 + g (k + w)) % 256 = g (k + w) by omega]
theorem num8_u64 {g : Nat → Nat} (hg : ∀ i, g i < 256) (k : Nat) : uN (lN (num8 g k 8)) = num8 g k 8 := by
  rw [uN_lN, Nat.mod_eq_of_lt]
  exact num8_lt hg k 8
theorem seg_add (g : Nat → Nat) (a m n : Nat) : seg g a (m + n) = seg g a m ++ seg g (a + m) n := by
  induction m generalizing a with
  | zero => simp [seg]
  | succ m ih =>
    rw [show m + 1 + n = (m + n) + 1 by omega, seg, seg, ih, show a + 1 + m = a + (m + 1) by omega]; rfl
theorem a6a_eq (l : Nat) : [96] ++ zs 3 ++ bys 2 l ++ [58] ++ [64] = a6a l := by
  unfold a6a
  rw [show bys 4 1610612736 = [96] ++ zs 3 by decide, show bys 1 58 = [58] by decide, show bys 1 64 = [64] by decide]
theorem d_answer6 {M : cM} {L : cL} {x1 y z : Int32} {Z : Int32 → cM → cL → Prop} {g : Nat → Nat} (x i fa sg t c m : Nat) (oH oL : Int64) (hg : at8 (M 1) 2400 = g) (h33 : M 0 33 = nI (ofs g fa * 8)) (h35 : M 0 35 = nI x) (h40 : M 0 40 = nI i) (h43 : M 0 43 = nI (ln6 g 0)) (hok : hOk 0 (40 + ln6 g 0) x i fa sg) (hn2 : 40 + ln6 g 0 ≤ 2400) (ho : outR M []) (hH : L 0 7 = oH) (hL : L 0 8 = oL) (ht : t < 256) (hc : c < 256) (hm : m < 65536)
    (h9 : un6 g x i fa → ∀ M', fz M M' [0, 2] [20, 22] → M' 2 = upv (M 2) 9 → outR M' [] → Z 9 M' L)
    (h10 : ¬ un6 g x i fa → ∀ M' L', fz M M' [0, 2, 3, 4] [20, 22] → fL L L' [18] → M' 2 = upv (M 2) 10 → outR M' [a6p (uN oH) (uN oL) g (q6 g) (t * 256 + c) m] → Z 10 M' L') (hx : x1 = nI t) (hy : y = nI c) (hz : z = nI m) : wp_X7_answer6_0 M L x1 y z Z := by
  subst hx hy hz
  have hgb : ∀ i, g i < 256 := fun i => by rw [← hg]; exact at8_lt _ _ _
  have ho4 := ofs_lt hgb fa
  have hil := hok.2.1
  have hi40 := hok.1
  have hx2 := hok.2.2.1
  have hbi := hgb i
  have h4z : M 4 0 = 0 := ho.2.2.1 0 (Nat.le_refl _)
  unfold wp_X7_answer6_0
  rw [h33, h35, h40, h43, show (40 : Int32) + nI (ln6 g 0) = nI (40 + ln6 g 0) from nI_add 40 _]
  refine ⟨fun v => v = bI (un6 g x i fa), ?_, ?_⟩
  · rintro _ rfl
    refine bz (fun hu => ?_) (fun hu => ?_)
    rotate_left
    · exact r_tellD 9 (by decide) h4z (fun M' k e o => h9 hu M' k e o) rfl
    have hq : q6 g ≤ 1232 ∧ q6 g ≤ 40 + ln6 g 0 := by unfold q6; split <;> omega
    refine ⟨fun v => v = nI (q6 g), ?_, ?_⟩
    rotate_left
    · unfold q6
      refine qg (40 + ln6 g 0) _ (fun ci => ?_) (fun ci => ?_) rfl (by omega) (by omega)
      · show nI 1232 = _
        refine congrArg nI ?_
        split <;> omega
      · rw [if_neg (by omega)]
    rintro _ rfl
    refine r_more 0 (48 + q6 g) (fun M0 w0 => ?_) ho.2.1 (by omega) (nI_add 48 _)
    rw [Nat.zero_add]
    have k0 : fz M (mu M0 0 20 (nI (48 + q6 g))) [0, 3] [20] := fz_t (wr_fz w0 (by decide) (by decide)) (mu_fz0 _ _ _ (by decide) (by decide))
    have g0 : at8 (mu M0 0 20 (nI (48 + q6 g)) 1) 2400 = g := by rw [k0.1 1 (by decide)]; exact hg
    have e20 : mu M0 0 20 (nI (48 + q6 g)) 0 20 = nI (48 + q6 g) := rfl
    have z0 : wr (mu M0 0 20 (nI (48 + q6 g))) (mu M0 0 20 (nI (48 + q6 g))) 3 0 ([] ++ zs (48 + q6 g)) := wr_of w0.2.2
    generalize mu M0 0 20 (nI (48 + q6 g)) = M1 at k0 g0 e20 z0 ⊢
    refine ⟨vp_in_nI (by omega) (by decide), ?_⟩
    rw [nI_clamp (by omega)]
    rintro _ rfl
    have z1 := wr_gap' 3 (44 + q6 g) (wr_ov' z0 (wr_nar (M := M1) (c := 3) (a := 0) (v := 96) (m := 96) (by decide)) rfl (47 + q6 g) (by simp; omega)) (by omega)
    refine r_putTwo_3 4 (8 + q6 g) (fun M2 w2 => ?_) (nI_add 8 _) (by omega) (nI_add 0 4)
    have z2 := wr_ov' z1 w2 (by simp [zs_len]) (42 + q6 g) (by rw [bys_len]; omega)
    refine ⟨by rw [show nI 0 + (6 : Int32) = nI 6 from nI_add 0 6]; exact vp_in_nI (by omega) (by decide), ?_⟩
    rw [show (nI 0 + (6 : Int32)).toNatClampNeg = 6 from nI_cl_add 0 6 (by omega)]
    rintro _ rfl
    have z3 := wr_ov' z2 (wr_nar (M := M2) (c := 3) (a := 6) (v := 58) (m := 58) (by decide)) (by simp [zs_len, bys_len]) (41 + q6 g) (by simp; omega)
    refine ⟨by rw [show nI 0 + (7 : Int32) = nI 7 from nI_add 0 7]; exact vp_in_nI (by omega) (by decide), ?_⟩
    rw [show (nI 0 + (7 : Int32)).toNatClampNeg = 7 from nI_cl_add 0 7 (by omega)]
    rintro _ rfl
    have z4 := wr_ov' z3 (wr_nar (c := 3) (a := 7) (v := 64) (m := 64) (by decide)) (by simp [zs_len, bys_len]) (40 + q6 g) (by simp; omega)
    rw [List.nil_append, a6a_eq] at z4
    generalize mu (mu M2 3 6 (vp_nar .byte 58)) 3 7 (vp_nar .byte 64) = M3 at z4 ⊢
    have hh4 := (holds_app.mp z4.2.2).2
    rw [a6a_len] at hh4
    have y0 : wr M3 M3 3 8 ([] ++ zs (40 + q6 g)) := wr_of hh4
    rw [hH, hL]
    refine r_putLong 8 (fun M4 w4 => ?_) (by omega) (nI_add 0 8)
    have y1 := wr_ov' y0 w4 rfl (32 + q6 g) (by rw [bys_len]; omega)
    refine r_putLong 16 (fun M5 w5 => ?_) (by omega) (nI_add 0 16)
    have y2 := wr_ov' y1 w5 (by simp [bys_len]) (24 + q6 g) (by rw [bys_len]; omega)
    refine d_long (g := g) 8 (by rw [y2.1 1 (by decide), z4.1 1 (by decide)]; exact g0) ?_ (by omega) rfl
    refine r_putLong 24 (fun M6 w6 => ?_) (by omega) (nI_add 0 24)
    rw [num8_u64 hgb, seg_bys hgb] at w6
    have y3 := wr_ov' y2 w6 (by simp [bys_len]) (16 + q6 g) (by rw [seg_len]; omega)
    refine d_long (g := g) 16 (by rw [y3.1 1 (by decide), z4.1 1 (by decide)]; exact g0) ?_ (by omega) rfl
    refine r_putLong 32 (fun M7 w7 => ?_) (by omega) (nI_add 0 32)
    rw [num8_u64 hgb, seg_bys hgb] at w7
    have y4 := wr_ov' y3 w7 (by simp [bys_len, seg_len]) (8 + q6 g) (by rw [seg_len]; omega)
    have y5 : wr M3 M7 3 8 (a6b (uN oH) (uN oL) g ++ zs (8 + q6 g)) := by
      rw [List.nil_append, List.append_assoc (bys 8 (uN oH) ++ bys 8 (uN oL)), ← seg_add g 8 8 8] at y4
      exact y4
    have hh5 := (holds_app.mp y5.2.2).2
    rw [a6b_len] at hh5
    have u0 : wr M7 M7 3 40 ([] ++ zs (8 + q6 g)) := wr_of hh5
    refine ⟨by rw [show nI 0 + (40 : Int32) = nI 40 from nI_add 0 40]; exact vp_in_nI (by omega) (by decide), ?_⟩
    rw [show (nI 0 + (40 : Int32)).toNatClampNeg = 40 from nI_cl_add 0 40 (by omega)]
    rintro _ rfl
    have u1 := wr_ov' u0 (wr_nar8 (M := M7) (c := 3) (a := 40) (v := nI t) (m := t) (by rw [oc_nI]; omega)) rfl (7 + q6 g) (by simp; omega)
    refine ⟨by rw [show nI 0 + (41 : Int32) = nI 41 from nI_add 0 41]; exact vp_in_nI (by omega) (by decide), ?_⟩
    rw [show (nI 0 + (41 : Int32)).toNatClampNeg = 41 from nI_cl_add 0 41 (by omega)]
    rintro _ rfl
    have u2 := wr_gap' 2 (4 + q6 g) (wr_ov' u1 (wr_nar8 (c := 3) (a := 41) (v := nI c) (m := c) (by rw [oc_nI]; omega)) (by simp) (6 + q6 g) (by simp; omega)) (by omega)
    refine r_putInt_3 44 m (fun M8 w8 => ?_) rfl (by omega) (nI_add 0 44)
    have u3 := wr_ov' u2 w8 (by simp [zs_len]) (q6 g) (by rw [bys_len])
    have g8 : at8 (M8 1) 2400 = g := by rw [u3.1 1 (by decide), y5.1 1 (by decide), z4.1 1 (by decide)]; exact g0
    refine ⟨fun x2 M9 => ∃ j, j ≤ q6 g ∧ x2 = nI j ∧ wr M8 M9 3 48 (seg (at8 (M8 1) 2400) 0 j), fun x2 _ => q6 g - x2.toNatClampNeg, ⟨0, Nat.zero_le _, rfl, wr_nil _ _ _⟩, ?_⟩
    rintro _ M9 ⟨j, hj, rfl, w9⟩
    refine pk_le (q6 g) j (fun cj => ?_) (fun cj => ?_) rfl rfl (by omega) (by omega)
    · have ej : j = q6 g := by omega
      subst ej
      rw [g8] at w9
      have u4 := wr_ov' u3 w9 (by simp [zs_len, bys_len]) 0 (by rw [seg_len]; rfl)
      have u5 : wr M7 M9 3 40 (a4m g (q6 g) (t * 256 + c) m) := by
        rw [show zs 0 = [] from rfl, List.append_nil, List.nil_append] at u4
        have e : [t] ++ [c] ++ zs 2 ++ bys 4 m ++ seg g 0 (q6 g) = a4m g (q6 g) (t * 256 + c) m := by
          unfold a4m
          rw [bys_4 ((t * 256 + c) * 65536), show (t * 256 + c) * 65536 / 16777216 % 256 = t by omega, show (t * 256 + c) * 65536 / 65536 % 256 = c by omega, show (t * 256 + c) * 65536 / 256 % 256 = 0 by omega, show (t * 256 + c) * 65536 % 256 = 0 by omega]
          rfl
        rw [e] at u4
        exact u4
      have hb8 : holds (M9 3) 8 (a6b (uN oH) (uN oL) g) := wr_keep (M' := M9) (c := 3) (a := 40) u5 (holds_app.mp y5.2.2).1 (Or.inl (by rw [a6b_len]; omega))
      rintro _ rfl
      have e20' : M9 0 20 = nI (48 + q6 g) := by rw [u5.1 0 (by decide), y5.1 0 (by decide), z4.1 0 (by decide)]; exact e20
      refine r_words_3 8 40 0 (fun L1 s1 e1 => ?_) rfl (by omega) (by omega) (nI_add 0 8) (nI_add 0 40)
      have s8 := sm8_holds hb8 (n := 16000) (by rw [a6b_len]; omega)
      rw [a6b_len] at s8
      rw [show 40 - 8 = 32 from rfl, s8, Nat.zero_add] at e1
      refine r_ints0 _ (8 + q6 g) (fun L2 s2 e2 => ?_) e1 (by omega) (nI_add 8 _) rfl
      refine r_ints0 _ 58 (fun L3 s3 e3 => ?_) e2 (by omega) rfl rfl
      refine r_words_3 40 (48 + q6 g) _ (fun L4 s4 e4 => ?_) e3 (by omega) (by omega) (nI_add 0 40) e20'
      have s11 := sm8_holds u5.2.2 (n := 16000) (by rw [a4m_len]; omega)
      rw [a4m_len] at s11
      rw [show 48 + q6 g - 40 = 8 + q6 g by omega, s11, w2_sm (show 8 + q6 g < 65536 by omega), w2_sm (show 58 < 65536 by decide)] at e4
      refine r_checksum _ ?_ e4
      refine r_putTwo_3 42 (65535 - fo (lsm (a6b (uN oH) (uN oL) g) + (8 + q6 g) + 58 + lsm (a4m g (q6 g) (t * 256 + c) m))) (fun M10 w10 => ?_) rfl (by omega) (nI_add 0 42)
      have u6 := wr_spl (k := 2) u5 w10 rfl (by rw [bys_len, a4m_len]; omega)
      have y6 := wr_ov' y5 u6 (by rw [a6b_len]) 0 (by rw [spl_len (by rw [bys_len, a4m_len]; omega), a4m_len]; rfl)
      rw [show zs 0 = [] from rfl, List.append_nil] at y6
      have z5 := wr_ov' z4 y6 (by rw [a6a_len]) 0 (by rw [List.length_append, a6b_len, spl_len (by rw [bys_len, a4m_len]; omega), a4m_len]; omega)
      rw [show zs 0 = [] from rfl, List.append_nil, ← List.append_assoc] at z5
      have z6 : wr M1 M10 3 0 (a6p (uN oH) (uN oL) g (q6 g) (t * 256 + c) m) := z5
      have k9 : fz M M10 [0, 3] [20] := fz_t k0 (wr_fz z6 (by decide) (by decide))
      refine r_part [] (a6p (uN oH) (uN oL) g (q6 g) (t * 256 + c) m) ?_ ?_ ?_ trivial z6.2.2 (by decide) (fun M11 k11 o11 => ?_)
      · rw [z6.1 0 (by decide), k0.2 22 (by decide)]; exact ho.1
      · rw [z6.1 0 (by decide), a6p_len, List.flatten_nil, List.length_nil, Nat.zero_add]; exact e20
      · intro i hi
        rw [k9.1 4 (by decide)]
        exact ho.2.2.1 i hi
      · refine r_tellK 10 (Or.inr rfl) (fun M12 k12 e12 => ?_) rfl
        refine h10 hu M12 _ (fz_t (fz_t (fz_s k9 (by decide) (by decide)) (fz_s k11 (by decide) (by decide))) (fz_s k12 (by decide) (by decide))) (fL_t (ml_fL _ _ _ (by decide)) (sF_fL (sF_t s1 (sF_t s2 (sF_t s3 s4))) (by decide))) ?_ (outR_f o11 k12 (by decide) (by decide) (by decide) (by decide))
        rw [e12, k11.1 2 (by decide), z6.1 2 (by decide), k0.1 2 (by decide)]
    · refine ⟨vp_in_nI (by omega) (by decide), ?_⟩
      rw [show nI 0 + (48 : Int32) + nI j = nI (48 + j) from by rw [show nI 0 + (48 : Int32) = nI 48 from nI_add 0 48, nI_add], nI_clamp (by omega), nI_clamp (by omega)]
      refine ⟨vp_in_nI (by omega) (by decide), ?_⟩
      rintro _ rfl _ rfl
      have st := cp_step w9 (by decide) (by omega)
      rw [Nat.zero_add] at st
      refine ⟨⟨j + 1, by omega, nI_1 _, st⟩, ?_⟩
      dsimp only
      rw [nI_1, nI_clamp (by omega), nI_clamp (by omega)]
      omega
  · by_cases hu : un6 g x i fa
    · rw [bI_t hu]
      refine ⟨True, fun _ => rfl, ?_⟩
      refine qb (ofs g fa * 8) _ (fun c => trivial) (fun c1 => ?_) rfl (by omega) (by omega)
      have hu2 : x = 58 ∧ ¬ (0 < 40 + ln6 g 0 - i ∧ ec6 (g i)) := hu.resolve_left (fun z => by omega)
      refine ⟨False, False.elim, ?_⟩
      refine qen x _ (fun c2 => ?_) (fun c2 => absurd hu2.1 c2) rfl (by omega) (by omega)
      refine pk_eq i (40 + ln6 g 0) (fun c3 => trivial) (fun c3 => ?_) rfl rfl (by omega) (by omega)
      refine d_oct i hg ?_ (by omega) rfl
      refine qe (g i) _ (fun c4 => hu2.2 ⟨by omega, Or.inl c4⟩) (fun c4 => ?_) rfl (by omega) (by omega)
      refine d_oct i hg ?_ (by omega) rfl
      exact qe (g i) _ (fun c5 => hu2.2 ⟨by omega, Or.inr c5⟩) (fun _ => trivial) rfl (by omega) (by omega)
    · rw [bI_f hu]
      refine ⟨False, False.elim, ?_⟩
      refine qb (ofs g fa * 8) _ (fun c => hu (Or.inl (by omega))) (fun c1 => ?_) rfl (by omega) (by omega)
      refine ⟨True, fun _ => rfl, ?_⟩
      refine qen x _ (fun c2 => ?_) (fun c2 => trivial) rfl (by omega) (by omega)
      refine pk_eq i (40 + ln6 g 0) (fun c3 => hu (Or.inr ⟨c2, fun z => by omega⟩)) (fun c3 => ?_) rfl rfl (by omega) (by omega)
      refine d_oct i hg ?_ (by omega) rfl
      refine qe (g i) _ (fun _ => trivial) (fun c4 => ?_) rfl (by omega) (by omega)
      refine d_oct i hg ?_ (by omega) rfl
      exact qe (g i) _ (fun _ => trivial) (fun c5 => hu (Or.inr ⟨c2, fun z => z.2.elim c4 c5⟩)) rfl (by omega) (by omega)
/-! headers of IPv4 -/
def h4l (tc tot id fl hp pr s t : Nat) : List Nat := bys 1 69 ++ bys 1 tc ++ bys 2 tot ++ bys 2 id ++ bys 2 fl ++ bys 1 hp ++ bys 1 pr ++ bys 2 0 ++ bys 4 s ++ bys 4 t
def hd4 (tc tot id fl hp pr s t : Nat) : List Nat := spl (h4l tc tot id fl hp pr s t) 10 (bys 2 (ck (h4l tc tot id fl hp pr s t)))
theorem h4l_len (tc tot id fl hp pr s t : Nat) : (h4l tc tot id fl hp pr s t).length = 20 := by simp [h4l, bys_len]
theorem hd4_len (tc tot id fl hp pr s t : Nat) : (hd4 tc tot id fl hp pr s t).length = 20 := by
  unfold hd4; rw [spl_len (by rw [bys_len, h4l_len]; omega), h4l_len]
theorem h4l_z (tc tot id fl hp pr s t : Nat) : spl (h4l tc tot id fl hp pr s t) 10 (bys 2 0) = h4l tc tot id fl hp pr s t := by
  unfold h4l
  have := spl_mid (bys 1 69 ++ bys 1 tc ++ bys 2 tot ++ bys 2 id ++ bys 2 fl ++ bys 1 hp ++ bys 1 pr) (bys 2 0) (bys 2 0) (bys 4 s ++ bys 4 t) rfl
  rw [show (bys 1 69 ++ bys 1 tc ++ bys 2 tot ++ bys 2 id ++ bys 2 fl ++ bys 1 hp ++ bys 1 pr).length = 10 from by simp [bys_len]] at this
  simp only [List.append_assoc] at this ⊢
  exact this
def nx6 (x : Nat) : Nat := if x = 58 then 1 else x
theorem nx6_lt {x : Nat} (h : x < 256) : nx6 x < 256 := by unfold nx6; split <;> omega
theorem c_putFour_6_13 {M : cM} {L : cL} {x1 x2 x3 x4 x5 : Int32} {Z : cM → Prop} (st tot fl id hp tos x s t : Nat) (kp : Prop) (h1 : M 13 1 = nI tos) (h3 : M 13 3 = nI x) (h10 : M 13 10 = nI s) (h11 : M 13 11 = nI t) (hk : M 0 14 = bI kp) (lt : tos < 256) (lx : x < 256) (hr : st + 20 ≤ 3332) (h : ∀ M', wr M M' 7 st (hd4 (cI kp tos 0) tot id fl hp (nx6 x) s t) → Z M') (e1 : x1 = nI st) (e2 : x2 = nI tot) (e3 : x3 = nI fl) (e4 : x4 = nI id) (e5 : x5 = nI hp) : wp_X6_putFourHeader_0_6_13 M L x1 x2 x3 x4 x5 Z := by
  subst e1
  have htc := cI_tos kp lt
  have hnx := nx6_lt lx
  unfold wp_X6_putFourHeader_0_6_13
  refine p_put6 st 1 69 (by decide) (fun M1 w1 => ?_) rfl rfl (by omega) (by omega)
  refine ⟨fun v => v = lN (cI kp tos 0), ?_, ?_⟩
  rotate_left
  · rw [w1.1 0 (by decide), hk, w1.1 13 (by decide), h1]
    exact bz (fun c => by rw [cI_f c]; rfl) (fun c => by rw [cI_t c]; exact nI_l (by omega))
  rintro _ rfl
  refine p_put6 (st + 1) 1 (cI kp tos 0) (hv_n 1 _ (by omega)) (fun M3 w3 => ?_) (nI_add _ 1) rfl (by omega) (by omega)
  have v3 := wr_app w1 w3 (by simp [bys_len])
  refine p_put6 (st + 2) 2 tot (hv_i 2 (by decide) _ _ e2) (fun M4 w4 => ?_) (nI_add _ 2) rfl (by omega) (by omega)
  have v4 := wr_app v3 w4 (by simp [bys_len])
  refine p_put6 (st + 4) 2 id (hv_i 2 (by decide) _ _ e4) (fun M5 w5 => ?_) (nI_add _ 4) rfl (by omega) (by omega)
  have v5 := wr_app v4 w5 (by simp [bys_len])
  refine p_put6 (st + 6) 2 fl (hv_i 2 (by decide) _ _ e3) (fun M6 w6 => ?_) (nI_add _ 6) rfl (by omega) (by omega)
  have v6 := wr_app v5 w6 (by simp [bys_len])
  refine p_put6 (st + 8) 1 hp (hv_i 1 (by decide) _ _ e5) (fun M7 w7 => ?_) (nI_add _ 8) rfl (by omega) (by omega)
  have v7 := wr_app v6 w7 (by simp [bys_len])
  refine ⟨fun v => v = lN (nx6 x), ?_, ?_⟩
  rotate_left
  · rw [v7.1 13 (by decide), h3]
    unfold nx6
    refine qen x _ (fun c => by rw [if_pos c]; rfl) (fun c => by rw [if_neg c]; exact nI_l (by omega)) rfl (by omega) (by omega)
  rintro _ rfl
  refine p_put6 (st + 9) 1 (nx6 x) (hv_n 1 _ (by omega)) (fun M9 w9 => ?_) (nI_add _ 9) rfl (by omega) (by omega)
  have v9 := wr_app v7 w9 (by simp [bys_len])
  refine p_put6 (st + 10) 2 0 (by decide) (fun M10 w10 => ?_) (nI_add _ 10) rfl (by omega) (by omega)
  have v10 := wr_app v9 w10 (by simp [bys_len])
  refine p_put6 (st + 12) 4 s (hv_i 4 (by decide) _ _ (by rw [v10.1 13 (by decide)]; exact h10)) (fun M11 w11 => ?_) (nI_add _ 12) rfl (by omega) (by omega)
  have v11 := wr_app v10 w11 (by simp [bys_len])
  refine p_put6 (st + 16) 4 t (hv_i 4 (by decide) _ _ (by rw [v11.1 13 (by decide)]; exact h11)) (fun M12 w12 => ?_) (nI_add _ 16) rfl (by omega) (by omega)
  have v12 : wr M M12 7 st (h4l (cI kp tos 0) tot id fl hp (nx6 x) s t) := wr_app v11 w12 (by simp [bys_len])
  refine p_sum_6 st (st + 20) ?_ (by omega) (by omega) rfl (nI_add _ 20)
  have s12 := sm8_holds v12.2.2 (n := 3332) (by rw [h4l_len]; omega)
  rw [h4l_len] at s12
  rw [show st + 20 - st = 20 by omega, s12]
  have hs12 := lsm_lt (holds_oct v12.2.2)
  rw [h4l_len] at hs12
  refine p_checksum _ ?_ (by omega) rfl
  refine p_put6 (st + 10) 2 (ck (h4l (cI kp tos 0) tot id fl hp (nx6 x) s t)) (hv_i 2 (by decide) _ _ rfl) (fun M13 w13 => ?_) (nI_add _ 10) rfl (by omega) (by omega)
  exact h M13 (wr_spl (k := 10) v12 w13 rfl (by rw [bys_len, h4l_len]; omega))
theorem c_putFour_3_14 {M : cM} {L : cL} {x1 x2 x3 x4 x5 : Int32} {Z : cM → Prop} (st tot fl id hp tos x s t : Nat) (kp : Prop) (h1 : M 14 1 = nI tos) (h3 : M 14 3 = nI x) (h10 : M 14 10 = nI s) (h11 : M 14 11 = nI t) (hk : M 0 14 = bI kp) (lt : tos < 256) (lx : x < 256) (hr : st + 20 ≤ 2408) (h : ∀ M', wr M M' 4 st (hd4 (cI kp tos 0) tot id fl hp (nx6 x) s t) → Z M') (e1 : x1 = nI st) (e2 : x2 = nI tot) (e3 : x3 = nI fl) (e4 : x4 = nI id) (e5 : x5 = nI hp) : wp_X6_putFourHeader_0_3_14 M L x1 x2 x3 x4 x5 Z := by
  subst e1
  have htc := cI_tos kp lt
  have hnx := nx6_lt lx
  unfold wp_X6_putFourHeader_0_3_14
  refine p_put3 st 1 69 (by decide) (fun M1 w1 => ?_) rfl rfl (by omega) (by omega)
  refine ⟨fun v => v = lN (cI kp tos 0), ?_, ?_⟩
  rotate_left
  · rw [w1.1 0 (by decide), hk, w1.1 14 (by decide), h1]
    exact bz (fun c => by rw [cI_f c]; rfl) (fun c => by rw [cI_t c]; exact nI_l (by omega))
  rintro _ rfl
  refine p_put3 (st + 1) 1 (cI kp tos 0) (hv_n 1 _ (by omega)) (fun M3 w3 => ?_) (nI_add _ 1) rfl (by omega) (by omega)
  have v3 := wr_app w1 w3 (by simp [bys_len])
  refine p_put3 (st + 2) 2 tot (hv_i 2 (by decide) _ _ e2) (fun M4 w4 => ?_) (nI_add _ 2) rfl (by omega) (by omega)
  have v4 := wr_app v3 w4 (by simp [bys_len])
  refine p_put3 (st + 4) 2 id (hv_i 2 (by decide) _ _ e4) (fun M5 w5 => ?_) (nI_add _ 4) rfl (by omega) (by omega)
  have v5 := wr_app v4 w5 (by simp [bys_len])
  refine p_put3 (st + 6) 2 fl (hv_i 2 (by decide) _ _ e3) (fun M6 w6 => ?_) (nI_add _ 6) rfl (by omega) (by omega)
  have v6 := wr_app v5 w6 (by simp [bys_len])
  refine p_put3 (st + 8) 1 hp (hv_i 1 (by decide) _ _ e5) (fun M7 w7 => ?_) (nI_add _ 8) rfl (by omega) (by omega)
  have v7 := wr_app v6 w7 (by simp [bys_len])
  refine ⟨fun v => v = lN (nx6 x), ?_, ?_⟩
  rotate_left
  · rw [v7.1 14 (by decide), h3]
    unfold nx6
    refine qen x _ (fun c => by rw [if_pos c]; rfl) (fun c => by rw [if_neg c]; exact nI_l (by omega)) rfl (by omega) (by omega)
  rintro _ rfl
  refine p_put3 (st + 9) 1 (nx6 x) (hv_n 1 _ (by omega)) (fun M9 w9 => ?_) (nI_add _ 9) rfl (by omega) (by omega)
  have v9 := wr_app v7 w9 (by simp [bys_len])
  refine p_put3 (st + 10) 2 0 (by decide) (fun M10 w10 => ?_) (nI_add _ 10) rfl (by omega) (by omega)
  have v10 := wr_app v9 w10 (by simp [bys_len])
  refine p_put3 (st + 12) 4 s (hv_i 4 (by decide) _ _ (by rw [v10.1 14 (by decide)]; exact h10)) (fun M11 w11 => ?_) (nI_add _ 12) rfl (by omega) (by omega)
  have v11 := wr_app v10 w11 (by simp [bys_len])
  refine p_put3 (st + 16) 4 t (hv_i 4 (by decide) _ _ (by rw [v11.1 14 (by decide)]; exact h11)) (fun M12 w12 => ?_) (nI_add _ 16) rfl (by omega) (by omega)
  have v12 : wr M M12 4 st (h4l (cI kp tos 0) tot id fl hp (nx6 x) s t) := wr_app v11 w12 (by simp [bys_len])
  refine p_sum_3 st (st + 20) ?_ (by omega) (by omega) rfl (nI_add _ 20)
  have s12 := sm8_holds v12.2.2 (n := 2408) (by rw [h4l_len]; omega)
  rw [h4l_len] at s12
  rw [show st + 20 - st = 20 by omega, s12]
  have hs12 := lsm_lt (holds_oct v12.2.2)
  rw [h4l_len] at hs12
  refine p_checksum _ ?_ (by omega) rfl
  refine p_put3 (st + 10) 2 (ck (h4l (cI kp tos 0) tot id fl hp (nx6 x) s t)) (hv_i 2 (by decide) _ _ rfl) (fun M13 w13 => ?_) (nI_add _ 10) rfl (by omega) (by omega)
  exact h M13 (wr_spl (k := 10) v12 w13 rfl (by rw [bys_len, h4l_len]; omega))
theorem d_head4 {M : cM} {L : cL} {x1 x2 x3 x4 x5 x6 x7 x8 : Int32} {Z : cM → cL → Prop} (st tos tot id wv hp x s t k : Nat) (kp wh go : Prop) (hk : M 0 11 = bI kp) (h25 : M 0 25 = nI s) (h26 : M 0 26 = nI t) (h35 : M 0 35 = nI x) (lx : x < 256) (lt : tos < 256) (lw : wv < 65536) (hz : holds (M 3) st (zs (20 + k))) (hr : st + 20 ≤ 16000)
    (h : ∀ M' L', wr M M' 3 st (hd4 (cI kp tos 0) tot id (cI wh 16384 0 + cI go 8192 0 + wv / 8) hp (nx6 x) s t ++ zs k) → fL L L' [18] → Z M' L') (e1 : x1 = nI st) (e2 : x2 = nI tos) (e3 : x3 = nI tot) (e4 : x4 = nI id) (e5 : x5 = bI wh) (e6 : x6 = nI wv) (e7 : x7 = bI go) (e8 : x8 = nI hp) : wp_X7_head4_0 M L x1 x2 x3 x4 x5 x6 x7 x8 Z := by
  subst e1 e2 e3 e4 e5 e6 e7 e8
  have htc := cI_tos kp lt
  have hnx := nx6_lt lx
  unfold wp_X7_head4_0
  refine ⟨vp_in_nI (by omega) (by decide), ?_⟩
  rw [nI_clamp (by omega)]
  rintro _ rfl
  have z0 : wr M M 3 st ([] ++ zs (20 + k)) := wr_of hz
  have z1 := wr_ov' z0 (wr_nar (M := M) (c := 3) (a := st) (v := 69) (m := 69) (by decide)) rfl (19 + k) (by simp; omega)
  have e10 : mu M 3 st (vp_nar .byte 69) 0 = M 0 := z1.1 0 (by decide)
  refine ⟨fun v => v = nI (cI kp tos 0), ?_, ?_⟩
  rotate_left
  · rw [e10, hk]
    exact bz (fun c => by rw [cI_f c]; rfl) (fun c => by rw [cI_t c])
  rintro _ rfl
  rw [show nI st + (1 : Int32) = nI (st + 1) from nI_add _ 1, nI_clamp (by omega)]
  refine ⟨vp_in_nI (by omega) (by decide), ?_⟩
  rintro _ rfl
  have z2 := wr_ov' z1 (wr_nar8 (c := 3) (a := st + 1) (v := nI (cI kp tos 0)) (m := cI kp tos 0) (by rw [oc_nI]; omega)) (by simp) (18 + k) (by simp; omega)
  refine r_putTwo_3 (st + 2) tot (fun M4 w4 => ?_) rfl (by omega) (nI_add _ 2)
  have z3 := wr_ov' z2 w4 (by simp) (16 + k) (by rw [bys_len]; omega)
  refine r_putTwo_3 (st + 4) id (fun M5 w5 => ?_) rfl (by omega) (nI_add _ 4)
  have z4 := wr_ov' z3 w5 (by simp [bys_len]) (14 + k) (by rw [bys_len]; omega)
  refine ⟨fun v => v = nI (cI wh 16384 0), ?_, ?_⟩
  rotate_left
  · exact bz (fun c => by rw [cI_f c]; rfl) (fun c => by rw [cI_t c]; rfl)
  rintro _ rfl
  refine ⟨fun v => v = nI (cI go 8192 0), ?_, ?_⟩
  rotate_left
  · exact bz (fun c => by rw [cI_f c]; rfl) (fun c => by rw [cI_t c]; rfl)
  rintro _ rfl
  have efl : (nI (cI wh 16384 0) ||| nI (cI go 8192 0)) ||| (nI wv / (8 : Int32)) = nI (cI wh 16384 0 + cI go 8192 0 + wv / 8) := by
    rw [show nI wv / (8 : Int32) = nI (wv / 8) from pk_div (by omega) (by decide) (by decide)]
    by_cases c : wh
    · rw [cI_t c]
      by_cases c2 : go
      · rw [cI_t c2, show nI 16384 ||| nI 8192 = nI (3 * 2 ^ 13) from by decide, nI_orN (k := 13) (by omega)]
      · rw [cI_f c2, show nI 16384 ||| nI 0 = nI (2 * 2 ^ 13) from by decide, nI_orN (k := 13) (by omega)]
    · rw [cI_f c]
      by_cases c2 : go
      · rw [cI_t c2, show nI 0 ||| nI 8192 = nI (1 * 2 ^ 13) from by decide, nI_orN (k := 13) (by omega)]
      · rw [cI_f c2, show nI 0 ||| nI 0 = nI (0 * 2 ^ 13) from by decide, nI_orN (k := 13) (by omega)]
  rw [efl]
  refine r_putTwo_3 (st + 6) (cI wh 16384 0 + cI go 8192 0 + wv / 8) (fun M8 w8 => ?_) rfl (by omega) (nI_add _ 6)
  have z5 := wr_ov' z4 w8 (by simp [bys_len]) (12 + k) (by rw [bys_len]; omega)
  rw [show nI st + (8 : Int32) = nI (st + 8) from nI_add _ 8, nI_clamp (by omega)]
  refine ⟨vp_in_nI (by omega) (by decide), ?_⟩
  rintro _ rfl
  have z6 := wr_ov' z5 (wr_nar8 (M := M8) (c := 3) (a := st + 8) (v := nI hp) (m := hp % 256) (oc_nI _)) (by simp [bys_len]) (11 + k) (by simp; omega)
  have e35 : mu M8 3 (st + 8) (vp_nar .byte ((nI hp).toInt8.toInt32)) 0 35 = nI x := by rw [z6.1 0 (by decide)]; exact h35
  refine ⟨fun v => v = nI (nx6 x), ?_, ?_⟩
  rotate_left
  · rw [e35]
    unfold nx6
    refine qen x _ (fun c => by rw [if_pos c]; rfl) (fun c => by rw [if_neg c]) rfl (by omega) (by omega)
  rintro _ rfl
  rw [show nI st + (9 : Int32) = nI (st + 9) from nI_add _ 9, nI_clamp (by omega)]
  refine ⟨vp_in_nI (by omega) (by decide), ?_⟩
  rintro _ rfl
  have z7 := wr_gap' 2 (8 + k) (wr_ov' z6 (wr_nar8 (c := 3) (a := st + 9) (v := nI (nx6 x)) (m := nx6 x) (by rw [oc_nI]; omega)) (by simp [bys_len]) (10 + k) (by simp; omega)) (by omega)
  generalize mu (mu M8 3 (st + 8) (vp_nar .byte ((nI hp).toInt8.toInt32))) 3 (st + 9) (vp_nar .byte ((nI (nx6 x)).toInt8.toInt32)) = M9 at z7 ⊢
  refine r_putInt_3 (st + 12) s (fun M10 w10 => ?_) (by rw [z7.1 0 (by decide)]; exact h25) (by omega) (nI_add _ 12)
  have z8 := wr_ov' z7 w10 (by simp [bys_len, zs_len]) (4 + k) (by rw [bys_len]; omega)
  refine r_putInt_3 (st + 16) t (fun M11 w11 => ?_) (by rw [z8.1 0 (by decide)]; exact h26) (by omega) (nI_add _ 16)
  have z9 := wr_ov' z8 w11 (by simp [bys_len, zs_len]) k (by rw [bys_len])
  have z10 : wr M M11 3 st (h4l (cI kp tos 0) tot id (cI wh 16384 0 + cI go 8192 0 + wv / 8) hp (nx6 x) s t ++ zs k) := by
    rw [List.nil_append] at z9
    unfold h4l
    rw [bys_1 69, bys_1 (cI kp tos 0), bys_1 hp, bys_1 (nx6 x), bys_0 2, Nat.mod_eq_of_lt htc, Nat.mod_eq_of_lt hnx]
    exact z9
  have hh := (holds_app.mp z10.2.2).1
  refine r_headerSum st _ hh (h4l_len _ _ _ _ _ _ _ _) (h4l_z _ _ _ _ _ _ _ _) (by omega) (fun M12 L12 k12 w12 => ?_) rfl
  exact h M12 L12 (wr_re z10 w12 (by rw [hd4_len, h4l_len])) k12
