/-! the reference answers a packet of IPv4 -/
theorem wr_of {M : cM} {c a : Nat} {l : List Nat} (h : holds (M c) a l) : wr M M c a l := ⟨fun _ _ => rfl, fun _ _ => rfl, h⟩
theorem wr_re {M M1 M2 : cM} {c a : Nat} {l l2 r : List Nat} (h : wr M M1 c a (l ++ r)) (h2 : wr M1 M2 c a l2) (e : l2.length = l.length) : wr M M2 c a (l2 ++ r) := by
  refine ⟨fun c' hc => (h2.1 c' hc).trans (h.1 c' hc), fun j hj => ?_, holds_app.mpr ⟨h2.2.2, ?_⟩⟩
  · rw [List.length_append] at hj
    rw [h2.2.1 j (by omega), h.2.1 j (by rw [List.length_append]; omega)]
  · have := (holds_app.mp h.2.2).2
    rw [e]
    exact holds_congr (fun j h1 _ => h2.2.1 j (by omega)) this
theorem r_headerSum {M : cM} {L : cL} {x : Int32} {Z : cM → cL → Prop} (a : Nat) (l : List Nat) (hl : holds (M 3) a l) (h20 : l.length = 20) (hz : spl l 10 (bys 2 0) = l) (ha : a + 20 ≤ 16000) (h : ∀ M' L', fL L L' [18] → wr M M' 3 a (spl l 10 (bys 2 (ck l))) → Z M' L') (hx : x = nI a) : wp_X7_headerSum_0 M L x Z := by
  subst hx
  unfold wp_X7_headerSum_0
  refine r_putTwo_3 (a + 10) 0 (fun M1 w1 => ?_) rfl (by omega) (nI_add _ 10)
  have v1 := wr_spl (k := 10) (wr_of hl) w1 rfl (by rw [bys_len, h20]; omega)
  rw [hz] at v1
  rintro _ rfl
  refine r_words_3 a (a + 20) 0 (fun L1 s1 e18 => ?_) rfl (by omega) (by omega) rfl (nI_add _ 20)
  have s6 := sm8_holds v1.2.2 (n := 16000) (by rw [h20]; omega)
  rw [h20] at s6
  rw [show a + 20 - a = 20 by omega, s6, Nat.zero_add] at e18
  refine r_checksum (lsm l) ?_ e18
  refine r_putTwo_3 (a + 10) (ck l) (fun M2 w2 => ?_) rfl (by omega) (nI_add _ 10)
  exact h M2 L1 (fL_t (ml_fL _ _ _ (by decide)) (sF_fL s1 (by decide))) (wr_spl (k := 10) v1 w2 rfl (by rw [bys_len, h20]; omega))
theorem bys_4 (n : Nat) : bys 4 n = [n / 16777216 % 256, n / 65536 % 256, n / 256 % 256, n % 256] := by simp [bys]
theorem a4h_eq (own s t : Nat) (ht : t < 65536) : ([69] ++ zs 1 ++ bys 2 t ++ zs 4 ++ [64] ++ [1] ++ zs 2 ++ bys 4 own ++ bys 4 s) = a4h own s t := by
  unfold a4h
  have e1 : bys 4 (1157627904 + t) = [69] ++ zs 1 ++ bys 2 t := by
    rw [bys_4, bys_2, show (1157627904 + t) / 16777216 % 256 = 69 by omega, show (1157627904 + t) / 65536 % 256 = 0 by omega, show (1157627904 + t) / 256 % 256 = t / 256 % 256 by omega, show (1157627904 + t) % 256 = t % 256 by omega]
    rfl
  have e2 : bys 4 1073807360 = [64] ++ [1] ++ zs 2 := by decide
  rw [e1, e2, bys_0 4]
  simp only [List.append_assoc]
theorem a4m_eq (g : Nat → Nat) (q t c m : Nat) (ht : t < 256) (hc : c < 256) (hm : m < 65536) : [t] ++ [c] ++ zs 4 ++ bys 2 m ++ seg g 0 q = a4m g q (t * 256 + c) m := by
  unfold a4m
  have e1 : bys 4 ((t * 256 + c) * 65536) = [t] ++ [c] ++ zs 2 := by
    rw [bys_4, show (t * 256 + c) * 65536 / 16777216 % 256 = t by omega, show (t * 256 + c) * 65536 / 65536 % 256 = c by omega, show (t * 256 + c) * 65536 / 256 % 256 = 0 by omega, show (t * 256 + c) * 65536 % 256 = 0 by omega]
    rfl
  have e2 : bys 4 m = zs 2 ++ bys 2 m := by
    rw [bys_4, bys_2, show m / 16777216 % 256 = 0 by omega, show m / 65536 % 256 = 0 by omega]
    rfl
  rw [e1, e2, show zs 4 = zs 2 ++ zs 2 from rfl]
  simp only [List.append_assoc]
theorem a4h_z (own s t : Nat) : spl (a4h own s t) 10 (bys 2 0) = a4h own s t := by
  unfold a4h
  have e2 : bys 4 1073807360 = [64, 1] ++ zs 2 := by decide
  rw [e2, bys_0 2]
  have := spl_mid (bys 4 (1157627904 + t) ++ bys 4 0 ++ [64, 1]) (zs 2) (zs 2) (bys 4 own ++ bys 4 s) rfl
  rw [show (bys 4 (1157627904 + t) ++ bys 4 0 ++ ([64, 1] : List Nat)).length = 10 from by simp [bys_len]] at this
  simp only [List.append_assoc] at this ⊢
  exact this
theorem d_raw {M : cM} {g : Nat → Nat} (hg : at8 (M 1) 2400 = g) (hB : ∀ j, isBy (M 1 j)) {k : Nat} (hk : k < 2400) {n : Nat} (hn : n < 128) : (M 1 k = nI n) ↔ g k = n := by
  rw [← hg, at8_in hk]; exact by_eq (hB _) hn
theorem nI_cl_add (a b : Nat) (h : a + b < 2 ^ 31) : (nI a + nI b).toNatClampNeg = a + b := by rw [nI_add, nI_clamp h]
theorem wr_ov' {M M1 M2 : cM} {c a b k : Nat} {l s : List Nat} (h : wr M M1 c a (l ++ zs k)) (h2 : wr M1 M2 c b s) (e : b = a + l.length) (j : Nat) (hk : k = s.length + j) : wr M M2 c a ((l ++ s) ++ zs j) := by
  subst hk
  have := wr_ov h h2 e (by omega)
  rw [show s.length + j - s.length = j by omega] at this
  exact this
theorem wr_gap' {M M1 : cM} {c a k : Nat} {l : List Nat} (j i : Nat) (h : wr M M1 c a (l ++ zs k)) (hj : k = j + i) : wr M M1 c a ((l ++ zs j) ++ zs i) := by
  subst hj
  have := wr_gap j h (by omega)
  rw [show j + i - j = i by omega] at this
  exact this
theorem d_answer4 {M : cM} {L : cL} {x y z : Int32} {Z : Int32 → cM → cL → Prop} {g : Nat → Nat} (n own t c m : Nat) (hg : at8 (M 1) 2400 = g) (hB : ∀ j, isBy (M 1 j)) (hf : form4 g n) (hn : n ≤ 2400) (h31 : M 0 31 = nI (hl4 g 0)) (h32 : M 0 32 = nI (tl4 g 0)) (h33 : M 0 33 = nI (of4 g 0 * 8)) (h35 : M 0 35 = nI (g 9)) (ho : outR M []) (hw : M 0 6 = nI own) (ht : t < 256) (hc : c < 256) (hm : m < 65536)
    (h9 : un4 g → ∀ M', fz M M' [0, 2] [20, 22] → M' 2 = upv (M 2) 9 → outR M' [] → Z 9 M' L)
    (h10 : ¬ un4 g → ∀ M' L', fz M M' [0, 2, 3, 4] [20, 22] → fL L L' [18] → M' 2 = upv (M 2) 10 → outR M' [a4p own (sr4 g 0) g (q4 g) (t * 256 + c) m] → Z 10 M' L') (hx : x = nI t) (hy : y = nI c) (hz : z = nI m) : wp_X7_answer4_0 M L x y z Z := by
  subst hx hy hz
  have hgb : ∀ i, g i < 256 := fun i => by rw [← hg]; exact at8_lt _ _ _
  have hhl : hl4 g 0 ≤ 60 := hl4_le 0
  have hh := hf.1.2.2.2.2
  have hn2 := hf.2.1
  have ho4 : of4 g 0 < 8192 := Nat.mod_lt _ (by decide)
  have hb9 := hgb 9
  have hbh := hgb (hl4 g 0)
  have h40 : M 4 0 = 0 := ho.2.2.1 0 (Nat.le_refl _)
  unfold wp_X7_answer4_0
  rw [h31, h32, h33, h35]
  refine ⟨fun v => v = bI (un4 g), ?_, ?_⟩
  · rintro _ rfl
    refine bz (fun hu => ?_) (fun hu => ?_)
    · have hq : q4 g ≤ 68 := by unfold q4; split <;> omega
      have hqt : q4 g ≤ tl4 g 0 := by unfold q4; split <;> omega
      refine ⟨fun v => v = nI (q4 g), ?_, ?_⟩
      · rintro _ rfl
        refine r_more 0 (28 + q4 g) (fun M0 w0 => ?_) ho.2.1 (by omega) (nI_add 28 _)
        rw [Nat.zero_add]
        have k0 : fz M (mu M0 0 20 (nI (28 + q4 g))) [0, 3] [20] := fz_t (wr_fz w0 (by decide) (by decide)) (mu_fz0 _ _ _ (by decide) (by decide))
        have g0 : at8 (mu M0 0 20 (nI (28 + q4 g)) 1) 2400 = g := by rw [k0.1 1 (by decide)]; exact hg
        have e20 : mu M0 0 20 (nI (28 + q4 g)) 0 20 = nI (28 + q4 g) := rfl
        have z0 : wr (mu M0 0 20 (nI (28 + q4 g))) (mu M0 0 20 (nI (28 + q4 g))) 3 0 ([] ++ zs (28 + q4 g)) := wr_of w0.2.2
        generalize mu M0 0 20 (nI (28 + q4 g)) = M1 at k0 g0 e20 z0 ⊢
        refine ⟨vp_in_nI (by omega) (by decide), ?_⟩
        rw [nI_clamp (by omega)]
        rintro _ rfl
        have z1 := wr_ov' z0 (wr_nar (M := M1) (c := 3) (a := 0) (v := 69) (m := 69) (by decide)) rfl (27 + q4 g) (by simp; omega)
        have z2 := wr_gap' 1 (26 + q4 g) z1 (by omega)
        refine r_putTwo_3 2 (28 + q4 g) (fun M2 w2 => ?_) (nI_add 28 _) (by omega) (nI_add 0 2)
        have z3 := wr_gap' 4 (20 + q4 g) (wr_ov' z2 w2 rfl (24 + q4 g) (by rw [bys_len]; omega)) (by omega)
        refine ⟨by rw [show nI 0 + (8 : Int32) = nI 8 from nI_add 0 8]; exact vp_in_nI (by omega) (by decide), ?_⟩
        rw [show (nI 0 + (8 : Int32)).toNatClampNeg = 8 from nI_cl_add 0 8 (by omega)]
        rintro _ rfl
        have z4 := wr_ov' z3 (wr_nar (M := M2) (c := 3) (a := 8) (v := 64) (m := 64) (by decide)) (by simp [zs_len, bys_len]) (19 + q4 g) (by simp; omega)
        refine ⟨by rw [show nI 0 + (9 : Int32) = nI 9 from nI_add 0 9]; exact vp_in_nI (by omega) (by decide), ?_⟩
        rw [show (nI 0 + (9 : Int32)).toNatClampNeg = 9 from nI_cl_add 0 9 (by omega)]
        rintro _ rfl
        have z5 := wr_gap' 2 (16 + q4 g) (wr_ov' z4 (wr_nar (c := 3) (a := 9) (v := 1) (m := 1) (by decide)) (by simp [zs_len, bys_len]) (18 + q4 g) (by simp; omega)) (by omega)
        generalize mu (mu M2 3 8 (vp_nar .byte 64)) 3 9 (vp_nar .byte 1) = M3 at z5 ⊢
        refine r_putInt_3 12 own (fun M4 w4 => ?_) (by rw [z5.1 0 (by decide), k0.2 6 (by decide)]; exact hw) (by omega) (nI_add 0 12)
        have z6 := wr_ov' z5 w4 (by simp [zs_len, bys_len]) (12 + q4 g) (by rw [bys_len]; omega)
        refine d_int (g := g) 12 (by rw [z6.1 1 (by decide)]; exact g0) ?_ (by omega) rfl
        refine r_putInt_3 16 (sr4 g 0) (fun M5 w5 => ?_) rfl (by omega) (nI_add 0 16)
        have z7 := wr_ov' z6 w5 (by simp [zs_len, bys_len]) (8 + q4 g) (by rw [bys_len]; omega)
        rw [List.nil_append, a4h_eq own (sr4 g 0) (28 + q4 g) (by omega)] at z7
        have hh7 := holds_app.mp z7.2.2
        refine r_headerSum 0 (a4h own (sr4 g 0) (28 + q4 g)) hh7.1 (a4h_len _ _ _) (a4h_z _ _ _) (by omega) (fun M6 L6 k6 w6 => ?_) rfl
        have z8 := wr_re z7 w6 (by rw [spl_len (by rw [bys_len, a4h_len]; omega)])
        have hh8 := (holds_app.mp z8.2.2).2
        rw [spl_len (by rw [bys_len, a4h_len]; omega), a4h_len] at hh8
        have y0 : wr M6 M6 3 20 ([] ++ zs (8 + q4 g)) := wr_of hh8
        refine ⟨by rw [show nI 0 + (20 : Int32) = nI 20 from nI_add 0 20]; exact vp_in_nI (by omega) (by decide), ?_⟩
        rw [show (nI 0 + (20 : Int32)).toNatClampNeg = 20 from nI_cl_add 0 20 (by omega)]
        rintro _ rfl
        have y1 := wr_ov' y0 (wr_nar8 (M := M6) (c := 3) (a := 20) (v := nI t) (m := t) (by rw [oc_nI]; omega)) rfl (7 + q4 g) (by simp; omega)
        refine ⟨by rw [show nI 0 + (21 : Int32) = nI 21 from nI_add 0 21]; exact vp_in_nI (by omega) (by decide), ?_⟩
        rw [show (nI 0 + (21 : Int32)).toNatClampNeg = 21 from nI_cl_add 0 21 (by omega)]
        rintro _ rfl
        have y2 := wr_gap' 4 (2 + q4 g) (wr_ov' y1 (wr_nar8 (c := 3) (a := 21) (v := nI c) (m := c) (by rw [oc_nI]; omega)) (by simp) (6 + q4 g) (by simp; omega)) (by omega)
        refine r_putTwo_3 26 m (fun M7 w7 => ?_) rfl (by omega) (nI_add 0 26)
        have y3 := wr_ov' y2 w7 (by simp [zs_len]) (q4 g) (by rw [bys_len])
        have g7 : at8 (M7 1) 2400 = g := by rw [y3.1 1 (by decide), z8.1 1 (by decide)]; exact g0
        refine ⟨fun x2 M8 => ∃ i, i ≤ q4 g ∧ x2 = nI i ∧ wr M7 M8 3 28 (seg (at8 (M7 1) 2400) 0 i), fun x2 _ => q4 g - x2.toNatClampNeg, ⟨0, Nat.zero_le _, rfl, wr_nil _ _ _⟩, ?_⟩
        rintro _ M8 ⟨i, hi, rfl, w8⟩
        refine pk_le (q4 g) i (fun ci => ?_) (fun ci => ?_) rfl rfl (by omega) (by omega)
        · have ei : i = q4 g := by omega
          subst ei
          rw [g7] at w8
          have y4 := wr_ov' y3 w8 (by simp [zs_len, bys_len]) 0 (by rw [seg_len]; rfl)
          rw [List.nil_append, a4m_eq g (q4 g) t c m ht hc hm, show zs 0 = [] from rfl, List.append_nil] at y4
          rintro _ rfl
          have e20' : M8 0 20 = nI (28 + q4 g) := by rw [y4.1 0 (by decide), z8.1 0 (by decide)]; exact e20
          refine r_words_3 20 (28 + q4 g) 0 (fun L8 s8 e18 => ?_) rfl (by omega) (by omega) (nI_add 0 20) e20'
          have s10 := sm8_holds y4.2.2 (n := 16000) (by rw [a4m_len]; omega)
          rw [a4m_len] at s10
          rw [show 28 + q4 g - 20 = 8 + q4 g by omega, s10, Nat.zero_add] at e18
          refine r_checksum (lsm (a4m g (q4 g) (t * 256 + c) m)) ?_ e18
          refine r_putTwo_3 22 (ck (a4m g (q4 g) (t * 256 + c) m)) (fun M9 w9 => ?_) rfl (by omega) (nI_add 0 22)
          have y5 := wr_spl (k := 2) y4 w9 rfl (by rw [bys_len, a4m_len]; omega)
          have z9 := wr_ov' z8 y5 (by rw [spl_len (by rw [bys_len, a4h_len]; omega), a4h_len]) 0 (by rw [spl_len (by rw [bys_len, a4m_len]; omega), a4m_len]; rfl)
          rw [show zs 0 = [] from rfl, List.append_nil] at z9
          have k9 : fz M M9 [0, 3] [20] := fz_t k0 (wr_fz z9 (by decide) (by decide))
          refine r_part [] (a4p own (sr4 g 0) g (q4 g) (t * 256 + c) m) ?_ ?_ ?_ trivial z9.2.2 (by decide) (fun M10 k10 o10 => ?_)
          · rw [z9.1 0 (by decide)]
            rw [k0.2 22 (by decide)]; exact ho.1
          · rw [z9.1 0 (by decide), a4p_len, List.flatten_nil, List.length_nil, Nat.zero_add]; exact e20
          · intro i hi
            rw [k9.1 4 (by decide)]
            exact ho.2.2.1 i hi
          · refine r_tellK 10 (Or.inr rfl) (fun M11 k11 e11 => ?_) rfl
            refine h10 hu M11 _ (fz_t (fz_t (fz_s k9 (by decide) (by decide)) (fz_s k10 (by decide) (by decide))) (fz_s k11 (by decide) (by decide))) (fL_t k6 (fL_t (ml_fL _ _ _ (by decide)) (sF_fL s8 (by decide)))) ?_ (outR_f o10 k11 (by decide) (by decide) (by decide) (by decide))
            rw [e11, k10.1 2 (by decide), z9.1 2 (by decide)]
            rw [k0.1 2 (by decide)]
        · refine ⟨vp_in_nI (by omega) (by decide), ?_⟩
          rw [show nI 0 + (28 : Int32) + nI i = nI (28 + i) from by rw [show nI 0 + (28 : Int32) = nI 28 from nI_add 0 28, nI_add], nI_clamp (by omega), nI_clamp (by omega)]
          refine ⟨vp_in_nI (by omega) (by decide), ?_⟩
          rintro _ rfl _ rfl
          have st := cp_step w8 (by decide) (by omega)
          rw [Nat.zero_add] at st
          refine ⟨⟨i + 1, by omega, nI_1 _, st⟩, ?_⟩
          dsimp only
          rw [nI_1, nI_clamp (by omega), nI_clamp (by omega)]
          omega
      · unfold q4
        refine pk_le (hl4 g 0 + 8) (tl4 g 0) (fun ci => ?_) (fun ci => ?_) (nI_add _ 8) rfl (by omega) (by omega)
        · rw [if_neg (by omega)]; exact nI_add _ 8
        · rw [if_pos (by omega)]; congr 1; omega
    · refine r_tellD 9 (by decide) h40 (fun M' k e o => h9 hu M' k e o) rfl
  · have e8 : (M 1 (hl4 g 0) = 8) ↔ g (hl4 g 0) = 8 := d_raw hg hB (by omega) (n := 8) (by decide)
    have e0 : (M 1 (hl4 g 0) = 0) ↔ g (hl4 g 0) = 0 := d_raw hg hB (by omega) (n := 0) (by decide)
    have hin : vp_in (nI (hl4 g 0)) 2400 := vp_in_nI (by omega) (by decide)
    rw [nI_clamp (by omega), e8, e0]
    by_cases hu : un4 g
    · rw [bI_t hu]
      refine ⟨True, fun _ => rfl, ?_⟩
      refine qb (of4 g 0 * 8) _ (fun c => trivial) (fun c1 => ?_) rfl (by omega) (by omega)
      have hu2 : g 9 = 1 ∧ ¬ (0 < tl4 g 0 - hl4 g 0 ∧ ec4 (g (hl4 g 0))) := hu.resolve_left (fun z => by omega)
      refine ⟨False, False.elim, ?_⟩
      refine qen (g 9) _ (fun c2 => ?_) (fun c2 => absurd hu2.1 c2) rfl (by omega) (by omega)
      refine pk_eq (tl4 g 0) (hl4 g 0) (fun c3 => trivial) (fun c3 => ?_) rfl rfl (by omega) (by omega)
      refine ⟨hin, fun c4 => hu2.2 ⟨by omega, Or.inl c4⟩, fun c4 => ⟨hin, fun c5 => hu2.2 ⟨by omega, Or.inr c5⟩, fun _ => trivial⟩⟩
    · rw [bI_f hu]
      refine ⟨False, False.elim, ?_⟩
      refine qb (of4 g 0 * 8) _ (fun c => hu (Or.inl (by omega))) (fun c1 => ?_) rfl (by omega) (by omega)
      refine ⟨True, fun _ => rfl, ?_⟩
      refine qen (g 9) _ (fun c2 => ?_) (fun c2 => trivial) rfl (by omega) (by omega)
      refine pk_eq (tl4 g 0) (hl4 g 0) (fun c3 => hu (Or.inr ⟨c2, fun z => by omega⟩)) (fun c3 => ?_) rfl rfl (by omega) (by omega)
      refine ⟨hin, fun _ => trivial, fun c4 => ⟨hin, fun _ => trivial, fun c5 => hu (Or.inr ⟨c2, fun z => z.2.elim c4 c5⟩)⟩⟩
