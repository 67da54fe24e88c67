/-! the body of a packet of IPv6 -/
theorem sm8_32 {g : Nat → Nat} (hg : ∀ i, g i < 256) (a : Nat) : sm8 g a 32 = w4 (num8 g a 8) + w4 (num8 g (a + 8) 8) + w4 (num8 g (a + 16) 8) + w4 (num8 g (a + 24) 8) := by
  have e : ∀ k, w4 (num8 g k 8) = wd8 g k + wd8 g (k + 2) + wd8 g (k + 4) + wd8 g (k + 6) := by
    intro k
    have h1 := wd8_lt hg k
    have h2 := wd8_lt hg (k + 2)
    have h3 := wd8_lt hg (k + 4)
    have h4 := wd8_lt hg (k + 6)
    rw [num8_8, num8_4, num8_4, show k + 4 + 2 = k + 6 by omega]
    unfold w4
    omega
  rw [e, e, e, e]
  simp only [sm8, wd8, Nat.add_assoc]
  simp
theorem sm8_32_le {g : Nat → Nat} (hg : ∀ i, g i < 256) (a : Nat) : sm8 g a 32 ≤ 1048560 := by
  rw [sm8_32 hg]
  have h1 := w4_le (num8_lt hg a 8)
  have h2 := w4_le (num8_lt hg (a + 8) 8)
  have h3 := w4_le (num8_lt hg (a + 16) 8)
  have h4 := w4_le (num8_lt hg (a + 24) 8)
  omega
noncomputable def bd6 (g : Nat → Nat) (x i fa F : Nat) : List Nat := cI (x = 58) (fxE4 (seg g i (40 + ln6 g 0 - i)) 0 (40 + ln6 g 0 - i) (sm8 g 8 32)) (fxT (seg g i (40 + ln6 g 0 - i)) x (ofs g fa) (40 + ln6 g 0 - i) 0 (sm8 g 8 32) 16 F)
theorem bd6_len {g : Nat → Nat} {x i fa F : Nat} (h : f6 g x i fa = 0) : (bd6 g x i fa F).length = 40 + ln6 g 0 - i := by
  unfold bd6
  by_cases c : x = 58
  · have := (f6_8 h (f6_i h c).1 (Or.inr (Or.inl c))).1
    rw [cI_t c, fxE4_len (by rw [seg_len]; omega), seg_len]
  · rw [cI_f c, fxT_len (by rw [seg_len]; omega), seg_len]
theorem c_bodyFromSix {M : cM} {L : cL} {Z : cM → Prop} {g : Nat → Nat} (n x i fa sg s t : Nat) (hg : at8 (M 2) 2400 = g) (hB : ∀ j, isBy (M 2 j)) (hp : p6 (M 13) (L 13) g 0 n x i fa sg) (h8 : M 13 8 = nI (40 + ln6 g 0 - i)) (h9 : M 13 9 = nI (40 + ln6 g 0 - i)) (hok : hOk 0 (40 + ln6 g 0) x i fa sg) (hn2 : 40 + ln6 g 0 ≤ 2400) (h0 : f6 g x i fa = 0) (hs : s < 4294967296) (ht : t < 4294967296) (k12 : L 13 12 = lN (w2 s + w2 t)) (h : ∀ M', fr M M' [3, 4] → holds (M' 4) 0 (bd6 g x i fa (w2 s + w2 t)) → M' 3 1 = nI (40 + ln6 g 0 - i) → Z M') : wp_X6_bodyFromSix_0_13 M L Z := by
  have hgb : ∀ i, g i < 256 := fun i => by rw [← hg]; exact at8_lt _ _ _
  have h3 : M 13 3 = nI x := hp.2.2.2.1
  have h7 : M 13 7 = nI i := hp.2.2.2.2.2.1
  have hr := hp.2.2.2.2.1
  have k13 : L 13 13 = lN (sm8 g 8 32) := hp.2.2.2.2.2.2.2.2
  have hil := hok.2.1
  have hof := ofs_lt hgb fa
  have hs2 := w2_le hs
  have ht2 := w2_le ht
  have hlen : (seg g i (40 + ln6 g 0 - i)).length = 40 + ln6 g 0 - i := seg_len _ _ _
  unfold wp_X6_bodyFromSix_0_13
  refine c_copy31 i 0 (40 + ln6 g 0 - i) hg hB (fun M1 w1 => ?_) (by omega) (by omega) h7 rfl h8
  rw [w1.1 13 (by decide), h8]
  rintro _ rfl
  have f2 : fr M (mu M1 3 1 (nI (40 + ln6 g 0 - i))) [3, 4] := fr_t (wr_fr w1 (by decide)) (mu_fr _ _ _ _ (by decide))
  have b2 : holds (mu M1 3 1 (nI (40 + ln6 g 0 - i)) 4) 0 (seg g i (40 + ln6 g 0 - i)) := w1.2.2
  have c2 : mu M1 3 1 (nI (40 + ln6 g 0 - i)) 3 1 = nI (40 + ln6 g 0 - i) := rfl
  generalize mu M1 3 1 (nI (40 + ln6 g 0 - i)) = M2 at f2 b2 c2 ⊢
  have e2 : M2 13 = M 13 := f2 13 (by decide)
  refine c_fixToFour_13 x (ofs g fa) (40 + ln6 g 0 - i) (40 + ln6 g 0 - i) 0 0 (w2 s + w2 t) (sm8 g 8 32) b2 (by rw [hlen]; omega) (by rw [hlen]; omega) (by rw [e2]; exact h3) (by rw [e2]; exact hr.2.2.1) (by rw [e2]; exact h8) (by rw [e2]; exact h9) hok.2.2.1 hof (by omega) (by omega) (sm8_32_le hgb 8) k12 k13 (fun z => by have := (f6_8 h0 (f6_i h0 z).1 (Or.inr (Or.inl z))).1; omega) (fun M3 f3 b3 => ?_) rfl
  exact h M3 (fr_t f2 (fr_s f3 (by decide))) b3 (by rw [f3 3 (by decide)]; exact c2)
/-! errors of IPv6 -/
def T5 : List Nat := [769, 778, 769, 769, 771]
def T6 : List Nat := [0, 1, 4294967295, 4294967295, 2, 2, 9, 8, 12, 12, 12, 12, 12, 12, 12, 12, 12, 12, 12, 12, 12, 12, 12, 12, 16, 16, 16, 16, 16, 16, 16, 16, 16, 16, 16, 16, 16, 16, 16, 16]
theorem T5_c : ∀ i, i < 5 → cpTab3.getD i 0 = nI (T5.getD i 0) := by decide +kernel
theorem T6_c : ∀ i, i < 40 → cpTab4.getD i 0 = nI (T6.getD i 0) := by decide +kernel
theorem T6_l : ∀ i, i < 40 → T6.getD i 0 = 4294967295 ∨ T6.getD i 0 ≤ 16 := by decide
theorem T5_l : ∀ i, i < 5 → T5.getD i 0 < 2000 := by decide
def ek4 (t c : Nat) : Nat := if t = 1 then (if c < 5 then T5.getD c 0 else NO) else if t = 2 then 772 else if t = 3 then 2816 + c else if c = 0 then 3072 else if c = 1 then 770 else NO
def mt4 (told m4 m6 : Nat) : Nat := let k := if m6 - 20 < m4 then m6 - 20 else m4; if k < told - 20 then k else told - 20
def pt4 (told : Nat) : Nat := if told < 40 then T6.getD told 0 else NO
def sc4 (k told m4 m6 : Nat) : Nat := if k = 772 then mt4 told m4 m6 else if k = 3072 then (if pt4 told = NO then NO else pt4 told * 16777216) else 0
theorem pt4_l (n : Nat) : pt4 n = NO ∨ pt4 n ≤ 16 := by
  unfold pt4
  by_cases c : n < 40
  · rw [if_pos c]; exact T6_l n c
  · rw [if_neg c]; exact Or.inl rfl
theorem ek4_l {t c : Nat} (hc : c < 256) : ek4 t c = NO ∨ ek4 t c < 4000 := by
  unfold ek4
  by_cases c1 : t = 1
  · rw [if_pos c1]
    by_cases c2 : c < 5
    · rw [if_pos c2]; have := T5_l c c2; omega
    · rw [if_neg c2]; exact Or.inl rfl
  · rw [if_neg c1]
    by_cases c2 : t = 2
    · rw [if_pos c2]; omega
    · rw [if_neg c2]
      by_cases c3 : t = 3
      · rw [if_pos c3]; omega
      · rw [if_neg c3]
        by_cases c4 : c = 0
        · rw [if_pos c4]; omega
        · rw [if_neg c4]; split
          · omega
          · exact Or.inl rfl
theorem mt4_l {told m4 m6 : Nat} (l4 : m4 ≤ 2000) : mt4 told m4 m6 ≤ 2000 := by
  unfold mt4
  dsimp only
  have a1 := ite_or (m6 - 20 < m4) (m6 - 20) m4
  generalize (if m6 - 20 < m4 then m6 - 20 else m4) = k at a1 ⊢
  split <;> omega
theorem sc4_l {k told m4 m6 : Nat} (l4 : m4 ≤ 2000) : sc4 k told m4 m6 = NO ∨ sc4 k told m4 m6 < 2147483648 := by
  unfold sc4
  by_cases c : k = 772
  · rw [if_pos c]; have := mt4_l (told := told) (m6 := m6) l4; omega
  · rw [if_neg c]
    by_cases c2 : k = 3072
    · rw [if_pos c2]
      by_cases c3 : pt4 told = NO
      · rw [if_pos c3]; exact Or.inl rfl
      · rw [if_neg c3]; have := (pt4_l told).resolve_left c3; omega
    · rw [if_neg c2]; omega
theorem nI_NO2 {n : Nat} (h : n = NO ∨ n < 2147483648) : (nI n = (-1 : Int32)) ↔ n = NO := by
  refine ⟨fun z => ?_, fun z => by rw [z]; exact nI_m1⟩
  rcases h with h | h
  · exact h
  · rw [← nI_m1] at z
    have e := congrArg u32 z
    rw [u32_nI, u32_nI] at e
    unfold NO
    omega
theorem c_entry3 {M : cM} {L : cL} {x : Int64} {Z : Int32 → Prop} (c : Nat) (hc : c < 2 ^ 62) (h : Z (nI (if c < 5 then T5.getD c 0 else NO))) (hx : x = lN c) : wp_X6_entry_t3 M L x Z := by
  subst hx
  unfold wp_X6_entry_t3
  refine lg_cmp_lt0 ?_ rfl (by omega)
  refine lg_ge (b := 5) (fun c1 => ?_) (fun c1 => ?_) rfl rfl (by omega) (by omega)
  · rw [if_neg (by omega)] at h; exact h
  · rw [if_pos c1] at h
    rw [lN_i, nI_clamp (by omega), T5_c c c1]
    exact ⟨vp_in_nI c1 (by decide), h⟩
theorem c_entry4 {M : cM} {L : cL} {x : Int64} {Z : Int32 → Prop} (c : Nat) (hc : c < 2 ^ 62) (h : Z (nI (pt4 c))) (hx : x = lN c) : wp_X6_entry_t4 M L x Z := by
  subst hx
  unfold wp_X6_entry_t4
  unfold pt4 at h
  refine lg_cmp_lt0 ?_ rfl (by omega)
  refine lg_ge (b := 40) (fun c1 => ?_) (fun c1 => ?_) rfl rfl (by omega) (by omega)
  · rw [if_neg (by omega)] at h; exact h
  · rw [if_pos c1] at h
    rw [lN_i, nI_clamp (by omega), T6_c c c1]
    exact ⟨vp_in_nI c1 (by decide), h⟩
theorem c_errorToFour {M : cM} {L : cL} {x y : Int32} {Z : Int32 → Prop} (t c : Nat) (ht : t < 256) (hc : c < 256) (h : Z (nI (ek4 t c))) (hx : x = nI t) (hy : y = nI c) : wp_X6_errorToFour M L x y Z := by
  subst hx hy
  unfold wp_X6_errorToFour
  unfold ek4 at h
  refine qe t _ (fun c1 => ?_) (fun c1 => ?_) rfl (by omega) (by omega)
  · rw [if_pos c1] at h
    exact c_entry3 c (by omega) h (nI_l (by omega))
  rw [if_neg c1] at h
  refine qe t _ (fun c2 => by rw [if_pos c2] at h; exact h) (fun c2 => ?_) rfl (by omega) (by omega)
  rw [if_neg c2] at h
  refine qe t _ (fun c3 => ?_) (fun c3 => ?_) rfl (by omega) (by omega)
  · rw [if_pos c3] at h
    rw [show (2816 : Int32) ||| nI c = nI (2816 + c) from nI_orN (a := 11) (k := 8) hc]
    exact h
  rw [if_neg c3] at h
  refine qen c _ (fun c4 => by rw [if_pos c4] at h; exact h) (fun c4 => ?_) rfl (by omega) (by omega)
  rw [if_neg c4] at h
  exact qen c _ (fun c5 => by rw [if_pos c5] at h; exact h) (fun c5 => by rw [if_neg c5] at h; exact h) rfl (by omega) (by omega)
theorem lN_neg20 : ∀ n, n < 20 → lN n - 20 < 0 := by decide +kernel
theorem c_secondToFour {M : cM} {L : cL} {x : Int32} {y : Int64} {Z : Int32 → Prop} (k told m4 m6 : Nat) (hk : k < 2 ^ 31) (ht : told < 4294967296) (l4 : m4 ≤ 2000) (l6 : m6 ≤ 2000) (l6' : 1280 ≤ m6) (e4 : M 0 12 = nI m4) (e6 : M 0 13 = nI m6) (h : Z (nI (sc4 k told m4 m6))) (hx : x = nI k) (hy : y = lN told) : wp_X6_secondToFour_0 M L x y Z := by
  subst hx hy
  unfold wp_X6_secondToFour_0
  unfold sc4 at h
  refine qen k _ (fun c => ?_) (fun c => ?_) rfl (by omega) (by omega)
  · rw [if_pos c] at h
    have ex : (if lN told - (20 : Int64) < (0 : Int64) then (0 : Int64) else lN told - (20 : Int64)) = lN (told - 20) := by
      by_cases z : told < 20
      · rw [if_pos (lN_neg20 told z), show told - 20 = 0 by omega]; rfl
      · have e : lN told - (20 : Int64) = lN (told - 20) := lN_sub (b := 20) (by omega)
        rw [e, if_neg (fun y => by have := (pk_lLT (a := told - 20) (b := 0) (by omega) (by decide)).mp y; omega)]
    rw [ex]
    rintro _ rfl
    rw [e4, e6, show nI m6 - (20 : Int32) = nI (m6 - 20) from pk_sub (b := 20) (by omega), nI_if (by omega) (by omega), nI_ite]
    unfold mt4 at h
    dsimp only at h
    have a1 := ite_or (m6 - 20 < m4) (m6 - 20) m4
    generalize (if m6 - 20 < m4 then m6 - 20 else m4) = q at a1 h ⊢
    rw [nI_l (by omega)]
    by_cases z : q < told - 20
    · rw [if_pos ((pk_lLT (by omega) (by omega)).mpr z), lN_i]
      rw [if_pos z] at h
      exact h
    · rw [if_neg (fun y => z ((pk_lLT (by omega) (by omega)).mp y)), lN_i]
      rw [if_neg z] at h
      exact h
  · rw [if_neg c] at h
    refine qe k _ (fun c2 => ?_) (fun c2 => by rw [if_neg c2] at h; exact h) rfl (by omega) (by omega)
    rw [if_pos c2] at h
    refine c_entry4 told (by omega) ?_ rfl
    have hl := pt4_l told
    have hN := nI_NO (n := pt4 told) (by omega)
    refine ⟨fun z => ?_, fun z => ?_⟩
    · have hne : pt4 told ≠ NO := fun y => z (hN.mpr y)
      rw [if_neg hne] at h
      have := hl.resolve_left hne
      rw [show nI (pt4 told) <<< ((24 : Int32) &&& 31) = nI (pt4 told * 16777216) from pk_shlN (n := pt4 told) ((24 : Int32) &&& 31) 24 (by decide) (by omega)]
      exact h
    · rw [if_pos (hN.mp z)] at h
      exact h
/-- an inner packet of IPv6 that can be carried over -/
def in6 (g : Nat → Nat) (H Lo : Int64) (B a e x i fa : Nat) : Prop := ad6 g H Lo B (a + 8) < 4294967296 ∧ ad6 g H Lo B (a + 24) < 4294967296 ∧ ¬ bar6 x ∧ 20 + (a + 40 + ln6 g a - i) ≤ 65535 ∧ (x = 58 → ¬ fg6 g fa ∧ 4 ≤ lm6 g a e - i ∧ ec6 (g i))
theorem lg_m1 {A C : Prop} {v : Nat} {x : Int64} (hv : v < 4294967296 ∨ v = 18446744073709551615) (f : ¬ v < 4294967296 → A) (k : v < 4294967296 → C) (hx : x = lN v) : (lg_cmp x (-1 : Int64) = 0 → A) ∧ (¬ lg_cmp x (-1 : Int64) = 0 → C) := by
  subst hx
  rw [lg_cmp_eq]
  rcases hv with h | h
  · refine ⟨fun z => absurd z (fun y => ?_), fun _ => k h⟩
    have e := congrArg uN y
    rw [uN_lN, show uN (-1 : Int64) = 18446744073709551615 from by decide] at e
    omega
  · subst h
    exact ⟨fun _ => f (by decide), fun z => absurd (by decide) z⟩
theorem ad6_or (g : Nat → Nat) (H Lo : Int64) (B k : Nat) : ad6 g H Lo B k < 4294967296 ∨ ad6 g H Lo B k = 18446744073709551615 := by
  by_cases h : ad6 g H Lo B k < 4294967296
  · exact Or.inl h
  · exact Or.inr (fr4_n h)
theorem c_innerSixFits {M : cM} {L : cL} {Z : Int32 → cM → cL → Prop} {g : Nat → Nat} {H Lo : Int64} {B : Nat} (a e x i fa sg : Nat) (hg : at8 (M 2) 2400 = g) (he : e ≤ 2400) (ha : a + 40 ≤ e) (hok : hOk a (lm6 g a e) x i fa sg) (hp : p6 (M 14) (L 14) g a e x i fa sg) (hm : mapC (M 10) (L 10) H Lo B)
    (h0 : ¬ in6 g H Lo B a e x i fa → ∀ M' L', fr M M' [14] → frL L L' [14] → Z 0 M' L')
    (h1 : in6 g H Lo B a e x i fa → Z 1 (mu (mu M 14 10 (nI (ad6 g H Lo B (a + 8)))) 14 11 (nI (ad6 g H Lo B (a + 24)))) (ml L 14 12 (lN (w2 (ad6 g H Lo B (a + 8)) + w2 (ad6 g H Lo B (a + 24)))))) : wp_X6_innerSixFits_0_14 M L Z := by
  have hgb : ∀ i, g i < 256 := fun i => by rw [← hg]; exact at8_lt _ _ _
  have e0 : M 14 0 = nI a := hp.1
  have h3 : M 14 3 = nI x := hp.2.2.2.1
  have hr := hp.2.2.2.2.1
  have h7 : M 14 7 = nI i := hp.2.2.2.2.2.1
  have h8 : M 14 8 = nI (a + 40 + ln6 g a - i) := hp.2.2.2.2.2.2.1
  have h9 : M 14 9 = nI (lm6 g a e - i) := hp.2.2.2.2.2.2.2.1
  obtain ⟨q1, q2, q3⟩ := lm6_le (g := g) ha
  have hln : ln6 g a < 65536 := wd8_lt hgb _
  have hbi := hgb i
  have hil := hok.2.1
  unfold wp_X6_innerSixFits_0_14
  rw [e0]
  refine c_number (a + 8) 8 hg ?_ (by omega) (by omega) (nI_add _ 8) rfl
  refine c_number (a + 16) 8 hg ?_ (by omega) (by omega) (nI_add _ 16) rfl
  refine p_fourOf H Lo B ?_ hm.2.2.2 hm.1 hm.2.1 hm.2.2.1
  refine c_number (a + 24) 8 hg ?_ (by omega) (by omega) (nI_add _ 24) rfl
  refine c_number (a + 32) 8 hg ?_ (by omega) (by omega) (nI_add _ 32) rfl
  refine p_fourOf H Lo B ?_ hm.2.2.2 hm.1 hm.2.1 hm.2.2.1
  refine lg_m1 (ad6_or g H Lo B (a + 8)) (fun c => h0 (fun z => c z.1) _ _ (fr_r _ _) (frL_r _ _)) (fun c1 => ?_) rfl
  refine lg_m1 (ad6_or g H Lo B (a + 24)) (fun c => h0 (fun z => c z.2.1) _ _ (fr_r _ _) (frL_r _ _)) (fun c2 => ?_) rfl
  rw [h3]
  refine p_neverSix x ?_ hok.2.2.1 rfl
  refine bz (fun c3 => ?_) (fun c => h0 (fun z => z.2.2.1 c) _ _ (fr_r _ _) (frL_r _ _))
  refine c_setFour_14 (ad6 g H Lo B (a + 8)) (ad6 g H Lo B (a + 24)) c1 c2 ?_ rfl rfl
  have f1 : fr M (mu (mu M 14 10 (nI (ad6 g H Lo B (a + 8)))) 14 11 (nI (ad6 g H Lo B (a + 24)))) [14] := fr_t (mu_fr _ _ _ _ (by decide)) (mu_fr _ _ _ _ (by decide))
  have k1 : frL L (ml L 14 12 (lN (w2 (ad6 g H Lo B (a + 8)) + w2 (ad6 g H Lo B (a + 24))))) [14] := ml_frL _ _ _ _ (by decide)
  have d3 : mu (mu M 14 10 (nI (ad6 g H Lo B (a + 8)))) 14 11 (nI (ad6 g H Lo B (a + 24))) 14 3 = nI x := h3
  have d7 : mu (mu M 14 10 (nI (ad6 g H Lo B (a + 8)))) 14 11 (nI (ad6 g H Lo B (a + 24))) 14 7 = nI i := h7
  have d8 : mu (mu M 14 10 (nI (ad6 g H Lo B (a + 8)))) 14 11 (nI (ad6 g H Lo B (a + 24))) 14 8 = nI (a + 40 + ln6 g a - i) := h8
  have d9 : mu (mu M 14 10 (nI (ad6 g H Lo B (a + 8)))) 14 11 (nI (ad6 g H Lo B (a + 24))) 14 9 = nI (lm6 g a e - i) := h9
  have dr : hRow (mu (mu M 14 10 (nI (ad6 g H Lo B (a + 8)))) 14 11 (nI (ad6 g H Lo B (a + 24))) 14) g a fa sg := hr
  have dg : at8 (mu (mu M 14 10 (nI (ad6 g H Lo B (a + 8)))) 14 11 (nI (ad6 g H Lo B (a + 24))) 2) 2400 = g := hg
  generalize mu (mu M 14 10 (nI (ad6 g H Lo B (a + 8)))) 14 11 (nI (ad6 g H Lo B (a + 24))) = M1 at f1 d3 d7 d8 d9 dr dg h1 ⊢
  rw [d3, d7, d8, d9]
  refine ql (20 + (a + 40 + ln6 g a - i)) _ (fun c4 => ?_) (fun c4 => h0 (fun z => by have := z.2.2.2.1; omega) _ _ f1 k1) (nI_add 20 _) (by omega) (by omega)
  refine qe x _ (fun c5 => ?_) (fun c5 => h1 ⟨c1, c2, c3, c4, fun z => absurd z c5⟩) rfl (by have := hok.2.2.1; omega) (by omega)
  refine c_fragment_14 a fa sg hgb dr ?_
  refine zb (fun c6 => ?_) (fun c6 => h0 (fun z => (z.2.2.2.2 c5).1 c6) _ _ f1 k1)
  refine qs (lm6 g a e - i) _ (fun c7 => h0 (fun z => by have := (z.2.2.2.2 c5).2.1; omega) _ _ f1 k1) (fun c7 => ?_) rfl (by omega) (by omega)
  refine c_at i dg ?_ (by omega) rfl
  refine p_echoSix (g i) ?_ hbi rfl
  exact bz (fun c8 => h0 (fun z => c8 (z.2.2.2.2 c5).2.2) _ _ f1 k1) (fun c8 => h1 ⟨c1, c2, c3, c4, fun _ => ⟨c6, c7, c8⟩⟩)
noncomputable def ih4 (g : Nat → Nat) (H Lo : Int64) (B : Nat) (kp : Prop) (a x i fa : Nat) : List Nat := hd4 (cI kp (tc6 g a) 0) (20 + (a + 40 + ln6 g a - i)) (ids g fa) (cI (fa = NO ∧ 1260 < 20 + (a + 40 + ln6 g a - i)) 16384 0 + cI (mfs g fa) 8192 0 + ofs g fa * 8 / 8) (g (a + 7)) (nx6 x) (ad6 g H Lo B (a + 8)) (ad6 g H Lo B (a + 24))
noncomputable def i04 (g : Nat → Nat) (H Lo : Int64) (B : Nat) (kp : Prop) (a e x i fa : Nat) : List Nat := ih4 g H Lo B kp a x i fa ++ seg g i (lm6 g a e - i)
noncomputable def il4 (g : Nat → Nat) (H Lo : Int64) (B : Nat) (kp : Prop) (a e x i fa : Nat) : List Nat :=
  cI (x = 58) (fxE4 (i04 g H Lo B kp a e x i fa) 20 (a + 40 + ln6 g a - i) (sm8 g (a + 8) 32)) (fxT (i04 g H Lo B kp a e x i fa) x (ofs g fa) (lm6 g a e - i) 20 (sm8 g (a + 8) 32) 16 (w2 (ad6 g H Lo B (a + 8)) + w2 (ad6 g H Lo B (a + 24))))
theorem ih4_len (g : Nat → Nat) (H Lo : Int64) (B : Nat) (kp : Prop) (a x i fa : Nat) : (ih4 g H Lo B kp a x i fa).length = 20 := hd4_len _ _ _ _ _ _ _ _
theorem i04_len (g : Nat → Nat) (H Lo : Int64) (B : Nat) (kp : Prop) (a e x i fa : Nat) : (i04 g H Lo B kp a e x i fa).length = 20 + (lm6 g a e - i) := by
  unfold i04; rw [List.length_append, ih4_len, seg_len]
theorem il4_len {g : Nat → Nat} {H Lo : Int64} {B : Nat} {kp : Prop} {a e x i fa : Nat} (h : x = 58 → 4 ≤ lm6 g a e - i) : (il4 g H Lo B kp a e x i fa).length = 20 + (lm6 g a e - i) := by
  unfold il4
  by_cases c : x = 58
  · have := h c
    rw [cI_t c, fxE4_len (by rw [i04_len]; omega), i04_len]
  · rw [cI_f c, fxT_len (by rw [i04_len]; exact Nat.le_refl _), i04_len]
theorem c_putInnerFour {M : cM} {L : cL} {Z : Int32 → cM → Prop} {g : Nat → Nat} {H Lo : Int64} {B : Nat} (a e x i fa sg : Nat) (kp : Prop) (hg : at8 (M 2) 2400 = g) (hBy : ∀ j, isBy (M 2 j)) (he : e ≤ 2400) (ha : a + 40 ≤ e) (ha48 : 48 ≤ a) (hok : hOk a (lm6 g a e) x i fa sg) (hp : p6 (M 14) (L 14) g a e x i fa sg) (hin : in6 g H Lo B a e x i fa) (h10 : M 14 10 = nI (ad6 g H Lo B (a + 8))) (h11 : M 14 11 = nI (ad6 g H Lo B (a + 24))) (hk : M 0 14 = bI kp) (h : ∀ M', fr M M' [4] → holds (M' 4) 8 (i04 g H Lo B kp a e x i fa) → Z (nI 28) M') : wp_X6_putInnerFour_0_14 M L Z := by
  have hgb : ∀ i, g i < 256 := fun i => by rw [← hg]; exact at8_lt _ _ _
  have h1 : M 14 1 = nI (tc6 g a) := hp.2.1
  have h2 : M 14 2 = nI (g (a + 7)) := hp.2.2.1
  have h3 : M 14 3 = nI x := hp.2.2.2.1
  have hr := hp.2.2.2.2.1
  have h7 : M 14 7 = nI i := hp.2.2.2.2.2.1
  have h8 : M 14 8 = nI (a + 40 + ln6 g a - i) := hp.2.2.2.2.2.2.1
  have h9 : M 14 9 = nI (lm6 g a e - i) := hp.2.2.2.2.2.2.2.1
  obtain ⟨q1, q2, q3⟩ := lm6_le (g := g) ha
  have hof := ofs_lt hgb fa
  have hil := hok.2.1
  have hi40 := hok.1
  have hl := hin.2.2.2.1
  have ltc : tc6 g a < 256 := Nat.mod_lt _ (by decide)
  unfold wp_X6_putInnerFour_0_14
  rw [h8, show (20 : Int32) + nI (a + 40 + ln6 g a - i) = nI (20 + (a + 40 + ln6 g a - i)) from nI_add 20 _]
  rintro _ rfl
  refine c_flags_14 a fa sg (20 + (a + 40 + ln6 g a - i)) hgb hr (by omega) ?_ rfl
  have efl : cI (fa ≠ NO) (cI (mfs g fa) 8192 0 + ofs g fa) (cI (1260 < 20 + (a + 40 + ln6 g a - i)) 16384 0) = cI (fa = NO ∧ 1260 < 20 + (a + 40 + ln6 g a - i)) 16384 0 + cI (mfs g fa) 8192 0 + ofs g fa * 8 / 8 := by
    rw [show ofs g fa * 8 / 8 = ofs g fa by omega]
    by_cases q : fa = NO
    · have hN := NO_row g
      rw [← q] at hN
      rw [cI_f (fun z => z q), hN.1, cI_f hN.2.1]
      exact cI_iff ⟨fun z => ⟨q, z⟩, fun z => z.2⟩
    · rw [cI_t q, cI_f (P := fa = NO ∧ 1260 < 20 + (a + 40 + ln6 g a - i)) (fun z => q z.1), Nat.zero_add]
  rw [efl]
  refine c_putFour_3_14 8 (20 + (a + 40 + ln6 g a - i)) (cI (fa = NO ∧ 1260 < 20 + (a + 40 + ln6 g a - i)) 16384 0 + cI (mfs g fa) 8192 0 + ofs g fa * 8 / 8) (ids g fa) (g (a + 7)) (tc6 g a) x (ad6 g H Lo B (a + 8)) (ad6 g H Lo B (a + 24)) kp h1 h3 h10 h11 hk ltc hok.2.2.1 (by omega) (fun M3 w3 => ?_) rfl rfl rfl hr.1 h2
  have e14 : M3 14 = M 14 := w3.1 14 (by decide)
  have e2 : M3 2 = M 2 := w3.1 2 (by decide)
  refine c_copy31 (g := g) i 28 (lm6 g a e - i) (by rw [e2]; exact hg) (by rw [e2]; exact hBy) (fun M4 w4 => ?_) (by omega) (by omega) (by rw [e14]; exact h7) rfl (by rw [e14]; exact h9)
  have w5 : wr M M4 4 8 (i04 g H Lo B kp a e x i fa) := wr_app w3 w4 (by rw [ih4_len])
  exact h M4 (wr_fr w5 (by decide)) w5.2.2
noncomputable def be6 (g : Nat → Nat) (H Lo : Int64) (B : Nat) (kp : Prop) (m4 m6 i : Nat) : Nat × List Nat :=
  cI (fo (sm8 g 8 32 + (40 + ln6 g 0 - i) + 58 + sm8 g i (40 + ln6 g 0 - i)) ≠ 65535) (4, [])
    (cI (ek4 (g i) (g (i + 1)) ≠ NO ∧ i + 8 + 40 ≤ 40 + ln6 g 0 ∧ g (i + 8) / 16 = 6 ∧ sc4 (ek4 (g i) (g (i + 1))) (num8 g (i + 4) 4) m4 m6 ≠ NO)
      ((hdr g (i + 8) (lm6 g (i + 8) (40 + ln6 g 0))).elim (8, []) (fun q => cI (in6 g H Lo B (i + 8) (40 + ln6 g 0) q.1 q.2.1 q.2.2.1) (0, mg (ek4 (g i) (g (i + 1))) (sc4 (ek4 (g i) (g (i + 1))) (num8 g (i + 4) 4) m4 m6) 0 (il4 g H Lo B kp (i + 8) (40 + ln6 g 0) q.1 q.2.1 q.2.2.1) 556) (8, []))) (8, []))
theorem c_errorFromSix {M : cM} {L : cL} {Z : Int32 → cM → cL → Prop} {g : Nat → Nat} {H Lo : Int64} {B : Nat} (n x i fa sg m4 m6 : Nat) (kp : Prop) (hg : at8 (M 2) 2400 = g) (hBy : ∀ j, isBy (M 2 j)) (hp : p6 (M 13) (L 13) g 0 n x i fa sg) (h8 : M 13 8 = nI (40 + ln6 g 0 - i)) (hok : hOk 0 (40 + ln6 g 0) x i fa sg) (hn2 : 40 + ln6 g 0 ≤ 2400) (h8l : 8 ≤ 40 + ln6 g 0 - i) (hm : mapC (M 10) (L 10) H Lo B) (hk : M 0 14 = bI kp) (l4 : m4 ≤ 2000) (l6 : m6 ≤ 2000) (l6' : 1280 ≤ m6) (e4 : M 0 12 = nI m4) (e6 : M 0 13 = nI m6)
    (h : ∀ M' L', fr M M' [3, 4, 14] → frL L L' [14] → ((be6 g H Lo B kp m4 m6 i).1 = 0 → holds (M' 4) 0 (be6 g H Lo B kp m4 m6 i).2 ∧ M' 3 1 = nI (be6 g H Lo B kp m4 m6 i).2.length) → Z (nI (be6 g H Lo B kp m4 m6 i).1) M' L') : wp_X6_errorFromSix_0_13_14 M L Z := by
  have hgb : ∀ i, g i < 256 := fun i => by rw [← hg]; exact at8_lt _ _ _
  have h7 : M 13 7 = nI i := hp.2.2.2.2.2.1
  have k13 : L 13 13 = lN (sm8 g 8 32) := hp.2.2.2.2.2.2.2.2
  have hil := hok.2.1
  have hi40 := hok.1
  have hb0 := hgb i
  have hb1 := hgb (i + 1)
  have hW := sm8_32_le hgb 8
  unfold wp_X6_errorFromSix_0_13_14
  intro x1 hx1
  have ex1 : x1 = nI (40 + ln6 g 0) := by rw [hx1, h7, h8, nI_add]; congr 1; omega
  subst ex1
  rw [h7, h8]
  refine c_sum i (40 + ln6 g 0) hg ?_ (by omega) (by omega) rfl rfl
  have hs := sm8_le hgb i (40 + ln6 g 0 - i)
  rw [k13, nI_l (by omega), lN_add, show (58 : Int64) = lN 58 from rfl, lN_add, lN_add]
  refine p_folded _ ?_ (by omega) rfl
  have hfo := fo_le (sm8 g 8 32 + (40 + ln6 g 0 - i) + 58 + sm8 g i (40 + ln6 g 0 - i))
  unfold be6 at h
  refine qe (fo (sm8 g 8 32 + (40 + ln6 g 0 - i) + 58 + sm8 g i (40 + ln6 g 0 - i))) _ (fun c1 => ?_) (fun c1 => ?_) rfl (by omega) (by omega)
  rotate_left
  · rw [cI_t c1] at h
    exact h M L (fr_r _ _) (frL_r _ _) (fun y => absurd y (by decide))
  rw [cI_f (fun z => z c1)] at h
  refine c_at i hg ?_ (by omega) rfl
  refine c_at (i + 1) hg ?_ (by omega) (nI_add _ 1)
  refine c_errorToFour _ _ hb0 hb1 ?_ rfl rfl
  have hek := ek4_l (t := g i) hb1
  have hsl := sc4_l (k := ek4 (g i) (g (i + 1))) (told := num8 g (i + 4) 4) (m6 := m6) l4
  generalize hsc : sc4 (ek4 (g i) (g (i + 1))) (num8 g (i + 4) 4) m4 m6 = sc at h hsl
  generalize ek4 (g i) (g (i + 1)) = ek at h hek hsc ⊢
  have hekN := nI_NO2 (n := ek) (by omega)
  refine ⟨fun z => ?_, fun z => ?_⟩
  · rw [cI_f (fun y => y.1 (hekN.mp z))] at h
    exact h M L (fr_r _ _) (frL_r _ _) (fun y => absurd y (by decide))
  have cek : ek ≠ NO := fun y => z (hekN.mpr y)
  have hscN := nI_NO2 hsl
  refine c_read6_14 (i + 8) (40 + ln6 g 0) hg (by omega) (by omega) (fun hno M1 L1 f1 k1 => ?_) (fun c2 c3 x' i' fa' sg' hS ho M1 L1 f1 k1 hq => ?_) (nI_add _ 8) rfl
  · refine ⟨fun _ => ?_, fun z => absurd rfl z⟩
    by_cases c : ek ≠ NO ∧ i + 8 + 40 ≤ 40 + ln6 g 0 ∧ g (i + 8) / 16 = 6 ∧ sc ≠ NO
    · have hN : hdr g (i + 8) (lm6 g (i + 8) (40 + ln6 g 0)) = none := Classical.byContradiction (fun y => hno ⟨c.2.1, c.2.2.1, y⟩)
      rw [cI_t c, hN] at h
      exact h M1 L1 (fr_s f1 (by decide)) k1 (fun y => absurd y (show ¬ (8 : Nat) = 0 by decide))
    · rw [cI_f c] at h
      exact h M1 L1 (fr_s f1 (by decide)) k1 (fun y => absurd y (by decide))
  refine ⟨fun z => absurd z (by decide), fun _ => ?_⟩
  have hg1 : at8 (M1 2) 2400 = g := by rw [f1 2 (by decide)]; exact hg
  have hB1 : ∀ j, isBy (M1 2 j) := by rw [f1 2 (by decide)]; exact hBy
  have hm1 : mapC (M1 10) (L1 10) H Lo B := by rw [f1 10 (by decide), k1 10 (by decide)]; exact hm
  have eight : ∀ M' L', fr M M' [3, 4, 14] → frL L L' [14] → ¬ (in6 g H Lo B (i + 8) (40 + ln6 g 0) x' i' fa' ∧ sc ≠ NO) → Z 8 M' L' := by
    intro M' L' f' k' hn
    by_cases c : ek ≠ NO ∧ i + 8 + 40 ≤ 40 + ln6 g 0 ∧ g (i + 8) / 16 = 6 ∧ sc ≠ NO
    · rw [cI_t c, hS] at h
      dsimp only [Option.elim] at h
      rw [cI_f (fun y => hn ⟨y, c.2.2.2⟩)] at h
      exact h M' L' f' k' (fun y => absurd y (by decide))
    · rw [cI_f c] at h
      exact h M' L' f' k' (fun y => absurd y (by decide))
  refine c_innerSixFits (i + 8) (40 + ln6 g 0) x' i' fa' sg' hg1 hn2 c2 ho hq hm1 (fun hni M2 L2 f2 k2 => ?_) (fun hin => ?_)
  · exact ⟨fun z => absurd rfl z, fun _ => eight M2 L2 (fr_t (fr_s f1 (by decide)) (fr_s f2 (by decide))) (frL_t k1 k2) (fun y => hni y.1)⟩
  refine ⟨fun _ => ?_, fun z => absurd z (by decide)⟩
  have f2 : fr M (mu (mu M1 14 10 (nI (ad6 g H Lo B (i + 8 + 8)))) 14 11 (nI (ad6 g H Lo B (i + 8 + 24)))) [14] := fr_t f1 (fr_t (mu_fr _ _ _ _ (by decide)) (mu_fr _ _ _ _ (by decide)))
  have k2 : frL L (ml L1 14 12 (lN (w2 (ad6 g H Lo B (i + 8 + 8)) + w2 (ad6 g H Lo B (i + 8 + 24))))) [14] := frL_t k1 (ml_frL _ _ _ _ (by decide))
  have hq2 : p6 (mu (mu M1 14 10 (nI (ad6 g H Lo B (i + 8 + 8)))) 14 11 (nI (ad6 g H Lo B (i + 8 + 24))) 14) (ml L1 14 12 (lN (w2 (ad6 g H Lo B (i + 8 + 8)) + w2 (ad6 g H Lo B (i + 8 + 24)))) 14) g (i + 8) (40 + ln6 g 0) x' i' fa' sg' := hq
  have d10 : mu (mu M1 14 10 (nI (ad6 g H Lo B (i + 8 + 8)))) 14 11 (nI (ad6 g H Lo B (i + 8 + 24))) 14 10 = nI (ad6 g H Lo B (i + 8 + 8)) := rfl
  have d11 : mu (mu M1 14 10 (nI (ad6 g H Lo B (i + 8 + 8)))) 14 11 (nI (ad6 g H Lo B (i + 8 + 24))) 14 11 = nI (ad6 g H Lo B (i + 8 + 24)) := rfl
  have d12 : ml L1 14 12 (lN (w2 (ad6 g H Lo B (i + 8 + 8)) + w2 (ad6 g H Lo B (i + 8 + 24)))) 14 12 = lN (w2 (ad6 g H Lo B (i + 8 + 8)) + w2 (ad6 g H Lo B (i + 8 + 24))) := rfl
  generalize mu (mu M1 14 10 (nI (ad6 g H Lo B (i + 8 + 8)))) 14 11 (nI (ad6 g H Lo B (i + 8 + 24))) = M2 at f2 hq2 d10 d11 ⊢
  generalize ml L1 14 12 (lN (w2 (ad6 g H Lo B (i + 8 + 8)) + w2 (ad6 g H Lo B (i + 8 + 24)))) = L2 at k2 hq2 d12 ⊢
  have hg2 : at8 (M2 2) 2400 = g := by rw [f2 2 (by decide)]; exact hg
  have hB2 : ∀ j, isBy (M2 2 j) := by rw [f2 2 (by decide)]; exact hBy
  have e20 : M2 0 = M 0 := f2 0 (by decide)
  rw [show M2 13 7 = nI i from by rw [f2 13 (by decide)]; exact h7]
  refine c_number (i + 4) 4 hg2 ?_ (by omega) (by omega) (nI_add _ 4) rfl
  refine c_secondToFour ek (num8 g (i + 4) 4) m4 m6 (by have := hek.resolve_left cek; omega) (num4_lt hgb _) l4 l6 l6' (by rw [e20]; exact e4) (by rw [e20]; exact e6) ?_ rfl rfl
  rw [hsc]
  refine ⟨fun c4 => ?_, fun c4 => eight M2 L2 (fr_s f2 (by decide)) k2 (fun y => y.2 (hscN.mp c4))⟩
  have csc : sc ≠ NO := fun y => c4 (hscN.mpr y)
  rw [cI_t ⟨cek, c2, c3, csc⟩, hS] at h
  dsimp only [Option.elim] at h
  rw [cI_t hin] at h
  have he4 : x' = 58 → 4 ≤ lm6 g (i + 8) (40 + ln6 g 0) - i' := fun z => (hin.2.2.2.2 z).2.1
  refine c_putInnerFour (H := H) (Lo := Lo) (B := B) (i + 8) (40 + ln6 g 0) x' i' fa' sg' kp hg2 hB2 hn2 c2 (by omega) ho hq2 hin d10 d11 (by rw [e20]; exact hk) (fun M3 f3 b3 => ?_)
  have i0l := i04_len g H Lo B kp (i + 8) (40 + ln6 g 0) x' i' fa'
  obtain ⟨q1, q2, q3⟩ := lm6_le (g := g) c2
  have ho1 := ho.1
  have ho2 := ho.2.1
  have e14 : M3 14 = M2 14 := f3 14 (by decide)
  have hs1 := w2_le hin.1
  have hs2 := w2_le hin.2.1
  refine c_fixToFour_14 x' (ofs g fa') (lm6 g (i + 8) (40 + ln6 g 0) - i') (i + 8 + 40 + ln6 g (i + 8) - i') 8 20 (w2 (ad6 g H Lo B (i + 8 + 8)) + w2 (ad6 g H Lo B (i + 8 + 24))) (sm8 g (i + 8 + 8) 32) b3 (by rw [i0l]; omega) (by rw [i0l]; omega) (by rw [e14]; exact hq2.2.2.2.1) (by rw [e14]; exact hq2.2.2.2.2.1.2.2.1) (by rw [e14]; exact hq2.2.2.2.2.2.2.1) (by rw [e14]; exact hq2.2.2.2.2.2.2.2.1) ho.2.2.1 (ofs_lt hgb _) (by have := hin.2.2.2.1; omega) (by omega) (sm8_32_le hgb _) d12 hq2.2.2.2.2.2.2.2.2 he4 (fun M4 f4 b4 => ?_) rfl
  have ill := il4_len (H := H) (Lo := Lo) (B := B) (kp := kp) (fa := fa') he4
  have b4' : holds (M4 4) 8 (il4 g H Lo B kp (i + 8) (40 + ln6 g 0) x' i' fa') := b4
  have e9 : M4 14 9 = nI (lm6 g (i + 8) (40 + ln6 g 0) - i') := by rw [f4 14 (by decide), e14]; exact hq2.2.2.2.2.2.2.2.1
  rw [e9]
  have el : (if (556 : Int32) < nI 28 + nI (lm6 g (i + 8) (40 + ln6 g 0) - i') then (556 : Int32) else nI 28 + nI (lm6 g (i + 8) (40 + ln6 g 0) - i')) = nI (if 556 < 8 + (20 + (lm6 g (i + 8) (40 + ln6 g 0) - i')) then 556 else 8 + (20 + (lm6 g (i + 8) (40 + ln6 g 0) - i'))) := by
    rw [nI_add, show 28 + (lm6 g (i + 8) (40 + ln6 g 0) - i') = 8 + (20 + (lm6 g (i + 8) (40 + ln6 g 0) - i')) by omega, show (556 : Int32) = nI 556 from rfl, nI_if (by omega) (by omega), nI_ite]
  rw [el, ← ill]
  rintro _ rfl
  generalize hil' : il4 g H Lo B kp (i + 8) (40 + ln6 g 0) x' i' fa' = il at b4' h ill ⊢
  refine c_putMessage (il := il) ek sc 0 556 b4' (by omega) (by decide) (by decide) rfl (fun M5 f5 b5 => ?_) rfl rfl rfl
  have f0 : fr M M5 [3, 4, 14] := fr_t (fr_t (fr_t (fr_s f2 (by decide)) (fr_s f3 (by decide))) (fr_t (fr_s f4 (by decide)) (mu_fr _ 3 1 _ (by decide)))) (fr_s f5 (by decide))
  refine h M5 L2 f0 k2 (fun _ => ⟨b5, ?_⟩)
  rw [mg_len (by decide), f5 3 (by decide)]
  rfl
