/-! a packet of IPv6 is read -/
def ln6 (g : Nat → Nat) (a : Nat) : Nat := wd8 g (a + 4)
def lm6 (g : Nat → Nat) (a e : Nat) : Nat := if a + 40 + ln6 g a < e then a + 40 + ln6 g a else e
def tc6 (g : Nat → Nat) (a : Nat) : Nat := wd8 g a / 16 % 256
def p6 (r : Nat → Int32) (l : Nat → Int64) (g : Nat → Nat) (a e x i fa sg : Nat) : Prop := r 0 = nI a ∧ r 1 = nI (tc6 g a) ∧ r 2 = nI (g (a + 7)) ∧ r 3 = nI x ∧ hRow r g a fa sg ∧ r 7 = nI i ∧ r 8 = nI (a + 40 + ln6 g a - i) ∧ r 9 = nI (lm6 g a e - i) ∧ l 13 = lN (sm8 g (a + 8) 32)
def fg6 (g : Nat → Nat) (fa : Nat) : Prop := mfs g fa ∨ ofs g fa ≠ 0
theorem lm6_le {g : Nat → Nat} {a e : Nat} (h : a + 40 ≤ e) : a + 40 ≤ lm6 g a e ∧ lm6 g a e ≤ e ∧ lm6 g a e ≤ a + 40 + ln6 g a := by unfold lm6; split <;> omega
theorem c_read6_13 {M : cM} {L : cL} {x y : Int32} {Z : Int32 → cM → cL → Prop} {g : Nat → Nat} (a e : Nat) (hg : at8 (M 2) 2400 = g) (hae : a ≤ e) (he : e ≤ 2400)
    (h0 : ¬ (a + 40 ≤ e ∧ g a / 16 = 6 ∧ hdr g a (lm6 g a e) ≠ none) → ∀ M' L', fr M M' [13] → frL L L' [13] → Z 0 M' L')
    (h1 : a + 40 ≤ e → g a / 16 = 6 → ∀ x i fa sg, hdr g a (lm6 g a e) = some (x, i, fa, sg) → hOk a (lm6 g a e) x i fa sg → ∀ M' L', fr M M' [13] → frL L L' [13] → p6 (M' 13) (L' 13) g a e x i fa sg → Z 1 M' L') (hx : x = nI a) (hy : y = nI e) : wp_X5_read_13_1 M L x y Z := by
  subst hx hy
  have hgb : ∀ i, g i < 256 := fun i => by rw [← hg]; exact at8_lt _ _ _
  have hb0 := hgb a
  have hln : ln6 g a < 65536 := wd8_lt hgb _
  have hwa : wd8 g a < 65536 := wd8_lt hgb _
  unfold wp_X5_read_13_1
  rw [show nI e - nI a = nI (e - a) from pk_sub hae]
  refine qs (e - a) _ (fun c => h0 (fun z => by have := z.1; omega) _ _ (fr_r _ _) (frL_r _ _)) (fun c1 => ?_) rfl (by omega) (by omega)
  have ha40 : a + 40 ≤ e := by omega
  obtain ⟨q1, q2, q3⟩ := lm6_le (g := g) ha40
  refine c_at a hg ?_ (by omega) rfl
  rw [nI_sr4 (by omega)]
  refine qe (g a / 16) _ (fun c2 => ?_) (fun c => h0 (fun z => c z.2.1) _ _ (fr_r _ _) (frL_r _ _)) rfl (by omega) (by omega)
  rintro _ rfl
  refine c_word a hg ?_ (by omega) rfl
  rw [nI_sr4 (by omega), show nI (wd8 g a / 16) &&& (255 : Int32) = nI (tc6 g a) from pk_andN (by omega) 8 (by decide)]
  rintro _ rfl
  refine c_at (a + 7) hg ?_ (by omega) (nI_add _ 7)
  rintro _ rfl
  refine c_sum (a + 8) (a + 40) hg ?_ (by omega) (by omega) (nI_add _ 8) (nI_add _ 40)
  rw [show a + 40 - (a + 8) = 32 by omega]
  rintro _ rfl
  refine c_word (a + 4) hg ?_ (by omega) (nI_add _ 4)
  rw [show nI a + (40 : Int32) + nI (wd8 g (a + 4)) = nI (a + 40 + ln6 g a) from by rw [show nI a + (40 : Int32) = nI (a + 40) from nI_add _ 40, nI_add]; rfl]
  rintro _ rfl
  rw [show (if nI (a + 40 + ln6 g a) < nI e then nI (a + 40 + ln6 g a) else nI e) = nI (lm6 g a e) from by rw [nI_if (by omega) (by omega), nI_ite]; rfl]
  rintro _ rfl
  have f8 : fr M (mu (mu (mu M 13 0 (nI a)) 13 1 (nI (tc6 g a))) 13 2 (nI (g (a + 7)))) [13] := fr_t (fr_t (mu_fr _ _ _ _ (by decide)) (mu_fr _ _ _ _ (by decide))) (mu_fr _ _ _ _ (by decide))
  have e0 : mu (mu (mu M 13 0 (nI a)) 13 1 (nI (tc6 g a))) 13 2 (nI (g (a + 7))) 13 0 = nI a := rfl
  have e1 : mu (mu (mu M 13 0 (nI a)) 13 1 (nI (tc6 g a))) 13 2 (nI (g (a + 7))) 13 1 = nI (tc6 g a) := rfl
  have e2 : mu (mu (mu M 13 0 (nI a)) 13 1 (nI (tc6 g a))) 13 2 (nI (g (a + 7))) 13 2 = nI (g (a + 7)) := rfl
  generalize mu (mu (mu M 13 0 (nI a)) 13 1 (nI (tc6 g a))) 13 2 (nI (g (a + 7))) = M8 at f8 e0 e1 e2 ⊢
  refine c_readHeaders_13 (g := g) a (lm6 g a e) (by rw [f8 2 (by decide)]; exact hg) e0 q1 (by omega) (fun hN M' f' => ?_) (fun x i fa sg hS ho M' f' s' r' r3 r7 => ?_) rfl
  · exact ⟨fun z => absurd rfl z, fun _ => h0 (fun z => z.2.2 hN) _ _ (fr_t f8 f') (ml_frL _ _ _ _ (by decide))⟩
  refine ⟨fun _ => ?_, fun z => absurd z (by decide)⟩
  have hi := ho.2.1
  rw [r7, show nI (a + 40 + ln6 g a) - nI i = nI (a + 40 + ln6 g a - i) from pk_sub (by omega)]
  rintro _ rfl
  rw [show mu M' 13 8 (nI (a + 40 + ln6 g a - i)) 13 7 = nI i from r7, show nI (lm6 g a e) - nI i = nI (lm6 g a e - i) from pk_sub hi]
  rintro _ rfl
  refine h1 ha40 c2 x i fa sg hS ho _ _ (fr_t (fr_t (fr_t f8 f') (mu_fr _ _ _ _ (by decide))) (mu_fr _ _ _ _ (by decide))) (ml_frL _ _ _ _ (by decide)) ?_
  exact ⟨(s' 0 (by decide)).trans e0, (s' 1 (by decide)).trans e1, (s' 2 (by decide)).trans e2, r3, r', r7, rfl, rfl, rfl⟩
theorem c_fragment_13 {M : cM} {L : cL} {Z : Int32 → Prop} {g : Nat → Nat} (a fa sg : Nat) (hgb : ∀ i, g i < 256) (hr : hRow (M 13) g a fa sg) (h : Z (bI (fg6 g fa))) : wp_X2_fragment_13 M L Z := by
  have ho := ofs_lt hgb fa
  unfold wp_X2_fragment_13
  rw [hr.2.1, hr.2.2.1]
  refine zb (fun c => ?_) (fun c => zt h (Or.inl c))
  refine qe (ofs g fa) _ (fun c2 => zf h (fun z => z.elim c (fun y => y c2))) (fun c2 => zt h (Or.inr c2)) rfl (by omega) (by omega)
theorem c_setFour_13 {M : cM} {L : cL} {x y : Int64} {Z : cM → cL → Prop} (s t : Nat) (hs : s < 4294967296) (ht : t < 4294967296) (h : Z (mu (mu M 13 10 (nI s)) 13 11 (nI t)) (ml L 13 12 (lN (w2 s + w2 t)))) (hx : x = lN s) (hy : y = lN t) : wp_X5_setFour_13 M L x y Z := by
  subst hx hy
  unfold wp_X5_setFour_13
  rw [lN_i, lN_i]
  rintro _ rfl _ rfl
  refine p_wordsOf (s * 4294967296 + t) ?_ ?_
  · rw [show w4 (s * 4294967296 + t) = w2 s + w2 t by unfold w4 w2; omega]
    rintro _ rfl
    exact h
  · rw [show lN s <<< ((32 : Int32).toInt64 &&& 63) = lN (s * 4294967296) from wb_shl s (k := 32) (by decide), g_or (k := 32) (by decide) ht (by omega), uN_lN]
    omega
theorem c_read6_14 {M : cM} {L : cL} {x y : Int32} {Z : Int32 → cM → cL → Prop} {g : Nat → Nat} (a e : Nat) (hg : at8 (M 2) 2400 = g) (hae : a ≤ e) (he : e ≤ 2400)
    (h0 : ¬ (a + 40 ≤ e ∧ g a / 16 = 6 ∧ hdr g a (lm6 g a e) ≠ none) → ∀ M' L', fr M M' [14] → frL L L' [14] → Z 0 M' L')
    (h1 : a + 40 ≤ e → g a / 16 = 6 → ∀ x i fa sg, hdr g a (lm6 g a e) = some (x, i, fa, sg) → hOk a (lm6 g a e) x i fa sg → ∀ M' L', fr M M' [14] → frL L L' [14] → p6 (M' 14) (L' 14) g a e x i fa sg → Z 1 M' L') (hx : x = nI a) (hy : y = nI e) : wp_X5_read_14_1 M L x y Z := by
  subst hx hy
  have hgb : ∀ i, g i < 256 := fun i => by rw [← hg]; exact at8_lt _ _ _
  have hb0 := hgb a
  have hln : ln6 g a < 65536 := wd8_lt hgb _
  have hwa : wd8 g a < 65536 := wd8_lt hgb _
  unfold wp_X5_read_14_1
  rw [show nI e - nI a = nI (e - a) from pk_sub hae]
  refine qs (e - a) _ (fun c => h0 (fun z => by have := z.1; omega) _ _ (fr_r _ _) (frL_r _ _)) (fun c1 => ?_) rfl (by omega) (by omega)
  have ha40 : a + 40 ≤ e := by omega
  obtain ⟨q1, q2, q3⟩ := lm6_le (g := g) ha40
  refine c_at a hg ?_ (by omega) rfl
  rw [nI_sr4 (by omega)]
  refine qe (g a / 16) _ (fun c2 => ?_) (fun c => h0 (fun z => c z.2.1) _ _ (fr_r _ _) (frL_r _ _)) rfl (by omega) (by omega)
  rintro _ rfl
  refine c_word a hg ?_ (by omega) rfl
  rw [nI_sr4 (by omega), show nI (wd8 g a / 16) &&& (255 : Int32) = nI (tc6 g a) from pk_andN (by omega) 8 (by decide)]
  rintro _ rfl
  refine c_at (a + 7) hg ?_ (by omega) (nI_add _ 7)
  rintro _ rfl
  refine c_sum (a + 8) (a + 40) hg ?_ (by omega) (by omega) (nI_add _ 8) (nI_add _ 40)
  rw [show a + 40 - (a + 8) = 32 by omega]
  rintro _ rfl
  refine c_word (a + 4) hg ?_ (by omega) (nI_add _ 4)
  rw [show nI a + (40 : Int32) + nI (wd8 g (a + 4)) = nI (a + 40 + ln6 g a) from by rw [show nI a + (40 : Int32) = nI (a + 40) from nI_add _ 40, nI_add]; rfl]
  rintro _ rfl
  rw [show (if nI (a + 40 + ln6 g a) < nI e then nI (a + 40 + ln6 g a) else nI e) = nI (lm6 g a e) from by rw [nI_if (by omega) (by omega), nI_ite]; rfl]
  rintro _ rfl
  have f8 : fr M (mu (mu (mu M 14 0 (nI a)) 14 1 (nI (tc6 g a))) 14 2 (nI (g (a + 7)))) [14] := fr_t (fr_t (mu_fr _ _ _ _ (by decide)) (mu_fr _ _ _ _ (by decide))) (mu_fr _ _ _ _ (by decide))
  have e0 : mu (mu (mu M 14 0 (nI a)) 14 1 (nI (tc6 g a))) 14 2 (nI (g (a + 7))) 14 0 = nI a := rfl
  have e1 : mu (mu (mu M 14 0 (nI a)) 14 1 (nI (tc6 g a))) 14 2 (nI (g (a + 7))) 14 1 = nI (tc6 g a) := rfl
  have e2 : mu (mu (mu M 14 0 (nI a)) 14 1 (nI (tc6 g a))) 14 2 (nI (g (a + 7))) 14 2 = nI (g (a + 7)) := rfl
  generalize mu (mu (mu M 14 0 (nI a)) 14 1 (nI (tc6 g a))) 14 2 (nI (g (a + 7))) = M8 at f8 e0 e1 e2 ⊢
  refine c_readHeaders_14 (g := g) a (lm6 g a e) (by rw [f8 2 (by decide)]; exact hg) e0 q1 (by omega) (fun hN M' f' => ?_) (fun x i fa sg hS ho M' f' s' r' r3 r7 => ?_) rfl
  · exact ⟨fun z => absurd rfl z, fun _ => h0 (fun z => z.2.2 hN) _ _ (fr_t f8 f') (ml_frL _ _ _ _ (by decide))⟩
  refine ⟨fun _ => ?_, fun z => absurd z (by decide)⟩
  have hi := ho.2.1
  rw [r7, show nI (a + 40 + ln6 g a) - nI i = nI (a + 40 + ln6 g a - i) from pk_sub (by omega)]
  rintro _ rfl
  rw [show mu M' 14 8 (nI (a + 40 + ln6 g a - i)) 14 7 = nI i from r7, show nI (lm6 g a e) - nI i = nI (lm6 g a e - i) from pk_sub hi]
  rintro _ rfl
  refine h1 ha40 c2 x i fa sg hS ho _ _ (fr_t (fr_t (fr_t f8 f') (mu_fr _ _ _ _ (by decide))) (mu_fr _ _ _ _ (by decide))) (ml_frL _ _ _ _ (by decide)) ?_
  exact ⟨(s' 0 (by decide)).trans e0, (s' 1 (by decide)).trans e1, (s' 2 (by decide)).trans e2, r3, r', r7, rfl, rfl, rfl⟩
theorem c_fragment_14 {M : cM} {L : cL} {Z : Int32 → Prop} {g : Nat → Nat} (a fa sg : Nat) (hgb : ∀ i, g i < 256) (hr : hRow (M 14) g a fa sg) (h : Z (bI (fg6 g fa))) : wp_X2_fragment_14 M L Z := by
  have ho := ofs_lt hgb fa
  unfold wp_X2_fragment_14
  rw [hr.2.1, hr.2.2.1]
  refine zb (fun c => ?_) (fun c => zt h (Or.inl c))
  refine qe (ofs g fa) _ (fun c2 => zf h (fun z => z.elim c (fun y => y c2))) (fun c2 => zt h (Or.inr c2)) rfl (by omega) (by omega)
theorem c_setFour_14 {M : cM} {L : cL} {x y : Int64} {Z : cM → cL → Prop} (s t : Nat) (hs : s < 4294967296) (ht : t < 4294967296) (h : Z (mu (mu M 14 10 (nI s)) 14 11 (nI t)) (ml L 14 12 (lN (w2 s + w2 t)))) (hx : x = lN s) (hy : y = lN t) : wp_X5_setFour_14 M L x y Z := by
  subst hx hy
  unfold wp_X5_setFour_14
  rw [lN_i, lN_i]
  rintro _ rfl _ rfl
  refine p_wordsOf (s * 4294967296 + t) ?_ ?_
  · rw [show w4 (s * 4294967296 + t) = w2 s + w2 t by unfold w4 w2; omega]
    rintro _ rfl
    exact h
  · rw [show lN s <<< ((32 : Int32).toInt64 &&& 63) = lN (s * 4294967296) from wb_shl s (k := 32) (by decide), g_or (k := 32) (by decide) ht (by omega), uN_lN]
    omega
def fm6 (g : Nat → Nat) (n : Nat) : Prop := 40 ≤ n ∧ 40 + ln6 g 0 ≤ n ∧ g 0 / 16 = 6 ∧ ∃ x i fa sg, hdr g 0 (40 + ln6 g 0) = some (x, i, fa, sg) ∧ ¬ (mfs g fa ∧ (40 + ln6 g 0 - i) % 8 ≠ 0) ∧ ofs g fa * 8 + (40 + ln6 g 0 - i) ≤ 65535
theorem fm6_n {g : Nat → Nat} {n x i fa sg : Nat} (h : hdr g 0 (40 + ln6 g 0) = some (x, i, fa, sg)) (hf : fm6 g n) : ¬ (mfs g fa ∧ (40 + ln6 g 0 - i) % 8 ≠ 0) ∧ ofs g fa * 8 + (40 + ln6 g 0 - i) ≤ 65535 := by
  obtain ⟨_, _, _, x', i', fa', sg', e, h1, h2⟩ := hf
  rw [h] at e
  injection e with e
  injection e with e1 e
  injection e with e2 e
  injection e with e3 e4
  subst e1 e2 e3 e4
  exact ⟨h1, h2⟩
theorem c_endsTooFar_13 {M : cM} {L : cL} {Z : Int32 → Prop} {g : Nat → Nat} (a fa sg len : Nat) (hgb : ∀ i, g i < 256) (hr : hRow (M 13) g a fa sg) (h8 : M 13 8 = nI len) (hl : len ≤ 2400) (h : Z (bI (65535 < ofs g fa * 8 + len))) : wp_X2_endsTooFar_13 M L Z := by
  have ho := ofs_lt hgb fa
  unfold wp_X2_endsTooFar_13
  refine c_fragment_13 a fa sg hgb hr ?_
  rw [hr.2.2.1, h8]
  refine bz (fun c => zf h (fun z => c (Or.inr (by omega)))) (fun c => ?_)
  refine ql (ofs g fa * 8 + len) _ (fun c2 => zf h (by omega)) (fun c2 => zt h c2) (by rw [show (8 : Int32) = nI 8 from rfl, nI_mul', nI_add]) (by omega) (by omega)
theorem c_readWhole_13 {M : cM} {L : cL} {Z : Int32 → cM → cL → Prop} {g : Nat → Nat} (n : Nat) (hg : at8 (M 2) 2400 = g) (hn : n ≤ 2400) (hn1 : M 1 1 = nI n)
    (h0 : ¬ fm6 g n → ∀ M' L', fr M M' [13] → frL L L' [13] → Z 0 M' L')
    (h1 : fm6 g n → ∀ x i fa sg, hdr g 0 (40 + ln6 g 0) = some (x, i, fa, sg) → hOk 0 (40 + ln6 g 0) x i fa sg → ∀ M' L', fr M M' [13] → frL L L' [13] → p6 (M' 13) (L' 13) g 0 n x i fa sg → M' 13 8 = nI (40 + ln6 g 0 - i) → M' 13 9 = nI (40 + ln6 g 0 - i) → Z 1 M' L') : wp_X5_readWhole_13_1 M L Z := by
  have hgb : ∀ i, g i < 256 := fun i => by rw [← hg]; exact at8_lt _ _ _
  have hln : ln6 g 0 < 65536 := wd8_lt hgb _
  unfold wp_X5_readWhole_13_1
  rw [hn1]
  refine qs n _ (fun c => h0 (fun z => by have := z.1; omega) _ _ (fr_r _ _) (frL_r _ _)) (fun c1 => ?_) rfl (by omega) (by omega)
  refine c_word 4 hg ?_ (by omega) rfl
  refine pk_lt n (40 + ln6 g 0) (fun c => h0 (fun z => by have := z.2.1; omega) _ _ (fr_r _ _) (frL_r _ _)) (fun c2 => ?_) rfl (nI_add 40 _) (by omega) (by omega)
  have elm : lm6 g 0 n = 40 + ln6 g 0 := by unfold lm6; split <;> omega
  refine c_read6_13 0 n hg (Nat.zero_le _) hn (fun hno M1 L1 f1 k1 => ?_) (fun _ c3 x i fa sg hS ho M1 L1 f1 k1 hp => ?_) rfl rfl
  · refine ⟨fun z => absurd rfl z, fun _ => h0 (fun z => hno ⟨by omega, z.2.2.1, ?_⟩) _ _ f1 k1⟩
    obtain ⟨x, i, fa, sg, e, _⟩ := z.2.2.2
    rw [elm, e]
    exact fun y => by injection y
  rw [elm] at hS ho
  refine ⟨fun _ => ?_, fun z => absurd z (by decide)⟩
  have h8 : M1 13 8 = nI (40 + ln6 g 0 - i) := by have := hp.2.2.2.2.2.2.1; rw [Nat.zero_add] at this; exact this
  have h9 : M1 13 9 = nI (40 + ln6 g 0 - i) := by have := hp.2.2.2.2.2.2.2.1; rw [elm] at this; exact this
  have hr := hp.2.2.2.2.1
  rw [hr.2.1, h8]
  have key : ¬ (mfs g fa ∧ (40 + ln6 g 0 - i) % 8 ≠ 0) → wp_X2_endsTooFar_13 M1 L1 (fun r8 => ((¬ r8 = 0 → Z 0 M1 L1) ∧ (r8 = 0 → Z 1 M1 L1))) := by
    intro c4
    refine c_endsTooFar_13 0 fa sg (40 + ln6 g 0 - i) hgb hr h8 (by omega) ?_
    refine zb (fun c5 => ?_) (fun c5 => h0 (fun z => by have := (fm6_n hS z).2; omega) _ _ f1 k1)
    exact h1 ⟨c1, c2, c3, x, i, fa, sg, hS, c4, by omega⟩ x i fa sg hS ho M1 L1 f1 k1 hp h8 h9
  by_cases c4 : mfs g fa ∧ (40 + ln6 g 0 - i) % 8 ≠ 0
  · refine ⟨False, False.elim, ?_⟩
    refine bz (fun z => absurd c4.1 z) (fun _ => ?_)
    rw [show nI (40 + ln6 g 0 - i) - nI (40 + ln6 g 0 - i) / (8 : Int32) * (8 : Int32) = nI ((40 + ln6 g 0 - i) % 8) from pk_rem (d := 8) (by omega) (by decide) (by decide)]
    exact qen _ _ (fun z => absurd z c4.2) (fun _ => h0 (fun z => (fm6_n hS z).1 c4) _ _ f1 k1) rfl (by omega) (by omega)
  · refine ⟨True, fun _ => key c4, ?_⟩
    refine bz (fun _ => trivial) (fun c5 => ?_)
    rw [show nI (40 + ln6 g 0 - i) - nI (40 + ln6 g 0 - i) / (8 : Int32) * (8 : Int32) = nI ((40 + ln6 g 0 - i) % 8) from pk_rem (d := 8) (by omega) (by decide) (by decide)]
    exact qen _ _ (fun _ => trivial) (fun z => absurd ⟨c5, z⟩ c4) rfl (by omega) (by omega)
/-- what is wrong with a packet of IPv6 -/
noncomputable def ft6 (g : Nat → Nat) (x i fa : Nat) : Nat := flt g x (ofs g fa) (40 + ln6 g 0 - i) i (mfs g fa) False
noncomputable def f6 (g : Nat → Nat) (x i fa : Nat) : Nat := cI (bar6 x) 6 (cI (x = 58 ∧ fg6 g fa) 5 (cI (ft6 g x i fa ≠ 0) (ft6 g x i fa) (cI (x = 58 ∧ ¬ (ec6 (g i) ∨ er6 (g i))) 6 0)))
theorem c_faultOfSix {M : cM} {L : cL} {Z : Int32 → Prop} {g : Nat → Nat} (n x i fa sg : Nat) (hg : at8 (M 2) 2400 = g) (hp : p6 (M 13) (L 13) g 0 n x i fa sg) (h8 : M 13 8 = nI (40 + ln6 g 0 - i)) (ho : hOk 0 (40 + ln6 g 0) x i fa sg) (hn2 : 40 + ln6 g 0 ≤ 2400) (h : Z (nI (f6 g x i fa))) : wp_X6_faultOfSix_0_13 M L Z := by
  have hgb : ∀ i, g i < 256 := fun i => by rw [← hg]; exact at8_lt _ _ _
  have h3 : M 13 3 = nI x := hp.2.2.2.1
  have h7 : M 13 7 = nI i := hp.2.2.2.2.2.1
  have hr := hp.2.2.2.2.1
  have hof := ofs_lt hgb fa
  have hb9 := ho.2.2.1
  have hil := ho.2.1
  have hbh := hgb i
  unfold wp_X6_faultOfSix_0_13
  rw [h3, h7]
  refine p_neverSix x ?_ hb9 rfl
  unfold f6 at h
  refine bz (fun c1 => ?_) (fun c1 => by rw [cI_t c1] at h; exact h)
  rw [cI_f c1] at h
  by_cases c2 : x = 58 ∧ fg6 g fa
  · rw [cI_t c2] at h
    refine ⟨False, False.elim, ?_⟩
    refine qen x _ (fun c => ?_) (fun c => absurd c2.1 c) rfl (by omega) (by omega)
    refine c_fragment_13 0 fa sg hgb hr ?_
    exact bz (fun c => absurd c2.2 c) (fun c => h)
  rw [cI_f c2] at h
  refine ⟨True, fun _ => ?_, ?_⟩
  · refine c_faultOfTransport_13 x (ofs g fa) (40 + ln6 g 0 - i) i (mfs g fa) False hg ?_ h3 hr.2.1 hr.2.2.1 h7 h8 hb9 hof (by omega) (bI_f id).symm
    have hf := flt_lt g x (ofs g fa) (40 + ln6 g 0 - i) i (mfs g fa) False
    refine qen (ft6 g x i fa) _ (fun c3 => ?_) (fun c3 => by rw [cI_t c3] at h; exact h) rfl (by unfold ft6; omega) (by omega)
    rw [cI_f (fun z => z c3)] at h
    refine qe x _ (fun c4 => ?_) (fun c4 => ?_) rfl (by omega) (by omega)
    · refine c_at i hg ?_ (by omega) rfl
      refine p_echoSix (g i) ?_ hbh rfl
      refine zb (fun c5 => ?_) (fun c5 => by rw [cI_f (fun z => z.2 (Or.inl c5))] at h; exact h)
      refine p_errorSix (g i) ?_ hbh rfl
      exact bz (fun c6 => by rw [cI_t ⟨c4, fun z => z.elim c5 c6⟩] at h; exact h) (fun c6 => by rw [cI_f (fun z => z.2 (Or.inr c6))] at h; exact h)
    · rw [cI_f (fun z => c4 z.1)] at h
      have e : flt g x (ofs g fa) (40 + ln6 g 0 - i) i (mfs g fa) False = 0 := c3
      rw [e]
      exact h
  · refine qen x _ (fun c => ?_) (fun c => trivial) rfl (by omega) (by omega)
    refine c_fragment_13 0 fa sg hgb hr ?_
    exact bz (fun c5 => trivial) (fun c5 => absurd ⟨c, c5⟩ c2)
theorem f6_0 {g : Nat → Nat} {x i fa : Nat} (h : f6 g x i fa = 0) : ¬ bar6 x ∧ ¬ (x = 58 ∧ fg6 g fa) ∧ ft6 g x i fa = 0 ∧ ¬ (x = 58 ∧ ¬ (ec6 (g i) ∨ er6 (g i))) := by
  unfold f6 at h
  by_cases c1 : bar6 x
  · rw [cI_t c1] at h; exact absurd h (by decide)
  rw [cI_f c1] at h
  by_cases c2 : x = 58 ∧ fg6 g fa
  · rw [cI_t c2] at h; exact absurd h (by decide)
  rw [cI_f c2] at h
  by_cases c3 : ft6 g x i fa ≠ 0
  · rw [cI_t c3] at h; exact absurd h c3
  rw [cI_f c3] at h
  by_cases c4 : x = 58 ∧ ¬ (ec6 (g i) ∨ er6 (g i))
  · rw [cI_t c4] at h; exact absurd h (by decide)
  exact ⟨c1, c2, Classical.byContradiction c3, c4⟩
theorem f6_8 {g : Nat → Nat} {x i fa : Nat} (h : f6 g x i fa = 0) (ho : ofs g fa = 0) (hp : x = 17 ∨ x = 58 ∨ x = 6) : 8 ≤ 40 + ln6 g 0 - i ∧ (x = 6 → 20 ≤ 40 + ln6 g 0 - i) := flt_0 (f6_0 h).2.2.1 ho (by omega)
theorem f6_i {g : Nat → Nat} {x i fa : Nat} (h : f6 g x i fa = 0) (hp : x = 58) : ofs g fa = 0 ∧ ¬ mfs g fa ∧ ¬ fg6 g fa := by
  have h1 := (f6_0 h).2.1
  refine ⟨Classical.byContradiction (fun z => h1 ⟨hp, Or.inr z⟩), fun z => h1 ⟨hp, Or.inl z⟩, fun z => h1 ⟨hp, z⟩⟩
/-! the reference -/
theorem d_formed6 {M : cM} {L : cL} {x : Int32} {Z : Int32 → cM → Prop} {g : Nat → Nat} (n : Nat) (hg : at8 (M 1) 2400 = g) (hB : ∀ j, isBy (M 1 j)) (hn : n ≤ 2400)
    (h0 : ¬ fm6 g n → ∀ M', fz M M' [0] [33, 34, 35, 40, 41, 42, 43] → Z 0 M')
    (h1 : fm6 g n → ∀ x i fa sg, hdr g 0 (40 + ln6 g 0) = some (x, i, fa, sg) → hOk 0 (40 + ln6 g 0) x i fa sg → ∀ M', fz M M' [0] [33, 34, 35, 40, 41, 42, 43] → rRow M' g fa sg → M' 0 35 = nI x → M' 0 40 = nI i → M' 0 43 = nI (ln6 g 0) → Z 1 M') (hx : x = nI n) : wp_X7_isFormed6_0 M L x Z := by
  subst hx
  have hgb : ∀ i, g i < 256 := fun i => by rw [← hg]; exact at8_lt _ _ _
  have hln : ln6 g 0 < 65536 := wd8_lt hgb _
  have hb0 := hgb 0
  unfold wp_X7_isFormed6_0
  refine qs n _ (fun c => h0 (fun z => by have := z.1; omega) _ (fz_r _ _ _)) (fun c1 => ?_) rfl (by omega) (by omega)
  refine d_oct 0 hg ?_ (by omega) rfl
  rw [nI_sr4 (by omega)]
  refine qe (g 0 / 16) _ (fun c2 => ?_) (fun c => h0 (fun z => c z.2.2.1) _ (fz_r _ _ _)) rfl (by omega) (by omega)
  refine d_two 4 hg ?_ (by omega) rfl
  rintro _ rfl
  have f5 : fz M (mu M 0 43 (nI (wd8 g 4))) [0] [33, 34, 35, 40, 41, 42, 43] := mu_fz0 _ _ _ (by decide) (by decide)
  have e43 : mu M 0 43 (nI (wd8 g 4)) 0 43 = nI (ln6 g 0) := rfl
  generalize mu M 0 43 (nI (wd8 g 4)) = M5 at f5 e43 ⊢
  rw [e43, show nI n - (40 : Int32) = nI (n - 40) from pk_sub (b := 40) (by omega)]
  refine pk_lt (n - 40) (ln6 g 0) (fun c => h0 (fun z => by have := z.2.1; omega) _ f5) (fun c3 => ?_) rfl rfl (by omega) (by omega)
  refine d_headers (g := g) 0 (40 + ln6 g 0) (by rw [f5.1 1 (by decide)]; exact hg) (by rw [f5.1 1 (by decide)]; exact hB) (by omega) (by omega) (fun hN M' f' => ?_) (fun x i fa sg hS ho M' f' r' r35 r40 => ?_) rfl (nI_add 40 _)
  · refine ⟨fun z => absurd rfl z, fun _ => h0 (fun z => ?_) _ (fz_t f5 (fz_s f' (by decide) (by decide)))⟩
    obtain ⟨x, i, fa, sg, e, _⟩ := z.2.2.2
    rw [hN] at e
    injection e
  refine ⟨fun _ => ?_, fun z => absurd z (by decide)⟩
  have f8 : fz M M' [0] [33, 34, 35, 40, 41, 42, 43] := fz_t f5 (fz_s f' (by decide) (by decide))
  have r43 : M' 0 43 = nI (ln6 g 0) := (f'.2 43 (by decide)).trans e43
  have hil := ho.2.1
  rw [r43, r40, show (40 : Int32) + nI (ln6 g 0) - nI i = nI (40 + ln6 g 0 - i) from by rw [show (40 : Int32) = nI 40 from rfl, nI_add]; exact pk_sub hil]
  rintro _ rfl
  have hof := ofs_lt hgb fa
  have hfa3 : fa = NO ∨ fa < 3000 := by rcases ho.2.2.2.1 with z | z; exact Or.inl z; exact Or.inr (by omega)
  rw [r'.2.2.1]
  refine nI_neg hfa3 (fun c4 => ?_) (fun c4 => ?_)
  · refine h1 ⟨c1, by omega, c2, x, i, fa, sg, hS, fun z => z.1.1 c4, ?_⟩ x i fa sg hS ho M' f8 r' r35 r40 r43
    unfold ofs; rw [if_pos c4]; omega
  rw [r'.1, r'.2.1]
  by_cases c5 : mfs g fa ∧ (40 + ln6 g 0 - i) % 8 ≠ 0
  · refine ⟨False, False.elim, ?_⟩
    refine bz (fun z => absurd c5.1 z) (fun _ => ?_)
    rw [show nI (40 + ln6 g 0 - i) - nI (40 + ln6 g 0 - i) / (8 : Int32) * (8 : Int32) = nI ((40 + ln6 g 0 - i) % 8) from pk_rem (d := 8) (by omega) (by decide) (by decide)]
    exact qen _ _ (fun z => absurd z c5.2) (fun _ => h0 (fun z => (fm6_n hS z).1 c5) _ f8) rfl (by omega) (by omega)
  · refine ⟨True, fun _ => ?_, ?_⟩
    · refine qb (ofs g fa * 8 + (40 + ln6 g 0 - i)) _ (fun c => h0 (fun z => by have := (fm6_n hS z).2; omega) _ f8) (fun c6 => ?_) (nI_add _ _) (by omega) (by omega)
      exact h1 ⟨c1, by omega, c2, x, i, fa, sg, hS, c5, c6⟩ x i fa sg hS ho M' f8 r' r35 r40 r43
    · refine bz (fun _ => trivial) (fun c6 => ?_)
      rw [show nI (40 + ln6 g 0 - i) - nI (40 + ln6 g 0 - i) / (8 : Int32) * (8 : Int32) = nI ((40 + ln6 g 0 - i) % 8) from pk_rem (d := 8) (by omega) (by decide) (by decide)]
      exact qen _ _ (fun _ => trivial) (fun z => absurd ⟨c6, z⟩ c5) rfl (by omega) (by omega)
/-- the address of IPv4 that stands at k in the octets as an image -/
noncomputable def ad6 (g : Nat → Nat) (H Lo : Int64) (B k : Nat) : Nat := fr4 H Lo B (lN (num8 g k 8)) (lN (num8 g (k + 8) 8))
noncomputable def rv6 (g : Nat → Nat) (B k : Nat) : Nat := rdv (lN (num8 g k 8)) (lN (num8 g (k + 8) 8)) B 32
theorem ad6_v {g : Nat → Nat} {H Lo : Int64} {B k : Nat} (h : ad6 g H Lo B k < 4294967296) : rv6 g B k = ad6 g H Lo B k := (fr4_v h).symm
theorem d_addressesOf {M : cM} {L : cL} {x : Int32} {Z : Int32 → cM → cL → Prop} {g : Nat → Nat} {H Lo : Int64} {B : Nat} (a : Nat) (hg : at8 (M 1) 2400 = g) (ha : a + 40 ≤ 2400) (hm : mapR M L H Lo B)
    (h : ∀ M' L', fz M M' [0] [17, 25, 26] → fL L L' [15, 16, 27, 28, 29, 30] → L' 0 27 = lN (num8 g (a + 8) 8) → L' 0 28 = lN (num8 g (a + 16) 8) → L' 0 29 = lN (num8 g (a + 24) 8) → L' 0 30 = lN (num8 g (a + 32) 8) → M' 0 25 = nI (rv6 g B (a + 8)) → M' 0 26 = nI (rv6 g B (a + 24)) → Z (bI (ad6 g H Lo B (a + 8) < 4294967296 ∧ ad6 g H Lo B (a + 24) < 4294967296)) M' L') (hx : x = nI a) : wp_X7_addressesOf_0_1 M L x Z := by
  subst hx
  unfold wp_X7_addressesOf_0_1
  refine d_long (a + 8) hg ?_ (by omega) (nI_add _ 8)
  rintro _ rfl
  refine d_long (a + 16) hg ?_ (by omega) (nI_add _ 16)
  rintro _ rfl
  refine d_long (a + 24) hg ?_ (by omega) (nI_add _ 24)
  rintro _ rfl
  refine d_long (a + 32) hg ?_ (by omega) (nI_add _ 32)
  rintro _ rfl
  have k8 : fL L (ml (ml (ml (ml L 0 27 (lN (num8 g (a + 8) 8))) 0 28 (lN (num8 g (a + 16) 8))) 0 29 (lN (num8 g (a + 24) 8))) 0 30 (lN (num8 g (a + 32) 8))) [15, 16, 27, 28, 29, 30] := fL_t (fL_t (fL_t (ml_fL _ _ _ (by decide)) (ml_fL _ _ _ (by decide))) (ml_fL _ _ _ (by decide))) (ml_fL _ _ _ (by decide))
  have q27 : ml (ml (ml (ml L 0 27 (lN (num8 g (a + 8) 8))) 0 28 (lN (num8 g (a + 16) 8))) 0 29 (lN (num8 g (a + 24) 8))) 0 30 (lN (num8 g (a + 32) 8)) 0 27 = lN (num8 g (a + 8) 8) := rfl
  have q28 : ml (ml (ml (ml L 0 27 (lN (num8 g (a + 8) 8))) 0 28 (lN (num8 g (a + 16) 8))) 0 29 (lN (num8 g (a + 24) 8))) 0 30 (lN (num8 g (a + 32) 8)) 0 28 = lN (num8 g (a + 16) 8) := rfl
  have q29 : ml (ml (ml (ml L 0 27 (lN (num8 g (a + 8) 8))) 0 28 (lN (num8 g (a + 16) 8))) 0 29 (lN (num8 g (a + 24) 8))) 0 30 (lN (num8 g (a + 32) 8)) 0 29 = lN (num8 g (a + 24) 8) := rfl
  have q30 : ml (ml (ml (ml L 0 27 (lN (num8 g (a + 8) 8))) 0 28 (lN (num8 g (a + 16) 8))) 0 29 (lN (num8 g (a + 24) 8))) 0 30 (lN (num8 g (a + 32) 8)) 0 30 = lN (num8 g (a + 32) 8) := rfl
  generalize ml (ml (ml (ml L 0 27 (lN (num8 g (a + 8) 8))) 0 28 (lN (num8 g (a + 16) 8))) 0 29 (lN (num8 g (a + 24) 8))) 0 30 (lN (num8 g (a + 32) 8)) = L8 at k8 q27 q28 q29 q30 ⊢
  rw [q27, q28]
  refine r_isImage H Lo B (fun L11 a1 a2 => ?_) hm.2.2.2 ((k8.2 3 (by decide)).trans hm.2.1) ((k8.2 4 (by decide)).trans hm.2.2.1) hm.1
  have k11 : fL L8 L11 [15, 16, 27, 28, 29, 30] := ⟨a1, fun j hj => a2 j (fun z => hj (by rw [z]; decide)) (fun z => hj (by rw [z]; decide))⟩
  rintro _ rfl
  rw [(a2 29 (by decide) (by decide)).trans q29, (a2 30 (by decide) (by decide)).trans q30]
  refine r_isImage H Lo B (fun L15 b1 b2 => ?_) hm.2.2.2 ((a2 3 (by decide) (by decide)).trans ((k8.2 3 (by decide)).trans hm.2.1)) ((a2 4 (by decide) (by decide)).trans ((k8.2 4 (by decide)).trans hm.2.2.1)) hm.1
  have k15 : fL L11 L15 [15, 16, 27, 28, 29, 30] := ⟨b1, fun j hj => b2 j (fun z => hj (by rw [z]; decide)) (fun z => hj (by rw [z]; decide))⟩
  rintro _ rfl
  have hz := h (mu (mu (mu (mu M 0 17 (nI (rv6 g B (a + 8)))) 0 25 (nI (rv6 g B (a + 8)))) 0 17 (nI (rv6 g B (a + 24)))) 0 26 (nI (rv6 g B (a + 24)))) L15 (fz_t (fz_t (fz_t (mu_fz0 _ _ _ (by decide) (by decide)) (mu_fz0 _ _ _ (by decide) (by decide))) (mu_fz0 _ _ _ (by decide) (by decide))) (mu_fz0 _ _ _ (by decide) (by decide))) (fL_t (fL_t k8 k11) k15) ((b2 27 (by decide) (by decide)).trans ((a2 27 (by decide) (by decide)).trans q27)) ((b2 28 (by decide) (by decide)).trans ((a2 28 (by decide) (by decide)).trans q28)) ((b2 29 (by decide) (by decide)).trans ((a2 29 (by decide) (by decide)).trans q29)) ((b2 30 (by decide) (by decide)).trans ((a2 30 (by decide) (by decide)).trans q30)) rfl rfl
  refine bz (fun c => zf (Z := fun v => Z v _ _) hz (fun z => c (fr4_lt.mp z.1))) (fun c => ?_)
  exact bz (fun c2 => zf (Z := fun v => Z v _ _) hz (fun z => c2 (fr4_lt.mp z.2))) (fun c2 => zt (Z := fun v => Z v _ _) hz ⟨fr4_lt.mpr c, fr4_lt.mpr c2⟩)
