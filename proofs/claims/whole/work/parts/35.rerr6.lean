/-! the reference carries an error of IPv6 over -/
theorem lg_lt {A B : Prop} {a b : Nat} {x y : Int64} (f : a < b → A) (g : b ≤ a → B) (hx : x = lN a) (hy : y = lN b) (ha : a < 2 ^ 63) (hb : b < 2 ^ 63) : (lg_cmp x y < 0 → A) ∧ (¬ lg_cmp x y < 0 → B) := by
  subst hx hy
  rw [lg_cmp_lt, pk_lLT ha hb]
  exact ⟨f, fun z => g (by omega)⟩
theorem T6_a : ∀ i, i < 2 → T6.getD i 0 = i := by decide
theorem T6_b : ∀ i, i < 24 → 8 ≤ i → T6.getD i 0 = 12 := by decide
theorem T6_d : ∀ i, i < 40 → 24 ≤ i → T6.getD i 0 = 16 := by decide
theorem T6_e : ∀ i, i < 4 → 2 ≤ i → T6.getD i 0 = 4294967295 := by decide
theorem d_errorToFour {M : cM} {L : cL} {x y : Int32} {Z : Int32 → cM → Prop} {g : Nat → Nat} (p t c n m4 m6 : Nat) (hgb : ∀ i, g i < 256) (hb : holds (M 5) 0 (seg g p n)) (hn : 8 ≤ n) (hn2 : n ≤ 2400) (ht : er6 t) (hc : c < 256) (l4 : m4 ≤ 2000) (l6 : m6 ≤ 2000) (l6' : 1280 ≤ m6) (e4 : M 0 9 = nI m4) (e6 : M 0 10 = nI m6)
    (h0 : (ek4 t c = NO ∨ sc4 (ek4 t c) (num8 g (p + 4) 4) m4 m6 = NO) → ∀ M', fz M M' [0] [37, 38, 39] → Z 0 M')
    (h1 : ek4 t c ≠ NO → sc4 (ek4 t c) (num8 g (p + 4) 4) m4 m6 ≠ NO → ∀ M', fz M M' [0] [37, 38, 39] → M' 0 37 = nI (ek4 t c / 256) → M' 0 38 = nI (ek4 t c % 256) → M' 0 39 = nI (sc4 (ek4 t c) (num8 g (p + 4) 4) m4 m6) → Z 1 M') (hx : x = nI t) (hy : y = nI c) : wp_X7_errorToFour_0 M L x y Z := by
  subst hx hy
  unfold er6 at ht
  have hsl : (seg g p n).length = n := seg_len _ _ _
  have hw : num8 (at8 (M 5) 5000) 4 4 = num8 g (p + 4) 4 := by
    have a1 := holds_wd hb (n := 5000) (by rw [hsl]; omega) (k := 4) (by rw [hsl]; omega)
    have a2 := holds_wd hb (n := 5000) (by rw [hsl]; omega) (k := 6) (by rw [hsl]; omega)
    rw [seg_lw (by omega), Nat.zero_add] at a1 a2
    rw [num8_4, num8_4, a1, show (4 : Nat) + 2 = 6 from rfl, a2]
  have hwl : num8 g (p + 4) 4 < 4294967296 := num4_lt hgb _
  generalize num8 g (p + 4) 4 = w at h0 h1 hw hwl
  have fz3 : ∀ (a b s : Int32), fz M (mu (mu (mu M 0 37 a) 0 38 b) 0 39 s) [0] [37, 38, 39] := fun a b s => fz_t (fz_t (mu_fz0 _ _ _ (by decide) (by decide)) (mu_fz0 _ _ _ (by decide) (by decide))) (mu_fz0 _ _ _ (by decide) (by decide))
  have err : ∀ a b s, a < 256 → b < 256 → ek4 t c = a * 256 + b → sc4 (a * 256 + b) w m4 m6 = s → s ≠ NO → wp_X7_error_0 M L (nI a) (nI b) (nI s) (fun M3 => Z 1 M3) := by
    intro a b s ha hb' he hs hl
    unfold wp_X7_error_0
    rintro _ rfl _ rfl _ rfl
    exact h1 (by rw [he]; unfold NO; omega) (by rw [he, hs]; exact hl) _ (fz3 _ _ _) (by rw [he, show (a * 256 + b) / 256 = a by omega]; rfl) (by rw [he, show (a * 256 + b) % 256 = b by omega]; rfl) (by rw [he, hs]; rfl)
  unfold wp_X7_errorToFour_0
  refine r_int_5 4 ?_ (by omega) rfl
  rw [hw, l_low hwl]
  rintro _ rfl
  refine qe t _ (fun c1 => ?_) (fun c1 => ?_) rfl (by omega) (by omega)
  · subst c1
    have hek : ek4 1 c = if c < 5 then T5.getD c 0 else NO := by unfold ek4; rw [if_pos rfl]
    refine ⟨fun v => v = nI (if c = 1 then 10 else if c = 4 then 3 else 1), ?_, ?_⟩
    rotate_left
    · refine qen c _ (fun d => by rw [if_pos d]; rfl) (fun d => ?_) rfl (by omega) (by omega)
      rw [if_neg d]
      exact qen c _ (fun d2 => by rw [if_pos d2]; rfl) (fun d2 => by rw [if_neg d2]; rfl) rfl (by omega) (by omega)
    rintro _ rfl
    unfold wp_X7_error_0
    rintro _ rfl _ rfl _ rfl
    refine ⟨fun z => absurd z (nI_pos (by omega)), fun _ => ?_⟩
    refine qb c _ (fun d => h0 (Or.inl (by rw [hek, if_neg (by omega)])) _ (fz3 _ _ _)) (fun d => ?_) rfl (by omega) (by omega)
    have hv : ek4 1 c = 3 * 256 + (if c = 1 then 10 else if c = 4 then 3 else 1) := by
      rw [hek, if_pos (by omega)]
      have : c = 0 ∨ c = 1 ∨ c = 2 ∨ c = 3 ∨ c = 4 := by omega
      rcases this with rfl | rfl | rfl | rfl | rfl <;> decide
    have hv2 : (if c = 1 then 10 else if c = 4 then 3 else 1) < 11 := by split; omega; split <;> omega
    have hv3 : (if c = 1 then 10 else if c = 4 then 3 else 1) ≠ 4 := by
      split
      · decide
      · split <;> decide
    generalize (if c = 1 then 10 else if c = 4 then 3 else 1) = v at hv hv2 hv3 ⊢
    have hsc : sc4 (3 * 256 + v) w m4 m6 = 0 := by unfold sc4; rw [if_neg (by omega), if_neg (by omega)]
    refine h1 (by rw [hv]; unfold NO; omega) (by rw [hv, hsc]; decide) _ (fz3 _ _ _) (by rw [hv, show (3 * 256 + v) / 256 = 3 by omega]; rfl) (by rw [hv, show (3 * 256 + v) % 256 = v by omega]; rfl) (by rw [hv, hsc]; rfl)
  refine qe t _ (fun c2 => ?_) (fun c2 => ?_) rfl (by omega) (by omega)
  · have hek : ek4 t c = 772 := by unfold ek4; rw [if_neg c1, if_pos c2]
    have hsc : sc4 772 w m4 m6 = mt4 w m4 m6 := by unfold sc4; rw [if_pos rfl]
    have hml := mt4_l (told := w) (m6 := m6) l4
    rw [e4, e6, show nI m6 - (20 : Int32) = nI (m6 - 20) from pk_sub (b := 20) (by omega), nI_l (by omega), nI_l (by omega)]
    obtain ⟨u, hu⟩ : ∃ u, (m4 ≤ w - 20 ∧ u = m4) ∨ (w - 20 < m4 ∧ u = w - 20) := by
      by_cases q : m4 ≤ w - 20
      · exact ⟨m4, Or.inl ⟨q, rfl⟩⟩
      · exact ⟨w - 20, Or.inr ⟨by omega, rfl⟩⟩
    obtain ⟨v, hv⟩ : ∃ v, (m6 - 20 ≤ u ∧ v = m6 - 20) ∨ (u < m6 - 20 ∧ v = u) := by
      by_cases q : m6 - 20 ≤ u
      · exact ⟨m6 - 20, Or.inl ⟨q, rfl⟩⟩
      · exact ⟨u, Or.inr ⟨by omega, rfl⟩⟩
    refine ⟨fun z => z = lN (w - 20), ?_, ?_⟩
    rotate_left
    · refine lg_ge (b := 20) (fun d => lN_sub (b := 20) d) (fun d => by rw [show w - 20 = 0 by omega]; rfl) rfl rfl (by omega) (by omega)
    rintro _ rfl
    refine ⟨fun z => z = lN u, ?_, ?_⟩
    rotate_left
    · exact lg_ge (fun d => congrArg lN (by omega)) (fun d => congrArg lN (by omega)) rfl rfl (by omega) (by omega)
    rintro _ rfl
    refine ⟨fun z => z = lN v, ?_, ?_⟩
    rotate_left
    · exact lg_ge (fun d => congrArg lN (by omega)) (fun d => congrArg lN (by omega)) rfl rfl (by omega) (by omega)
    rintro _ rfl
    rw [lN_i]
    refine err 3 4 v (by decide) (by decide) hek ?_ (NO_ne (by omega))
    rw [show 3 * 256 + 4 = 772 from rfl, hsc]
    unfold mt4
    dsimp only
    have a1 := ite_or (m6 - 20 < m4) (m6 - 20) m4
    generalize (if m6 - 20 < m4 then m6 - 20 else m4) = k1 at a1 ⊢
    have a2 := ite_or (k1 < w - 20) k1 (w - 20)
    generalize (if k1 < w - 20 then k1 else w - 20) = k2 at a2 ⊢
    clear err h0 h1 hml hsl
    omega
  refine qe t _ (fun c3 => ?_) (fun c3 => ?_) rfl (by omega) (by omega)
  · have hek : ek4 t c = 11 * 256 + c := by unfold ek4; rw [if_neg c1, if_neg c2, if_pos c3]
    exact err 11 c 0 (by decide) hc hek (by unfold sc4; rw [if_neg (by omega), if_neg (by omega)]) (by decide)
  have hek : ek4 t c = if c = 0 then 3072 else if c = 1 then 770 else NO := by unfold ek4; rw [if_neg c1, if_neg c2, if_neg c3]
  refine qen c _ (fun d => ?_) (fun d1 => ?_) rfl (by omega) (by omega)
  · exact err 3 2 0 (by decide) (by decide) (by rw [hek, if_neg (by omega), if_pos d]) (by unfold sc4; rw [if_neg (by decide), if_neg (by decide)]) (by decide)
  have hpl := pt4_l w
  refine ⟨fun v => v = nI (pt4 w), ?_, ?_⟩
  · rintro _ rfl
    unfold wp_X7_error_0
    rintro _ rfl _ rfl _ rfl
    refine qen c _ (fun d => ?_) (fun d => h0 (Or.inl (by rw [hek, if_neg d, if_neg d1])) _ (fz3 _ _ _)) rfl (by omega) (by omega)
    have hek0 : ek4 t c = 3072 := by rw [hek, if_pos d]
    have hsc : sc4 3072 w m4 m6 = if pt4 w = NO then NO else pt4 w * 16777216 := by unfold sc4; rw [if_neg (by decide), if_pos rfl]
    refine nI_neg (by omega) (fun z => h0 (Or.inr (by rw [hek0, hsc, if_pos z])) _ (fz3 _ _ _)) (fun z => ?_)
    rw [if_neg z] at hsc
    have hp16 := hpl.resolve_left z
    refine h1 (by rw [hek0]; decide) (by rw [hek0, hsc]; unfold NO; omega) _ (fz3 _ _ _) (by rw [hek0]; rfl) (by rw [hek0]; rfl) ?_
    rw [hek0, hsc]
    show nI (pt4 w) <<< ((24 : Int32) &&& 31) = _
    exact pk_shlN (n := pt4 w) ((24 : Int32) &&& 31) 24 (by decide) (by omega)
  · unfold pt4
    refine lg_ge (b := 2) (fun q1 => ?_) (fun q1 => ?_) rfl rfl (by omega) (by omega)
    rotate_left
    · rw [lN_i, if_pos (by omega), T6_a w q1]
    by_cases q45 : w = 4 ∨ w = 5
    · refine ⟨True, fun _ => ?_, ?_⟩
      · rw [if_pos (by omega)]
        rcases q45 with rfl | rfl <;> decide
      · refine lg_eq (b := 4) (fun _ => trivial) (fun q4 => ?_) rfl rfl (by omega) (by omega)
        exact lg_eqn (b := 5) (fun _ => trivial) (fun q5 => by omega) rfl rfl (by omega) (by omega)
    refine ⟨False, False.elim, ?_⟩
    refine lg_eq (b := 4) (fun z => by omega) (fun q4 => ?_) rfl rfl (by omega) (by omega)
    refine lg_eqn (b := 5) (fun z => by omega) (fun q5 => ?_) rfl rfl (by omega) (by omega)
    refine lg_eqn (b := 6) (fun q6 => ?_) (fun q6 => ?_) rfl rfl (by omega) (by omega)
    · subst q6; decide
    refine lg_eqn (b := 7) (fun q7 => ?_) (fun q7 => ?_) rfl rfl (by omega) (by omega)
    · subst q7; decide
    by_cases q8 : 8 ≤ w ∧ w < 24
    · refine ⟨False, False.elim, ?_⟩
      refine lg_lt (b := 8) (fun z => by omega) (fun _ => ?_) rfl rfl (by omega) (by omega)
      exact lg_ge (b := 24) (fun z => by omega) (fun _ => by rw [if_pos (by omega), T6_b w q8.2 q8.1]; rfl) rfl rfl (by omega) (by omega)
    refine ⟨True, fun _ => ?_, ?_⟩
    rotate_left
    · refine lg_lt (b := 8) (fun z => trivial) (fun q9 => ?_) rfl rfl (by omega) (by omega)
      exact lg_ge (b := 24) (fun z => trivial) (fun z => by omega) rfl rfl (by omega) (by omega)
    by_cases q10 : 24 ≤ w ∧ w < 40
    · refine ⟨False, False.elim, ?_⟩
      refine lg_lt (b := 24) (fun z => by omega) (fun _ => ?_) rfl rfl (by omega) (by omega)
      exact lg_ge (b := 40) (fun z => by omega) (fun _ => by rw [if_pos q10.2, T6_d w q10.2 q10.1]; rfl) rfl rfl (by omega) (by omega)
    have e : (-1 : Int32) = nI (if w < 40 then T6.getD w 0 else NO) := by
      by_cases q11 : w < 40
      · rw [if_pos q11, T6_e w (by omega) q1]; exact nI_m1.symm
      · rw [if_neg q11]; exact nI_m1.symm
    refine ⟨True, fun _ => e, ?_⟩
    refine lg_lt (b := 24) (fun z => trivial) (fun q9 => ?_) rfl rfl (by omega) (by omega)
    exact lg_ge (b := 40) (fun z => trivial) (fun z => by omega) rfl rfl (by omega) (by omega)
theorem d_mend4 {M : cM} {L : cL} {x1 x2 x3 x4 x5 : Int32} {Z : cM → cL → Prop} {b : List Nat} (pr off there len a i s t A B C D W F : Nat) (hb : holds (M 5) a b) (hl : a + b.length ≤ 5000) (hi : i + there ≤ b.length) (h35 : M 0 35 = nI pr) (l3 : pr < 256) (l6 : off < 8192) (l8 : len < 65536) (h25 : M 0 25 = nI s) (h26 : M 0 26 = nI t) (ls : s < 4294967296) (lt : t < 4294967296) (hA : uN (L 0 27) = A) (hB : uN (L 0 28) = B) (hC : uN (L 0 29) = C) (hD : uN (L 0 30) = D) (hW : W = w4 A + w4 B + w4 C + w4 D) (hF : F = w2 s + w2 t) (he : pr = 58 → 4 ≤ there ∧ off = 0)
    (h : ∀ M' L', fr M M' [5] → fL L L' [18] → holds (M' 5) a (cI (pr = 58) (fxE4 b i len W) (fxT b pr off there i W 16 F)) → Z M' L') (e1 : x1 = nI (a + i)) (e2 : x2 = nI there) (e3 : x3 = nI len) (e4 : x4 = nI (off * 8)) (e5 : x5 = 0) : wp_X7_mendInner_0 M L x1 x2 x3 x4 x5 Z := by
  subst e1 e2 e3 e4 e5
  have hob := holds_oct hb
  have hfp : fxp pr ≤ 16 := by unfold fxp; split <;> omega
  unfold wp_X7_mendInner_0
  rw [h35]
  refine ql (off * 8) _ (fun c => ?_) (fun c => ?_) rfl (by omega) (by omega)
  · refine ⟨fun v => v = nI 58, ?_, ⟨fun _ => rfl, fun c => absurd rfl c⟩⟩
    rintro _ rfl
    refine pn_eq pr 58 (fun c1 => ?_) (fun c1 => ?_) rfl rfl (by omega) (by omega)
    · rw [cI_t c1] at h
      exact r_echo4 a i len A B C D W hb hl (by have := (he c1).1; omega) l8 hA hB hC hD hW h rfl rfl rfl
    · rw [cI_f c1] at h
      unfold fxT at h
      by_cases c2 : pr = 17 ∨ pr = 6
      · refine ⟨True, fun _ => ?_, ?_⟩
        · refine d_sumAt pr ?_ l3 rfl
          refine pk_lt there (fxp pr + 2) (fun c3 => ?_) (fun c3 => ?_) rfl (nI_add _ 2) (by omega) (by omega)
          · rw [cI_f (fun z => by have := z.2.2.1; omega)] at h
            exact h M L (fr_r _ _) (fL_r _ _) hb
          · have hwl := lw_lt hob (i + fxp pr)
            have hw := holds_wd hb (n := 5000) (by omega) (k := i + fxp pr) (by omega)
            rw [nI_add, show a + i + fxp pr = a + (i + fxp pr) by omega]
            by_cases c4 : pr = 17 ∧ lw b (i + fxp pr) = 0
            · rw [cI_f (fun z => z.2.2.2 c4)] at h
              refine ⟨False, False.elim, ?_⟩
              refine qen pr _ (fun _ => ?_) (fun z => absurd c4.1 z) rfl (by omega) (by omega)
              refine r_two_5 (a + (i + fxp pr)) ?_ (by omega) rfl
              rw [hw]
              exact qe _ _ (fun _ => h M L (fr_r _ _) (fL_r _ _) hb) (fun z => absurd c4.2 z) rfl (by omega) (by omega)
            · rw [cI_t ⟨c2, by omega, c3, c4⟩] at h
              refine ⟨True, fun _ => ?_, ?_⟩
              · exact r_adjust a pr (i + fxp pr) s t A B C D W 16 F False hb hl (by omega) l3 h25 h26 ls lt hA hB hC hD (Or.inr ⟨id, hF, rfl, hW⟩) h rfl rfl (bI_f id).symm
              · refine qen pr _ (fun c5 => ?_) (fun z => trivial) rfl (by omega) (by omega)
                refine r_two_5 (a + (i + fxp pr)) ?_ (by omega) rfl
                rw [hw]
                exact qe _ _ (fun c6 => absurd ⟨c5, c6⟩ c4) (fun z => trivial) rfl (by omega) (by omega)
        · refine qe pr _ (fun _ => trivial) (fun c3 => ?_) rfl (by omega) (by omega)
          exact qen pr _ (fun _ => trivial) (fun c4 => by omega) rfl (by omega) (by omega)
      · rw [cI_f (fun z => c2 z.1)] at h
        refine ⟨False, False.elim, ?_⟩
        refine qe pr _ (fun c3 => by omega) (fun c3 => ?_) rfl (by omega) (by omega)
        exact qen pr _ (fun c4 => by omega) (fun c4 => h M L (fr_r _ _) (fL_r _ _) hb) rfl (by omega) (by omega)
  · have : pr ≠ 58 := fun z => by have := (he z).2; omega
    rw [cI_f this, fxT, cI_f (fun z => by have := z.2.1; omega)] at h
    exact h M L (fr_r _ _) (fL_r _ _) hb
theorem d_innerToFour {M : cM} {L : cL} {y z : Int32} {Z : Int32 → cM → cL → Prop} {g : Nat → Nat} {H Lo : Int64} {B : Nat} (a e : Nat) (kp : Prop) (hg : at8 (M 1) 2400 = g) (hBy : ∀ j, isBy (M 1 j)) (ha : 48 ≤ a) (hae : a ≤ e) (he : e ≤ 2400) (hm : mapR M L H Lo B) (hk : M 0 11 = bI kp) (ho : outR M [])
    (h0 : ¬ (a + 40 ≤ e ∧ g a / 16 = 6 ∧ ∃ x i fa sg, hdr g a (lm6 g a e) = some (x, i, fa, sg) ∧ in6 g H Lo B a e x i fa) → ∀ M' L', fz M M' [0, 3, 5] [17, 20, 24, 25, 26, 33, 34, 35, 40, 41, 42] → fL L L' [15, 16, 18, 27, 28, 29, 30] → outR M' [] → Z 0 M' L')
    (h1 : a + 40 ≤ e → g a / 16 = 6 → ∀ x i fa sg, hdr g a (lm6 g a e) = some (x, i, fa, sg) → hOk a (lm6 g a e) x i fa sg → in6 g H Lo B a e x i fa → ∀ M' L', fz M M' [0, 3, 5] [17, 20, 24, 25, 26, 33, 34, 35, 40, 41, 42] → fL L L' [15, 16, 18, 27, 28, 29, 30] → outR M' [] → holds (M' 5) 8 (il4 g H Lo B kp a e x i fa) → M' 0 24 = nI (8 + (20 + (lm6 g a e - i))) → Z 1 M' L') (hx : y = nI a) (hy : z = nI (e - a)) : wp_X7_innerToFour_0 M L y z Z := by
  subst hx hy
  have hgb : ∀ i, g i < 256 := fun i => by rw [← hg]; exact at8_lt _ _ _
  have hln : ln6 g a < 65536 := wd8_lt hgb _
  have hb0 := hgb a
  unfold wp_X7_innerToFour_0
  refine qs (e - a) _ (fun c => h0 (fun z => by have := z.1; omega) _ _ (fz_r _ _ _) (fL_r _ _) ho) (fun c1 => ?_) rfl (by omega) (by omega)
  have ha40 : a + 40 ≤ e := by omega
  obtain ⟨q1, q2, q3⟩ := lm6_le (g := g) ha40
  refine d_oct a hg ?_ (by omega) rfl
  rw [nI_sr4 (by omega)]
  refine qe (g a / 16) _ (fun c2 => ?_) (fun c => h0 (fun z => c z.2.1) _ _ (fz_r _ _ _) (fL_r _ _) ho) rfl (by omega) (by omega)
  refine d_two (a + 4) hg ?_ (by omega) (nI_add _ 4)
  refine ⟨fun v => v = nI (lm6 g a e - a), ?_, ?_⟩
  rotate_left
  · unfold lm6
    refine pk_le (40 + ln6 g a) (e - a) (fun c => ?_) (fun c => ?_) (nI_add 40 _) rfl (by omega) (by omega)
    · rw [show (40 : Int32) + nI (wd8 g (a + 4)) = nI (40 + ln6 g a) from nI_add 40 _]
      refine congrArg nI ?_
      split <;> omega
    · refine congrArg nI ?_
      split <;> omega
  rintro _ rfl
  rw [show nI a + nI (lm6 g a e - a) = nI (lm6 g a e) from by rw [nI_add]; congr 1; omega]
  rintro _ rfl
  refine d_headers a (lm6 g a e) hg hBy q1 (by omega) (fun hN M8 f8 => ?_) (fun x i fa sg hS hok M8 f8 r8 r35 r40 => ?_) rfl rfl
  · refine ⟨fun _ => h0 (fun z => ?_) _ _ (fz_s f8 (by decide) (by decide)) (fL_r _ _) (outR_f ho f8 (by decide) (by decide) (by decide) (by decide)), fun z => absurd rfl z⟩
    obtain ⟨x, i, fa, sg, e1, _⟩ := z.2.2
    rw [hN] at e1
    injection e1
  refine ⟨fun z => absurd z (by decide), fun _ => ?_⟩
  have inv : ∀ P : Prop, (in6 g H Lo B a e x i fa → P) → (a + 40 ≤ e ∧ g a / 16 = 6 ∧ ∃ x i fa sg, hdr g a (lm6 g a e) = some (x, i, fa, sg) ∧ in6 g H Lo B a e x i fa) → P := by
    intro P hP z
    obtain ⟨x', i', fa', sg', e1, h2⟩ := z.2.2
    rw [hS] at e1
    injection e1 with e1
    injection e1 with a1 e1
    injection e1 with a2 e1
    injection e1 with a3 a4
    subst a1 a2 a3 a4
    exact hP h2
  have hg8 : at8 (M8 1) 2400 = g := by rw [f8.1 1 (by decide)]; exact hg
  refine d_addressesOf (H := H) (Lo := Lo) (B := B) a hg8 (by omega) (mapR_f hm f8 (fL_r L []) (by decide) (by decide) (by decide)) (fun M11 L12 f11 k12 e27 e28 e29 e30 e25 e26 => ?_) rfl
  have k12' : fL L L12 [15, 16, 18, 27, 28, 29, 30] := fL_s k12 (by decide)
  have f11' : fz M M11 [0, 3, 5] [17, 20, 24, 25, 26, 33, 34, 35, 40, 41, 42] := fz_t (fz_s f8 (by decide) (by decide)) (fz_s f11 (by decide) (by decide))
  have o11 : outR M11 [] := outR_f (outR_f ho f8 (by decide) (by decide) (by decide) (by decide)) f11 (by decide) (by decide) (by decide) (by decide)
  have p20 : M11 0 20 = nI 0 := o11.2.1
  have p33 : M11 0 33 = nI (ofs g fa * 8) := (f11.2 33 (by decide)).trans r8.1
  have p34 : M11 0 34 = bI (mfs g fa) := (f11.2 34 (by decide)).trans r8.2.1
  have p41 : M11 0 41 = nI fa := (f11.2 41 (by decide)).trans r8.2.2.1
  have p35 : M11 0 35 = nI x := (f11.2 35 (by decide)).trans r35
  have p40 : M11 0 40 = nI i := (f11.2 40 (by decide)).trans r40
  have hg11 : at8 (M11 1) 2400 = g := by rw [f11'.1 1 (by decide)]; exact hg
  have hx2 := hok.2.2.1
  have hil := hok.2.1
  have hi40 := hok.1
  have hof := ofs_lt hgb fa
  have hbi := hgb i
  have hfa3 : fa = NO ∨ fa < 3000 := by rcases hok.2.2.2.1 with z | z; exact Or.inl z; exact Or.inr (by omega)
  refine bz (fun c => h0 (inv _ (fun z => c ⟨z.1, z.2.1⟩)) _ _ f11' k12' o11) (fun c3 => ?_)
  rw [p35]
  refine r_barred6 x ?_ hx2 rfl
  refine bz (fun c4 => ?_) (fun c => h0 (inv _ (fun z => z.2.2.1 c)) _ _ f11' k12' o11)
  rw [p40, show nI (lm6 g a e) - nI i = nI (lm6 g a e - i) from pk_sub hil]
  rintro _ rfl
  rw [p33, p34]
  refine ⟨fun v => v = bI (fg6 g fa), ?_, ?_⟩
  rotate_left
  · by_cases c : fg6 g fa
    · rw [bI_t c]
      refine ⟨True, fun _ => rfl, ?_⟩
      refine zb (fun c8 => ?_) (fun _ => trivial)
      exact ql (ofs g fa * 8) _ (fun c9 => absurd c (fun z => z.elim c8 (fun y => y (by omega)))) (fun _ => trivial) rfl (by omega) (by omega)
    · rw [bI_f c]
      refine ⟨False, False.elim, ?_⟩
      refine zb (fun c8 => ?_) (fun c8 => c (Or.inl c8))
      exact ql (ofs g fa * 8) _ (fun c9 => rfl) (fun c9 => (c (Or.inr (by omega))).elim) rfl (by omega) (by omega)
  rintro _ rfl
  rw [show nI a + (40 : Int32) + nI (wd8 g (a + 4)) - nI i = nI (a + 40 + ln6 g a - i) from by rw [show nI a + (40 : Int32) = nI (a + 40) from nI_add _ 40, nI_add]; exact pk_sub (by unfold ln6 at q3; omega)]
  by_cases hi : x = 58 → ¬ fg6 g fa ∧ 4 ≤ lm6 g a e - i ∧ ec6 (g i)
  rotate_left
  · have hni : ¬ in6 g H Lo B a e x i fa := fun z => hi z.2.2.2.2
    have hp1 : x = 58 := Classical.byContradiction (fun z => hi (fun y => absurd y z))
    refine ⟨False, False.elim, ?_⟩
    refine qen x _ (fun c8 => ?_) (fun z => absurd hp1 z) rfl (by omega) (by omega)
    refine zb (fun c9 => ?_) (fun _ => h0 (inv _ hni) _ _ f11' k12' o11)
    refine qs (lm6 g a e - i) _ (fun _ => h0 (inv _ hni) _ _ f11' k12' o11) (fun c10 => ?_) rfl (by omega) (by omega)
    refine d_oct i hg11 ?_ (by omega) rfl
    refine qe (g i) _ (fun z8 => hi (fun _ => ⟨c9, c10, Or.inl z8⟩)) (fun z8 => ?_) rfl (by omega) (by omega)
    refine d_oct i hg11 ?_ (by omega) rfl
    exact qe (g i) _ (fun z0 => hi (fun _ => ⟨c9, c10, Or.inr z0⟩)) (fun _ => h0 (inv _ hni) _ _ f11' k12' o11) rfl (by omega) (by omega)
  refine ⟨True, fun _ => ?_, ?_⟩
  rotate_left
  · refine qen x _ (fun c8 => ?_) (fun _ => trivial) rfl (by omega) (by omega)
    obtain ⟨i1, i2, i3⟩ := hi c8
    refine zb (fun _ => ?_) (fun z => absurd z i1)
    refine qs (lm6 g a e - i) _ (fun z => by omega) (fun _ => ?_) rfl (by omega) (by omega)
    refine d_oct i hg11 ?_ (by omega) rfl
    refine qe (g i) _ (fun _ => trivial) (fun z8 => ?_) rfl (by omega) (by omega)
    refine d_oct i hg11 ?_ (by omega) rfl
    exact qe (g i) _ (fun _ => trivial) (fun z0 => absurd i3 (fun y => y.elim z8 z0)) rfl (by omega) (by omega)
  rintro _ rfl
  refine ql (20 + (a + 40 + ln6 g a - i)) _ (fun c5 => ?_) (fun c5 => h0 (inv _ (fun z => by have := z.2.2.2.1; omega)) _ _ f11' k12' o11) (nI_add 20 _) (by omega) (by omega)
  have hin : in6 g H Lo B a e x i fa := ⟨c3.1, c3.2, c4, c5, hi⟩
  rw [p20]
  rintro _ rfl
  refine r_more 0 20 (fun M21 w21 => ?_) p20 (by omega) rfl
  rw [Nat.zero_add]
  have f22 : fz M (mu M21 0 20 (nI 20)) [0, 3, 5] [17, 20, 24, 25, 26, 33, 34, 35, 40, 41, 42] := fz_t (fz_t f11' (wr_fz w21 (by decide) (by decide))) (mu_fz0 _ _ _ (by decide) (by decide))
  have z22 : holds (mu M21 0 20 (nI 20) 3) 0 (zs (20 + 0)) := w21.2.2
  have g22 : fz M11 (mu M21 0 20 (nI 20)) [0, 3] [20] := fz_t (wr_fz w21 (by decide) (by decide)) (mu_fz0 _ _ _ (by decide) (by decide))
  generalize mu M21 0 20 (nI 20) = M22 at f22 z22 g22 ⊢
  have hg22 : at8 (M22 1) 2400 = g := by rw [f22.1 1 (by decide)]; exact hg
  rw [(g22.2 33 (by decide)).trans p33, (g22.2 34 (by decide)).trans p34, (g22.2 41 (by decide)).trans p41, show (20 : Int32) + nI (a + 40 + ln6 g a - i) = nI (20 + (a + 40 + ln6 g a - i)) from nI_add 20 _]
  have nneg : ∀ {A C : Prop}, (fa ≠ NO → A) → (fa = NO → C) → (0 ≤ nI fa → A) ∧ (¬ 0 ≤ nI fa → C) := by
    intro A C f1 f2
    rcases hfa3 with q | q
    · subst q; exact ⟨fun z => absurd z (by decide), fun _ => f2 rfl⟩
    · exact ⟨fun _ => f1 (NO_ne q), fun z => absurd (nI_pos' (by omega)) z⟩
  refine ⟨fun v => v = nI (ids g fa), ?_, ?_⟩
  rotate_left
  · refine nneg (fun q => ?_) (fun q => ?_)
    · have := (hok.2.2.2.1).resolve_left q
      refine d_two (fa + 6) hg22 ?_ (by omega) (nI_add _ 6)
      unfold ids; rw [if_neg q]
    · unfold ids; rw [if_pos q]; rfl
  rintro _ rfl
  refine d_class6 a hg22 c2 ?_ (by omega) rfl
  refine ⟨fun v => v = bI (fa = NO ∧ 1260 < 20 + (a + 40 + ln6 g a - i)), ?_, ?_⟩
  rotate_left
  · by_cases c : fa = NO ∧ 1260 < 20 + (a + 40 + ln6 g a - i)
    · rw [bI_t c]
      refine ⟨False, False.elim, ?_⟩
      refine nneg (fun q => q c.1) (fun q => ?_)
      exact ql (20 + (a + 40 + ln6 g a - i)) _ (fun z => by omega) (fun _ => rfl) rfl (by omega) (by omega)
    · rw [bI_f c]
      refine ⟨True, fun _ => rfl, ?_⟩
      refine nneg (fun q => trivial) (fun q => ?_)
      exact ql (20 + (a + 40 + ln6 g a - i)) _ (fun _ => trivial) (fun z => (c ⟨q, z⟩).elim) rfl (by omega) (by omega)
  rintro _ rfl
  refine d_oct (a + 7) hg22 ?_ (by omega) (nI_add _ 7)
  have ltc : tc6 g a < 256 := Nat.mod_lt _ (by decide)
  refine d_head4 0 (tc6 g a) (20 + (a + 40 + ln6 g a - i)) (ids g fa) (ofs g fa * 8) (g (a + 7)) x (ad6 g H Lo B (a + 8)) (ad6 g H Lo B (a + 24)) 0 kp (fa = NO ∧ 1260 < 20 + (a + 40 + ln6 g a - i)) (mfs g fa) (by rw [f22.2 11 (by decide)]; exact hk) (by rw [g22.2 25 (by decide), e25, ad6_v c3.1]) (by rw [g22.2 26 (by decide), e26, ad6_v c3.2]) ((g22.2 35 (by decide)).trans p35) hx2 ltc (by omega) z22 (by omega) (fun M26 L28 w26 k28 => ?_) rfl rfl rfl rfl rfl rfl rfl rfl
  rw [show zs 0 = [] from rfl, List.append_nil] at w26
  have w26' : wr M22 M26 3 0 (ih4 g H Lo B kp a x i fa) := w26
  have ihl := ih4_len g H Lo B kp a x i fa
  refine ⟨fun y M28 => ∃ j, j ≤ 20 ∧ y = nI j ∧ wr M26 M28 5 8 (seg (at8 (M26 3) 16000) 0 j), fun y _ => 20 - y.toNatClampNeg, ⟨0, Nat.zero_le _, rfl, wr_nil _ _ _⟩, ?_⟩
  rintro _ M28 ⟨j, hj', rfl, w28⟩
  refine qg j _ (fun cj => ?_) (fun cj => ?_) rfl (by omega) (by omega)
  rotate_left
  · rw [show nI 0 + nI j = nI (0 + j) from nI_add _ _, show (8 : Int32) + nI j = nI (8 + j) from nI_add 8 _, nI_clamp (by omega), nI_clamp (by omega)]
    refine ⟨vp_in_nI (by omega) (by decide), vp_in_nI (by omega) (by decide), ?_⟩
    rintro _ rfl _ rfl
    refine ⟨⟨j + 1, by omega, nI_1 _, cp_step w28 (by decide) (by omega)⟩, ?_⟩
    dsimp only
    rw [nI_1, nI_clamp (by omega), nI_clamp (by omega)]
    omega
  have ej : j = 20 := by omega
  subst ej
  rw [seg_all w26'.2.2 (by rw [ihl]; omega) ihl.symm] at w28
  rintro _ rfl
  have b28 : holds (mu M28 0 20 (nI 0) 5) 8 (ih4 g H Lo B kp a x i fa) := w28.2.2
  have f30 : fz M (mu M28 0 20 (nI 0)) [0, 3, 5] [17, 20, 24, 25, 26, 33, 34, 35, 40, 41, 42] := fz_t (fz_t (fz_t f22 (wr_fz w26' (by decide) (by decide))) (wr_fz w28 (by decide) (by decide))) (mu_fz0 _ _ _ (by decide) (by decide))
  have g30 : fz M11 (mu M28 0 20 (nI 0)) [0, 3, 5] [20] := fz_t (fz_t (fz_t (fz_s g22 (by decide) (by decide)) (wr_fz w26' (by decide) (by decide))) (wr_fz w28 (by decide) (by decide))) (mu_fz0 _ _ _ (by decide) (by decide))
  have s20 : mu M28 0 20 (nI 0) 0 20 = 0 := rfl
  generalize mu M28 0 20 (nI 0) = M30 at b28 f30 g30 s20 ⊢
  have hg30 : at8 (M30 1) 2400 = g := by rw [f30.1 1 (by decide)]; exact hg
  refine ⟨fun y M32 => ∃ j, j ≤ lm6 g a e - i ∧ y = nI j ∧ wr M30 M32 5 28 (seg (at8 (M30 1) 2400) i j), fun y _ => lm6 g a e - i - y.toNatClampNeg, ⟨0, Nat.zero_le _, rfl, wr_nil _ _ _⟩, ?_⟩
  rintro _ M32 ⟨j, hj, rfl, w32⟩
  have r40' : M32 0 40 = nI i := by rw [w32.1 0 (by decide)]; exact (g30.2 40 (by decide)).trans p40
  refine pk_le (lm6 g a e - i) j (fun cj => ?_) (fun cj => ?_) rfl rfl (by omega) (by omega)
  rotate_left
  · rw [r40', nI_add, show (28 : Int32) + nI j = nI (28 + j) from nI_add 28 _, nI_clamp (by omega), nI_clamp (by omega)]
    refine ⟨vp_in_nI (by omega) (by decide), vp_in_nI (by omega) (by decide), ?_⟩
    rintro _ rfl _ rfl
    refine ⟨⟨j + 1, by omega, nI_1 _, cp_step w32 (by decide) (by omega)⟩, ?_⟩
    dsimp only
    rw [nI_1, nI_clamp (by omega), nI_clamp (by omega)]
    omega
  have ej2 : j = lm6 g a e - i := by omega
  subst ej2
  rw [hg30] at w32
  rw [show (28 : Int32) + nI (lm6 g a e - i) = nI (8 + (20 + (lm6 g a e - i))) from by rw [show (28 : Int32) = nI 28 from rfl, nI_add]; congr 1; omega]
  rintro _ rfl
  have b32 : holds (mu M32 0 24 (nI (8 + (20 + (lm6 g a e - i)))) 5) 8 (i04 g H Lo B kp a e x i fa) := by
    show holds (M32 5) 8 (ih4 g H Lo B kp a x i fa ++ seg g i (lm6 g a e - i))
    rw [holds_app, ihl]
    exact ⟨wr_keep w32 b28 (Or.inl (by rw [ihl]; omega)), w32.2.2⟩
  have f34 : fz M (mu M32 0 24 (nI (8 + (20 + (lm6 g a e - i))))) [0, 3, 5] [17, 20, 24, 25, 26, 33, 34, 35, 40, 41, 42] := fz_t (fz_t f30 (wr_fz w32 (by decide) (by decide))) (mu_fz0 _ _ _ (by decide) (by decide))
  have g34 : fz M11 (mu M32 0 24 (nI (8 + (20 + (lm6 g a e - i))))) [0, 3, 5] [20, 24] := fz_t (fz_t (fz_s g30 (by decide) (by decide)) (wr_fz w32 (by decide) (by decide))) (mu_fz0 _ _ _ (by decide) (by decide))
  have s24 : mu M32 0 24 (nI (8 + (20 + (lm6 g a e - i)))) 0 24 = nI (8 + (20 + (lm6 g a e - i))) := rfl
  have t20 : mu M32 0 24 (nI (8 + (20 + (lm6 g a e - i)))) 0 20 = 0 := (by rw [w32.1 0 (by decide)]; exact s20 : M32 0 20 = 0)
  generalize mu M32 0 24 (nI (8 + (20 + (lm6 g a e - i)))) = M34 at b32 f34 g34 s24 t20 ⊢
  have i0l := i04_len g H Lo B kp a e x i fa
  rw [(g34.2 33 (by decide)).trans p33]
  refine d_mend4 x (ofs g fa) (lm6 g a e - i) (a + 40 + ln6 g a - i) 8 20 (ad6 g H Lo B (a + 8)) (ad6 g H Lo B (a + 24)) (num8 g (a + 8) 8) (num8 g (a + 16) 8) (num8 g (a + 24) 8) (num8 g (a + 32) 8) (sm8 g (a + 8) 32) (w2 (ad6 g H Lo B (a + 8)) + w2 (ad6 g H Lo B (a + 24))) b32 (by rw [i0l]; omega) (by rw [i0l]; omega) ((g34.2 35 (by decide)).trans p35) hx2 hof (by omega) (by rw [g34.2 25 (by decide), e25, ad6_v c3.1]) (by rw [g34.2 26 (by decide), e26, ad6_v c3.2]) c3.1 c3.2 (by rw [k28.2 27 (by decide), e27, num8_u64 hgb]) (by rw [k28.2 28 (by decide), e28, num8_u64 hgb]) (by rw [k28.2 29 (by decide), e29, num8_u64 hgb]) (by rw [k28.2 30 (by decide), e30, num8_u64 hgb]) (sm8_32 hgb (a + 8)) rfl (fun z => ⟨(hi z).2.1, Classical.byContradiction (fun y => (hi z).1 (Or.inr y))⟩) (fun M35 L36 f35 k36 b35 => ?_) rfl rfl rfl rfl rfl
  have f36 : fz M34 M35 [0, 3, 5] [] := ⟨fr_s f35 (by decide), fun j _ => by rw [f35 0 (by decide)]⟩
  have f37 : fz M M35 [0, 3, 5] [17, 20, 24, 25, 26, 33, 34, 35, 40, 41, 42] := fz_t f34 (fz_s f36 (by decide) (by decide))
  refine h1 ha40 c2 x i fa sg hS hok hin M35 L36 f37 (fL_t k12' (fL_t (fL_s k28 (by decide)) (fL_s k36 (by decide)))) (outR_nil ho f37 (by decide) (by decide) ?_) b35 ?_
  · rw [f35 0 (by decide)]; exact t20
  · rw [f35 0 (by decide)]; exact s24
theorem d_toFour {M : cM} {L : cL} {y : Int32} {Z : Int32 → cM → cL → Prop} {g : Nat → Nat} {H Lo : Int64} {B : Nat} (x i fa sg s t m4 m6 : Nat) (kp : Prop) (hg : at8 (M 1) 2400 = g) (hBy : ∀ j, isBy (M 1 j)) (hok : hOk 0 (40 + ln6 g 0) x i fa sg) (hn2 : 40 + ln6 g 0 ≤ 2400) (h8l : 8 ≤ 40 + ln6 g 0 - i) (h1p : x = 58) (hnf : ofs g fa = 0 ∧ ¬ mfs g fa) (hm : mapR M L H Lo B) (hk : M 0 11 = bI kp) (ho : outR M []) (l4 : m4 ≤ 2000) (l6 : m6 ≤ 2000) (l6' : 1280 ≤ m6) (e4 : M 0 9 = nI m4) (e6 : M 0 10 = nI m6) (hb : holds (M 5) 0 (seg g i (40 + ln6 g 0 - i))) (hb24 : M 0 24 = nI (40 + ln6 g 0 - i)) (h25 : M 0 25 = nI s) (h26 : M 0 26 = nI t) (h33 : M 0 33 = nI (ofs g fa * 8)) (h34 : M 0 34 = bI (mfs g fa)) (h35 : M 0 35 = nI x) (h40 : M 0 40 = nI i) (k27 : L 0 27 = lN (num8 g 8 8)) (k28 : L 0 28 = lN (num8 g 16 8)) (k29 : L 0 29 = lN (num8 g 24 8)) (k30 : L 0 30 = lN (num8 g 32 8))
    (hec : ec6 (g i) → ∀ M' L', fz M M' [0, 3, 5] [17, 20, 24, 25, 26, 33, 34, 35, 37, 38, 39, 40, 41, 42] → fL L L' [15, 16, 18, 27, 28, 29, 30] → outR M' [] → holds (M' 5) 0 (fxE4 (seg g i (40 + ln6 g 0 - i)) 0 (40 + ln6 g 0 - i) (sm8 g 8 32)) → M' 0 24 = nI (40 + ln6 g 0 - i) → M' 0 25 = nI s → M' 0 26 = nI t → M' 0 33 = nI (ofs g fa * 8) → M' 0 34 = bI (mfs g fa) → M' 0 35 = nI x → M' 0 40 = nI i → Z 0 M' L')
    (hno : ¬ ec6 (g i) → ¬ er6 (g i) → Z 6 M L)
    (her : er6 (g i) → (be6 g H Lo B kp m4 m6 i).1 = 0 → ∀ M' L', fz M M' [0, 3, 5] [17, 20, 24, 25, 26, 33, 34, 35, 37, 38, 39, 40, 41, 42] → fL L L' [15, 16, 18, 27, 28, 29, 30] → outR M' [] → holds (M' 5) 0 (be6 g H Lo B kp m4 m6 i).2 → M' 0 24 = nI (be6 g H Lo B kp m4 m6 i).2.length → M' 0 25 = nI s → M' 0 26 = nI t → M' 0 33 = nI (ofs g fa * 8) → M' 0 34 = bI (mfs g fa) → M' 0 35 = nI x → M' 0 40 = nI i → Z 0 M' L')
    (hdr' : er6 (g i) → (be6 g H Lo B kp m4 m6 i).1 ≠ 0 → ∀ M' L', fz M M' [0, 3, 5] [17, 20, 24, 25, 26, 33, 34, 35, 37, 38, 39, 40, 41, 42] → fL L L' [15, 16, 18, 27, 28, 29, 30] → Z (nI (be6 g H Lo B kp m4 m6 i).1) M' L') (hx : y = nI (40 + ln6 g 0 - i)) : wp_X7_toFour_0 M L y Z := by
  subst hx
  have hgb : ∀ i, g i < 256 := fun i => by rw [← hg]; exact at8_lt _ _ _
  have hil := hok.2.1
  have hi40 := hok.1
  have hb0 := hgb i
  have hb1 := hgb (i + 1)
  have hW := sm8_32 hgb 8
  have hsl : (seg g i (40 + ln6 g 0 - i)).length = 40 + ln6 g 0 - i := seg_len _ _ _
  have a0 : at8 (M 5) 5000 0 = g i := by
    have := holds_at8 hb (n := 5000) (by rw [hsl]; omega) (k := 0) (by rw [hsl]; omega)
    rw [seg_lg (by omega)] at this
    exact this
  have a1 : at8 (M 5) 5000 1 = g (i + 1) := by
    have := holds_at8 hb (n := 5000) (by rw [hsl]; omega) (k := 1) (by rw [hsl]; omega)
    rw [seg_lg (by omega)] at this
    exact this
  unfold wp_X7_toFour_0
  refine r_oct_5 0 ?_ (by omega) rfl
  rw [a0]
  by_cases ce : ec6 (g i)
  · refine ⟨True, fun _ => ?_, ?_⟩
    · refine r_echo4 0 0 (40 + ln6 g 0 - i) (num8 g 8 8) (num8 g 16 8) (num8 g 24 8) (num8 g 32 8) (sm8 g 8 32) hb (by rw [hsl]; omega) (by rw [hsl]; omega) (by omega) (by rw [k27, num8_u64 hgb]) (by rw [k28, num8_u64 hgb]) (by rw [k29, num8_u64 hgb]) (by rw [k30, num8_u64 hgb]) hW (fun M1 L1 f1 s1 b1 => ?_) rfl rfl rfl
      have e0 : M1 0 = M 0 := f1 0 (by decide)
      have fz1 : fz M M1 [0, 3, 5] [17, 20, 24, 25, 26, 33, 34, 35, 37, 38, 39, 40, 41, 42] := ⟨fr_s f1 (by decide), fun j _ => by rw [e0]⟩
      exact hec ce M1 L1 fz1 (fL_s s1 (by decide)) (outR_nil ho fz1 (by decide) (by decide) (by rw [e0]; exact ho.2.1)) b1 (by rw [e0]; exact hb24) (by rw [e0]; exact h25) (by rw [e0]; exact h26) (by rw [e0]; exact h33) (by rw [e0]; exact h34) (by rw [e0]; exact h35) (by rw [e0]; exact h40)
    · refine qe (g i) _ (fun _ => trivial) (fun z8 => ?_) rfl (by omega) (by omega)
      exact qen (g i) _ (fun _ => trivial) (fun z0 => absurd ce (fun y => y.elim z8 z0)) rfl (by omega) (by omega)
  refine ⟨False, False.elim, ?_⟩
  refine qe (g i) _ (fun z => ce (Or.inl z)) (fun z8 => ?_) rfl (by omega) (by omega)
  refine qen (g i) _ (fun z => ce (Or.inr z)) (fun z0 => ?_) rfl (by omega) (by omega)
  refine qs (g i) _ (fun z => hno ce (fun y => by have := y.1; omega)) (fun r1 => ?_) rfl (by omega) (by omega)
  refine ql (g i) _ (fun r2 => ?_) (fun z => hno ce (fun y => by have := y.2; omega)) rfl (by omega) (by omega)
  have cr : er6 (g i) := ⟨r1, r2⟩
  rintro _ rfl
  refine r_pseudo0 0 (num8 g 8 8) (num8 g 16 8) (num8 g 24 8) (num8 g 32 8) (40 + ln6 g 0 - i) 58 (fun L9 s9 e9 => ?_) rfl (by rw [← num8_u64 hgb 8, ← k27]; rfl) (by rw [← num8_u64 hgb 16, ← k28]; rfl) (by rw [← num8_u64 hgb 24, ← k29]; rfl) (by rw [← num8_u64 hgb 32, ← k30]; rfl) (by omega) (by omega) rfl rfl rfl
  refine r_words_5 0 (40 + ln6 g 0 - i) _ (fun L10 s10 e10 => ?_) e9 (by omega) (by omega) rfl rfl
  have s0 := sm8_holds hb (n := 5000) (by rw [hsl]; omega)
  rw [hsl, seg_lsm] at s0
  rw [Nat.sub_zero, s0, Nat.zero_add, w2_sm (show 40 + ln6 g 0 - i < 65536 by omega), w2_sm (show 58 < 65536 by decide), ← hW] at e10
  have k10 : fL L L10 [18] := fL_t (ml_fL _ _ _ (by decide)) (sF_fL (sF_t s9 s10) (by decide))
  have k10' : fL L L10 [15, 16, 18, 27, 28, 29, 30] := fL_s k10 (by decide)
  have hfo := fo_le (sm8 g 8 32 + (40 + ln6 g 0 - i) + 58 + sm8 g i (40 + ln6 g 0 - i))
  have her' := her cr
  have hdr2 := hdr' cr
  unfold be6 at her' hdr2
  refine lg_eq (b := 65535) (fun c7 => ?_) (fun c => ?_) e10 rfl (by omega) (by omega)
  rotate_left
  · rw [cI_t c] at hdr2
    exact hdr2 (by decide) M L10 (fz_r _ _ _) k10'
  rw [cI_f (fun z => z c7)] at her' hdr2
  refine r_oct_5 1 ?_ (by omega) rfl
  rw [a1]
  have hek := ek4_l (t := g i) hb1
  have hsl4 := sc4_l (k := ek4 (g i) (g (i + 1))) (told := num8 g (i + 4) 4) (m6 := m6) l4
  refine d_errorToFour i (g i) (g (i + 1)) (40 + ln6 g 0 - i) m4 m6 hgb hb h8l (by omega) cr hb1 l4 l6 l6' e4 e6 (fun hno' M14 f14 => ?_) (fun hk1 hs1 M14 f14 e37 e38 e39 => ?_) rfl rfl
  · rw [cI_f (fun z => hno'.elim z.1 z.2.2.2)] at hdr2
    exact ⟨fun z => absurd rfl z, fun _ => hdr2 (by decide) M14 L10 (fz_s f14 (by decide) (by decide)) k10'⟩
  generalize hsc : sc4 (ek4 (g i) (g (i + 1))) (num8 g (i + 4) 4) m4 m6 = sc at her' hdr2 hsl4 hs1 e39
  generalize ek4 (g i) (g (i + 1)) = ek at her' hdr2 hek hk1 e37 e38
  have hekl : ek < 4000 := hek.resolve_left hk1
  have hscl : sc < 2147483648 := hsl4.resolve_left hs1
  refine ⟨fun _ => ?_, fun z => absurd z (by decide)⟩
  rw [(f14.2 25 (by decide)).trans h25, (f14.2 26 (by decide)).trans h26, (f14.2 40 (by decide)).trans h40]
  rintro _ rfl _ rfl _ rfl
  have hg14 : at8 (M14 1) 2400 = g := by rw [f14.1 1 (by decide)]; exact hg
  have hB14 : ∀ j, isBy (M14 1 j) := by rw [f14.1 1 (by decide)]; exact hBy
  have o14 : outR M14 [] := outR_nil ho f14 (by decide) (by decide) ((f14.2 20 (by decide)).trans ho.2.1)
  refine d_innerToFour (H := H) (Lo := Lo) (B := B) (i + 8) (40 + ln6 g 0) kp hg14 hB14 (by omega) (by omega) (by omega) (mapR_f hm f14 k10 (by decide) (by decide) (by decide)) ((f14.2 11 (by decide)).trans hk) o14 (fun hni M20 L21 f20 k21 o20 => ?_) (fun c2 c3 x' i' fa' sg' hS hok' hin M20 L21 f20 k21 o20 b20 p24 => ?_) (nI_add _ 8) (by rw [show (8 : Int32) = nI 8 from rfl, pk_sub (by omega), Nat.sub_sub])
  · rintro _ rfl _ rfl _ rfl _ rfl _ rfl _ rfl
    have h8 : ∀ M' L', fz M M' [0, 3, 5] [17, 20, 24, 25, 26, 33, 34, 35, 37, 38, 39, 40, 41, 42] → fL L L' [15, 16, 18, 27, 28, 29, 30] → Z 8 M' L' := by
      by_cases c : ek ≠ NO ∧ i + 8 + 40 ≤ 40 + ln6 g 0 ∧ g (i + 8) / 16 = 6 ∧ sc ≠ NO
      · rw [cI_t c] at hdr2
        cases hh : hdr g (i + 8) (lm6 g (i + 8) (40 + ln6 g 0)) with
        | none =>
          rw [hh] at hdr2
          exact hdr2 (show ¬ (8 : Nat) = 0 by decide)
        | some q =>
          obtain ⟨x', i', fa', sg'⟩ := q
          rw [hh] at hdr2
          dsimp only [Option.elim] at hdr2
          rw [cI_f (fun y => hni ⟨c.2.1, c.2.2.1, x', i', fa', sg', hh, y⟩)] at hdr2
          exact hdr2 (by decide)
      · rw [cI_f c] at hdr2
        exact hdr2 (by decide)
    refine ⟨fun z => absurd rfl z, fun _ => h8 _ _ ?_ (fL_t k10' k21)⟩
    refine fz_t (fz_t (fz_s f14 (by decide) (by decide)) (fz_s f20 (by decide) (by decide))) ?_
    repeat' first | exact fz_r _ _ _ | refine fz_t ?_ (mu_fz0 _ _ _ (by decide) (by decide))
  rw [cI_t ⟨hk1, c2, c3, hs1⟩, hS] at her'
  dsimp only [Option.elim] at her'
  rw [cI_t hin] at her'
  rintro _ rfl _ rfl _ rfl _ rfl _ rfl _ rfl
  refine ⟨fun _ => ?_, fun z => absurd z (by decide)⟩
  have f27 : fz M (mu (mu (mu (mu (mu (mu M20 0 25 (nI s)) 0 26 (nI t)) 0 40 (nI i)) 0 35 (58 : Int32)) 0 33 (0 : Int32)) 0 34 (0 : Int32)) [0, 3, 5] [17, 20, 24, 25, 26, 33, 34, 35, 37, 38, 39, 40, 41, 42] := by
    refine fz_t (fz_t (fz_s f14 (by decide) (by decide)) (fz_s f20 (by decide) (by decide))) ?_
    repeat' first | exact fz_r _ _ _ | refine fz_t ?_ (mu_fz0 _ _ _ (by decide) (by decide))
  have g27 : fz M14 (mu (mu (mu (mu (mu (mu M20 0 25 (nI s)) 0 26 (nI t)) 0 40 (nI i)) 0 35 (58 : Int32)) 0 33 (0 : Int32)) 0 34 (0 : Int32)) [0, 3, 5] [17, 20, 24, 25, 26, 33, 34, 35, 40, 41, 42] := by
    refine fz_t (fz_s f20 (by decide) (by decide)) ?_
    repeat' first | exact fz_r _ _ _ | refine fz_t ?_ (mu_fz0 _ _ _ (by decide) (by decide))
  have b27 : holds (mu (mu (mu (mu (mu (mu M20 0 25 (nI s)) 0 26 (nI t)) 0 40 (nI i)) 0 35 (58 : Int32)) 0 33 (0 : Int32)) 0 34 (0 : Int32) 5) 8 (il4 g H Lo B kp (i + 8) (40 + ln6 g 0) x' i' fa') := b20
  have v24 : mu (mu (mu (mu (mu (mu M20 0 25 (nI s)) 0 26 (nI t)) 0 40 (nI i)) 0 35 (58 : Int32)) 0 33 (0 : Int32)) 0 34 (0 : Int32) 0 24 = nI (8 + (20 + (lm6 g (i + 8) (40 + ln6 g 0) - i'))) := p24
  have v20 : mu (mu (mu (mu (mu (mu M20 0 25 (nI s)) 0 26 (nI t)) 0 40 (nI i)) 0 35 (58 : Int32)) 0 33 (0 : Int32)) 0 34 (0 : Int32) 0 20 = 0 := o20.2.1
  have v25 : mu (mu (mu (mu (mu (mu M20 0 25 (nI s)) 0 26 (nI t)) 0 40 (nI i)) 0 35 (58 : Int32)) 0 33 (0 : Int32)) 0 34 (0 : Int32) 0 25 = nI s := rfl
  have v26 : mu (mu (mu (mu (mu (mu M20 0 25 (nI s)) 0 26 (nI t)) 0 40 (nI i)) 0 35 (58 : Int32)) 0 33 (0 : Int32)) 0 34 (0 : Int32) 0 26 = nI t := rfl
  have v40 : mu (mu (mu (mu (mu (mu M20 0 25 (nI s)) 0 26 (nI t)) 0 40 (nI i)) 0 35 (58 : Int32)) 0 33 (0 : Int32)) 0 34 (0 : Int32) 0 40 = nI i := rfl
  have v35 : mu (mu (mu (mu (mu (mu M20 0 25 (nI s)) 0 26 (nI t)) 0 40 (nI i)) 0 35 (58 : Int32)) 0 33 (0 : Int32)) 0 34 (0 : Int32) 0 35 = nI x := by rw [h1p]; rfl
  have v33 : mu (mu (mu (mu (mu (mu M20 0 25 (nI s)) 0 26 (nI t)) 0 40 (nI i)) 0 35 (58 : Int32)) 0 33 (0 : Int32)) 0 34 (0 : Int32) 0 33 = nI (ofs g fa * 8) := by rw [hnf.1]; rfl
  have v34 : mu (mu (mu (mu (mu (mu M20 0 25 (nI s)) 0 26 (nI t)) 0 40 (nI i)) 0 35 (58 : Int32)) 0 33 (0 : Int32)) 0 34 (0 : Int32) 0 34 = bI (mfs g fa) := by rw [bI_f hnf.2]; rfl
  generalize mu (mu (mu (mu (mu (mu M20 0 25 (nI s)) 0 26 (nI t)) 0 40 (nI i)) 0 35 (58 : Int32)) 0 33 (0 : Int32)) 0 34 (0 : Int32) = M27 at f27 g27 b27 v24 v20 v25 v26 v40 v35 v33 v34 ⊢
  have ill := il4_len (H := H) (Lo := Lo) (B := B) (kp := kp) (fa := fa') (fun z => (hin.2.2.2.2 z).2.1)
  obtain ⟨q1, q2, q3⟩ := lm6_le (g := g) c2
  rw [← ill] at v24
  have ilb : (il4 g H Lo B kp (i + 8) (40 + ln6 g 0) x' i' fa').length ≤ 2400 := by rw [ill]; have := hok'.1; omega
  generalize il4 g H Lo B kp (i + 8) (40 + ln6 g 0) x' i' fa' = il at b27 v24 her' ilb
  have hbl : (if 556 < 8 + il.length then 556 else 8 + il.length) ≤ 556 := by split <;> omega
  refine ⟨fun M30 => fz M M30 [0, 3, 5] [17, 20, 24, 25, 26, 33, 34, 35, 37, 38, 39, 40, 41, 42] ∧ fz M27 M30 [0] [24] ∧ M30 0 24 = nI (if 556 < 8 + il.length then 556 else 8 + il.length), ?_, ?_⟩
  · rintro M30 ⟨f30, g30, x24⟩
    have x37 : M30 0 37 = nI (ek / 256) := ((g30.2 37 (by decide)).trans (g27.2 37 (by decide))).trans e37
    have x38 : M30 0 38 = nI (ek % 256) := ((g30.2 38 (by decide)).trans (g27.2 38 (by decide))).trans e38
    have x39 : M30 0 39 = nI sc := ((g30.2 39 (by decide)).trans (g27.2 39 (by decide))).trans e39
    have b30 : holds (M30 5) 8 il := by rw [g30.1 5 (by decide)]; exact b27
    rw [x37, x38, show nI (ek / 256) <<< ((24 : Int32) &&& 31) = nI (ek / 256 * 2 ^ 24) from pk_shlN (n := ek / 256) ((24 : Int32) &&& 31) 24 (by decide) (by omega), show nI (ek % 256) <<< ((16 : Int32) &&& 31) = nI (ek % 256 * 65536) from pk_shlN (n := ek % 256) ((16 : Int32) &&& 31) 16 (by decide) (by omega), nI_orN (by omega), show ek / 256 * 2 ^ 24 + ek % 256 * 65536 = ek * 65536 by omega]
    refine r_putInt_5 0 (ek * 65536) (fun M31 w31 => ?_) rfl (by omega) rfl
    refine r_putInt_5 4 sc (fun M32 w32 => ?_) (by rw [w31.1 0 (by decide)]; exact x39) (by omega) rfl
    have z32 := wr_app w31 w32 (by rw [bys_len])
    have l32 : holds (M32 5) 0 (mg0 ek sc il 556) := by
      refine holds_take ?_ _
      rw [← mg_e ek sc il (by omega), holds_app]
      refine ⟨z32.2.2, ?_⟩
      have := wr_keep z32 b30 (Or.inr (by simp [bys_len]))
      rw [show 0 + (bys 4 (ek * 65536) ++ bys 4 sc).length = 8 from by simp [bys_len]]
      exact this
    have hml := mg0_len ek sc il 556
    have y24 : M32 0 24 = nI (if 556 < 8 + il.length then 556 else 8 + il.length) := by rw [z32.1 0 (by decide)]; exact x24
    have hl8 : 8 ≤ (if 556 < 8 + il.length then 556 else 8 + il.length) := by split <;> omega
    rw [y24]
    generalize hq : (if 556 < 8 + il.length then 556 else 8 + il.length) = bl at hbl hml y24 hl8 ⊢
    rintro _ rfl
    refine r_words_5 0 bl 0 (fun L35 s35 e35 => ?_) rfl (by omega) (by omega) rfl rfl
    have s1 := sm8_holds l32 (n := 5000) (by rw [hml]; omega)
    rw [hml] at s1
    rw [Nat.sub_zero, s1] at e35
    refine r_checksum _ ?_ e35
    refine r_putTwo_5 2 (65535 - fo (0 + lsm (mg0 ek sc il 556))) (fun M37 w37 => ?_) rfl (by omega) rfl
    have b37 : holds (M37 5) 0 (mg ek sc 0 il 556) := by
      have w37' : wr M32 M37 5 (0 + 2) (bys 2 (65535 - fo (0 + lsm (mg0 ek sc il 556)))) := w37
      exact holds_put l32 w37' (by rw [hml]; omega)
    have e37' : M37 0 = M30 0 := (w37.1 0 (by decide)).trans (z32.1 0 (by decide))
    have f37 : fz M M37 [0, 3, 5] [17, 20, 24, 25, 26, 33, 34, 35, 37, 38, 39, 40, 41, 42] := fz_t (fz_t f30 (wr_fz z32 (by decide) (by decide))) (wr_fz w37 (by decide) (by decide))
    refine her' rfl M37 L35 f37 (fL_t (fL_t k10' k21) (fL_t (ml_fL _ _ _ (by decide)) (sF_fL s35 (by decide)))) (outR_nil ho f37 (by decide) (by decide) ?_) b37 ?_ ?_ ?_ ?_ ?_ ?_ ?_
    · rw [e37', g30.2 20 (by decide)]; exact v20
    · rw [e37', x24, mg_len (by decide), hq]
    · rw [e37', g30.2 25 (by decide)]; exact v25
    · rw [e37', g30.2 26 (by decide)]; exact v26
    · rw [e37', g30.2 33 (by decide)]; exact v33
    · rw [e37', g30.2 34 (by decide)]; exact v34
    · rw [e37', g30.2 35 (by decide)]; exact v35
    · rw [e37', g30.2 40 (by decide)]; exact v40
  · rw [v24]
    refine ql (8 + il.length) _ (fun c => ⟨f27, fz_r _ _ _, by rw [v24, if_neg (by omega)]⟩) (fun c => ?_) rfl (by omega) (by omega)
    rintro _ rfl
    exact ⟨fz_t f27 (mu_fz0 _ _ _ (by decide) (by decide)), mu_fz0 _ _ _ (by decide) (by decide), by rw [if_pos c]; rfl⟩
