/-! the reference carries an error of IPv4 over -/
def T3 : List Nat := [65535, 32000, 17914, 8166, 4352, 2002, 1492, 1006, 508, 296, 68]
theorem T3_l : ∀ i, i < 11 → T3.getD i 0 < 65536 := by decide
theorem pl_T3 (t : Nat) : pl T3 t = pl T2 t := by
  simp only [T3, T2, pl]
  split <;> simp
theorem d_plateau {M : cM} {L : cL} {x : Int32} {Z : Int32 → Prop} (t : Nat) (ht : t < 65536) (h : Z (nI (pl T2 t))) (hx : x = nI t) : wp_X7_plateau M L x Z := by
  subst hx
  rw [← pl_T3] at h
  unfold wp_X7_plateau
  rintro f0 e0 f1 e1 f2 e2 f3 e3 f4 e4 f5 e5 f6 e6 f7 e7 f8 e8 f9 e9 f10 e10 f11 e11
  have hf : ∀ i, i < 11 → f11 i = nI (T3.getD i 0) := by
    subst e11 e10 e9 e8 e7 e6 e5 e4 e3 e2 e1 e0
    decide +kernel
  clear e11 e10 e9 e8 e7 e6 e5 e4 e3 e2 e1 e0
  refine ⟨fun x => ∃ i, i ≤ 11 ∧ x = nI i ∧ pl (T3.drop i) t = pl T3 t, fun x => 11 - x.toNatClampNeg, ⟨0, by omega, rfl, rfl⟩, ?_⟩
  rintro _ ⟨i, hi, rfl, e⟩
  refine qg i _ (fun c => ?_) (fun c => ?_) rfl (by omega) (by omega)
  · have : i = 11 := by omega
    subst this
    rw [← e] at h
    exact h
  · refine ⟨vp_in_nI c (by decide), ?_⟩
    rw [nI_clamp (by omega), hf i c]
    have ed : T3.drop i = T3.getD i 0 :: T3.drop (i + 1) := by
      rw [List.drop_eq_getElem_cons (show i < T3.length from c), List.getD_eq_getElem?_getD, List.getElem?_eq_getElem (show i < T3.length from c)]; rfl
    have hl := T3_l i c
    rw [ed, pl] at e
    refine pk_le t (T3.getD i 0) (fun c1 => ?_) (fun c1 => ?_) rfl rfl (by omega) (by omega)
    · rw [if_neg (by omega)] at e
      rintro _ rfl
      refine ⟨⟨i + 1, by omega, nI_1 i, e⟩, ?_⟩
      dsimp only
      rw [nI_1, nI_clamp (by omega), nI_clamp (by omega)]
      omega
    · rw [if_pos c1] at e
      rw [e]; exact h
theorem T1_a : ∀ i, i < 20 → i < 2 → T1.getD i 0 = i := by decide
theorem T1_b : ∀ i, i < 20 → 2 ≤ i → i < 4 → T1.getD i 0 = 4 := by decide
theorem T1_c8 : T1.getD 8 0 = 7 := by decide
theorem T1_c9 : T1.getD 9 0 = 6 := by decide
theorem T1_d : ∀ i, i < 20 → 12 ≤ i → i < 16 → T1.getD i 0 = 8 := by decide
theorem T1_e : ∀ i, i < 20 → 16 ≤ i → T1.getD i 0 = 24 := by decide
theorem T1_f : ∀ i, i < 20 → 4 ≤ i → i < 12 → i ≠ 8 → i ≠ 9 → T1.getD i 0 = 4294967295 := by decide
def t1v (i : Nat) : Nat := if i < 20 then T1.getD i 0 else NO
theorem t1v_l (i : Nat) : t1v i = NO ∨ t1v i < 3000 := by
  unfold t1v
  by_cases c : i < 20
  · rw [if_pos c]; have := T1_NO i c; unfold NO; omega
  · rw [if_neg c]; exact Or.inl rfl
theorem nI_neg {n : Nat} {A B : Prop} (h : n = NO ∨ n < 3000) (f : n = NO → A) (g : n ≠ NO → B) : (nI n < 0 → A) ∧ (¬ nI n < 0 → B) := by
  rcases h with h | h
  · subst h
    exact ⟨fun _ => f rfl, fun z => absurd (by decide) z⟩
  · exact ⟨fun z => absurd z (nI_pos (by omega)), fun _ => g (by unfold NO; omega)⟩
theorem ite_or (P : Prop) [Decidable P] (a b : Nat) : (P ∧ (if P then a else b) = a) ∨ (¬ P ∧ (if P then a else b) = b) := by
  by_cases c : P
  · exact Or.inl ⟨c, if_pos c⟩
  · exact Or.inr ⟨c, if_neg c⟩
theorem d_errorToSix {M : cM} {L : cL} {x y z : Int32} {Z : Int32 → cM → Prop} {g : Nat → Nat} (p t c n m4 m6 : Nat) (hgb : ∀ i, g i < 256) (hb : holds (M 5) 0 (seg g p n)) (hn : 8 ≤ n) (hn2 : n ≤ 2400) (ht : t = 3 ∨ t = 11 ∨ t = 12) (hc : c < 256) (l4 : m4 ≤ 2000) (l6 : m6 ≤ 2000) (e4 : M 0 9 = nI m4) (e6 : M 0 10 = nI m6)
    (h0 : (ek6 t c = NO ∨ sc6 g p (ek6 t c) m4 m6 = NO) → ∀ M', fz M M' [0] [37, 38, 39] → Z 0 M')
    (h1 : ek6 t c ≠ NO → sc6 g p (ek6 t c) m4 m6 ≠ NO → ∀ M' s, fz M M' [0] [37, 38, 39] → M' 0 37 = nI (ek6 t c / 256) → M' 0 38 = nI (ek6 t c % 256) → M' 0 39 = nI s → (12 ≤ n → s = sc6 g p (ek6 t c) m4 m6) → Z 1 M') (hx : x = nI t) (hy : y = nI c) (hz : z = nI n) : wp_X7_errorToSix_0 M L x y z Z := by
  subst hx hy hz
  have err : ∀ a b s, a < 256 → b < 256 → ek6 t c = a * 256 + b → sc6 g p (ek6 t c) m4 m6 ≠ NO → (12 ≤ n → s = sc6 g p (ek6 t c) m4 m6) → wp_X7_error_0 M L (nI a) (nI b) (nI s) (fun M3 => Z 1 M3) := by
    intro a b s ha hb' he hs hs2
    unfold wp_X7_error_0
    rintro _ rfl _ rfl _ rfl
    refine h1 (by rw [he]; unfold NO; omega) hs _ s ?_ (by rw [he, show (a * 256 + b) / 256 = a by omega]; rfl) (by rw [he, show (a * 256 + b) % 256 = b by omega]; rfl) rfl hs2
    exact fz_t (fz_t (mu_fz0 _ _ _ (by decide) (by decide)) (mu_fz0 _ _ _ (by decide) (by decide))) (mu_fz0 _ _ _ (by decide) (by decide))
  have errk : ∀ a b s, a < 256 → b < 256 → ek6 t c = a * 256 + b → sc6 g p (a * 256 + b) m4 m6 = s → s < 3000 → wp_X7_error_0 M L (nI a) (nI b) (nI s) (fun M3 => Z 1 M3) := by
    intro a b s ha hb' he hs hl
    exact err a b s ha hb' he (by rw [he, hs]; unfold NO; omega) (fun _ => by rw [he, hs])
  have hb4 := hgb (p + 4)
  have hsl : (seg g p n).length = n := seg_len _ _ _
  unfold wp_X7_errorToSix_0
  refine qen t _ (fun c11 => ?_) (fun c11 => ?_) rfl (by omega) (by omega)
  · subst c11
    exact errk 3 c 0 (by decide) hc (by unfold ek6; rw [if_neg (by decide), if_pos rfl]) (by unfold sc6; rw [if_neg (by omega), if_neg (by omega), if_neg (by omega)]) (by decide)
  refine qen t _ (fun c12 => ?_) (fun c12 => ?_) rfl (by omega) (by omega)
  · subst c12
    have hp4 : at8 (M 5) 5000 4 = g (p + 4) := by
      have := holds_at8 hb (n := 5000) (by rw [hsl]; omega) (k := 4) (by rw [hsl]; omega)
      rw [Nat.zero_add, seg_lg (by omega)] at this
      exact this
    refine r_oct_5 4 ?_ (by omega) rfl
    rw [hp4]
    have hl1 := t1v_l (g (p + 4))
    refine ⟨fun v => v = nI (t1v (g (p + 4))), ?_, ?_⟩
    · rintro _ rfl
      have hek : ek6 12 c = if c = 0 ∨ c = 2 then 1024 else NO := by unfold ek6; rw [if_neg (by decide), if_neg (by decide)]
      have hsc : sc6 g p 1024 m4 m6 = t1v (g (p + 4)) := by unfold sc6 t1v; rw [if_neg (by decide), if_pos rfl]
      unfold wp_X7_error_0
      rintro _ rfl _ rfl _ rfl
      have hfz : fz M (mu (mu (mu M 0 37 (4 : Int32)) 0 38 (0 : Int32)) 0 39 (nI (t1v (g (p + 4))))) [0] [37, 38, 39] := fz_t (fz_t (mu_fz0 _ _ _ (by decide) (by decide)) (mu_fz0 _ _ _ (by decide) (by decide))) (mu_fz0 _ _ _ (by decide) (by decide))
      by_cases cc : c = 0 ∨ c = 2
      · rw [if_pos cc] at hek
        refine ⟨True, fun _ => ?_, ?_⟩
        · refine nI_neg hl1 (fun c1 => h0 (Or.inr (by rw [hek, hsc]; exact c1)) _ hfz) (fun c1 => ?_)
          refine h1 (by rw [hek]; decide) (by rw [hek, hsc]; exact c1) _ _ hfz (by rw [hek]; rfl) (by rw [hek]; rfl) rfl (fun _ => by rw [hek, hsc])
        · refine qe c _ (fun _ => trivial) (fun c3 => ?_) rfl (by omega) (by omega)
          exact qen c _ (fun _ => trivial) (fun c4 => by omega) rfl (by omega) (by omega)
      · rw [if_neg cc] at hek
        refine ⟨False, False.elim, ?_⟩
        refine qe c _ (fun c3 => by omega) (fun c3 => ?_) rfl (by omega) (by omega)
        exact qen c _ (fun c4 => by omega) (fun c4 => h0 (Or.inl hek) _ hfz) rfl (by omega) (by omega)
    · unfold t1v
      generalize g (p + 4) = i at hb4
      refine qg i _ (fun d1 => ?_) (fun d1 => by rw [if_pos (by omega), T1_a i (by omega) d1]) rfl (by omega) (by omega)
      refine qg i _ (fun d2 => ?_) (fun d2 => by rw [if_pos (by omega), T1_b i (by omega) d1 d2]; rfl) rfl (by omega) (by omega)
      refine qen i _ (fun d3 => by rw [if_pos (by omega), d3, T1_c8]; rfl) (fun d3 => ?_) rfl (by omega) (by omega)
      refine qen i _ (fun d4 => by rw [if_pos (by omega), d4, T1_c9]; rfl) (fun d4 => ?_) rfl (by omega) (by omega)
      by_cases d5 : 12 ≤ i ∧ i < 16
      · refine ⟨False, False.elim, ?_⟩
        refine qs i _ (fun d6 => by omega) (fun d6 => ?_) rfl (by omega) (by omega)
        exact qg i _ (fun d7 => by omega) (fun d7 => by rw [if_pos (by omega), T1_d i (by omega) d6 d7]; rfl) rfl (by omega) (by omega)
      · refine ⟨True, fun _ => ?_, ?_⟩
        · by_cases d6 : 16 ≤ i ∧ i < 20
          · refine ⟨False, False.elim, ?_⟩
            refine qs i _ (fun d7 => by omega) (fun d7 => ?_) rfl (by omega) (by omega)
            exact qg i _ (fun d8 => by omega) (fun d8 => by rw [if_pos d8, T1_e i d8 d7]; rfl) rfl (by omega) (by omega)
          · have e : (-1 : Int32) = nI (if i < 20 then T1.getD i 0 else NO) := by
              by_cases d7 : i < 20
              · rw [if_pos d7, T1_f i d7 d2 (by omega) d3 d4]; exact nI_m1.symm
              · rw [if_neg d7]; exact nI_m1.symm
            refine ⟨True, fun _ => e, ?_⟩
            refine qs i _ (fun d7 => trivial) (fun d7 => ?_) rfl (by omega) (by omega)
            exact qg i _ (fun d8 => trivial) (fun d8 => by omega) rfl (by omega) (by omega)
        · refine qs i _ (fun d7 => trivial) (fun d7 => ?_) rfl (by omega) (by omega)
          exact qg i _ (fun d8 => trivial) (fun d8 => by omega) rfl (by omega) (by omega)
  have t3 : t = 3 := by omega
  subst t3
  have hek : ek6 3 c = if c < 16 then T0.getD c 0 else NO := by unfold ek6; rw [if_pos rfl]
  refine qe c _ (fun d => errk 1 0 0 (by decide) (by decide) (by rw [d]; decide) rfl (by decide)) (fun d0 => ?_) rfl (by omega) (by omega)
  refine qe c _ (fun d => errk 1 0 0 (by decide) (by decide) (by rw [d]; decide) rfl (by decide)) (fun d1 => ?_) rfl (by omega) (by omega)
  refine qe c _ (fun d => errk 4 1 6 (by decide) (by decide) (by rw [d]; decide) rfl (by decide)) (fun d2 => ?_) rfl (by omega) (by omega)
  refine qe c _ (fun d => errk 1 4 0 (by decide) (by decide) (by rw [d]; decide) rfl (by decide)) (fun d3 => ?_) rfl (by omega) (by omega)
  refine qe c _ (fun d => ?_) (fun d4 => ?_) rfl (by omega) (by omega)
  · have hk : ek6 3 c = 512 := by rw [d]; decide
    have hsc : sc6 g p 512 m4 m6 = mt6 (wd8 g (p + 6)) (wd8 g (p + 10)) m4 m6 := by unfold sc6; rw [if_pos rfl]
    have hw6 : wd8 (at8 (M 5) 5000) 6 = wd8 g (p + 6) := by
      have := holds_wd hb (n := 5000) (by rw [hsl]; omega) (k := 6) (by rw [hsl]; omega)
      rw [Nat.zero_add, seg_lw (by omega)] at this
      exact this
    have hl6 : wd8 g (p + 6) < 65536 := wd8_lt hgb _
    have hl10 : wd8 g (p + 10) < 65536 := wd8_lt hgb _
    have hpl := pl_le T2 (wd8 g (p + 10))
    have hmt := mt6_l (told := wd8 g (p + 6)) (tot := wd8 g (p + 10)) l4 l6
    refine r_two_5 6 ?_ (by omega) rfl
    rw [hw6]
    refine ⟨fun v => ∃ w, w < 65536 ∧ v = nI w ∧ (12 ≤ n → w = if wd8 g (p + 6) = 0 then pl T2 (wd8 g (p + 10)) else wd8 g (p + 6)), ?_, ?_⟩
    · rintro _ ⟨w, hw, rfl, hw2⟩
      rw [show nI w + (20 : Int32) = nI (w + 20) from nI_add _ 20, e4, e6, show nI m4 + (20 : Int32) = nI (m4 + 20) from nI_add _ 20]
      rintro _ rfl
      obtain ⟨x, hx⟩ : ∃ x, (m6 ≤ w + 20 ∧ x = m6) ∨ (w + 20 < m6 ∧ x = w + 20) := by
        by_cases q : m6 ≤ w + 20
        · exact ⟨m6, Or.inl ⟨q, rfl⟩⟩
        · exact ⟨w + 20, Or.inr ⟨by omega, rfl⟩⟩
      obtain ⟨y, hy⟩ : ∃ y, (m4 + 20 ≤ x ∧ y = m4 + 20) ∨ (x < m4 + 20 ∧ y = x) := by
        by_cases q : m4 + 20 ≤ x
        · exact ⟨m4 + 20, Or.inl ⟨q, rfl⟩⟩
        · exact ⟨x, Or.inr ⟨by omega, rfl⟩⟩
      obtain ⟨z, hz⟩ : ∃ z, (1280 ≤ y ∧ z = y) ∨ (y < 1280 ∧ z = 1280) := by
        by_cases q : 1280 ≤ y
        · exact ⟨y, Or.inl ⟨q, rfl⟩⟩
        · exact ⟨1280, Or.inr ⟨by omega, rfl⟩⟩
      have qx : x < 100000 := by omega
      have qy : y < 100000 := by omega
      refine ⟨fun v => v = nI x, ?_, ?_⟩
      · rintro _ rfl
        refine ⟨fun v => v = nI y, ?_, ?_⟩
        · rintro _ rfl
          refine ⟨fun v => v = nI z, ?_, ?_⟩
          · rintro _ rfl
            refine err 2 0 z (by decide) (by decide) hk (by rw [hk, hsc]; unfold NO; omega) (fun hn12 => ?_)
            rw [hk, hsc]
            unfold mt6
            dsimp only
            rw [← hw2 hn12]
            have a1 := ite_or (m4 + 20 < m6) (m4 + 20) m6
            generalize (if m4 + 20 < m6 then m4 + 20 else m6) = k1 at a1 ⊢
            have a2 := ite_or (k1 < w + 20) k1 (w + 20)
            generalize (if k1 < w + 20 then k1 else w + 20) = k2 at a2 ⊢
            have a3 := ite_or (1280 < k2) k2 1280
            generalize (if 1280 < k2 then k2 else 1280) = k3 at a3 ⊢
            clear hmt hpl hl10 hl6 hw6 hb4 hsl err errk h0 h1 hw2
            omega
          · exact qg y _ (fun d => congrArg nI (by omega)) (fun d => congrArg nI (show (1280 : Nat) = z by omega)) rfl (by omega) (by omega)
        · exact pk_le (m4 + 20) x (fun d => congrArg nI (by omega)) (fun d => congrArg nI (by omega)) rfl rfl (by omega) (by omega)
      · exact pk_le m6 (w + 20) (fun d => congrArg nI (by omega)) (fun d => congrArg nI (by omega)) rfl rfl (by omega) (by omega)
    · refine qen (wd8 g (p + 6)) _ (fun d6 => ?_) (fun d6 => ⟨wd8 g (p + 6), hl6, rfl, fun _ => by rw [if_neg d6]⟩) rfl (by omega) (by omega)
      refine ⟨_, fun _ hv => hv, ?_⟩
      refine qg n _ (fun d7 => ?_) (fun d7 => ⟨68, by decide, rfl, fun z => by omega⟩) rfl (by omega) (by omega)
      have hw10 : wd8 (at8 (M 5) 5000) 10 = wd8 g (p + 10) := by
        have := holds_wd hb (n := 5000) (by rw [hsl]; omega) (k := 10) (by rw [hsl]; omega)
        rw [Nat.zero_add, seg_lw (by omega)] at this
        exact this
      refine r_two_5 10 ?_ (by omega) rfl
      rw [hw10]
      exact d_plateau _ hl10 ⟨_, by omega, rfl, fun _ => by rw [if_pos d6]⟩ rfl
  refine qe c _ (fun d => errk 1 0 0 (by decide) (by decide) (by rw [d]; decide) rfl (by decide)) (fun d5 => ?_) rfl (by omega) (by omega)
  refine qe c _ (fun d => errk 1 0 0 (by decide) (by decide) (by rw [d]; decide) rfl (by decide)) (fun d6 => ?_) rfl (by omega) (by omega)
  refine qe c _ (fun d => errk 1 0 0 (by decide) (by decide) (by rw [d]; decide) rfl (by decide)) (fun d7 => ?_) rfl (by omega) (by omega)
  refine qe c _ (fun d => errk 1 0 0 (by decide) (by decide) (by rw [d]; decide) rfl (by decide)) (fun d8 => ?_) rfl (by omega) (by omega)
  refine qe c _ (fun d => errk 1 1 0 (by decide) (by decide) (by rw [d]; decide) rfl (by decide)) (fun d9 => ?_) rfl (by omega) (by omega)
  refine qe c _ (fun d => errk 1 1 0 (by decide) (by decide) (by rw [d]; decide) rfl (by decide)) (fun d10 => ?_) rfl (by omega) (by omega)
  refine qe c _ (fun d => errk 1 0 0 (by decide) (by decide) (by rw [d]; decide) rfl (by decide)) (fun d11 => ?_) rfl (by omega) (by omega)
  refine qe c _ (fun d => errk 1 0 0 (by decide) (by decide) (by rw [d]; decide) rfl (by decide)) (fun d12 => ?_) rfl (by omega) (by omega)
  refine qe c _ (fun d => errk 1 1 0 (by decide) (by decide) (by rw [d]; decide) rfl (by decide)) (fun d13 => ?_) rfl (by omega) (by omega)
  refine qe c _ (fun d => h0 (Or.inl (by rw [d]; decide)) M (fz_r _ _ _)) (fun d14 => ?_) rfl (by omega) (by omega)
  refine qe c _ (fun d => errk 1 1 0 (by decide) (by decide) (by rw [d]; decide) rfl (by decide)) (fun d15 => ?_) rfl (by omega) (by omega)
  exact h0 (Or.inl (by rw [hek, if_neg (by omega)])) M (fz_r _ _ _)
theorem d_sumAt {M : cM} {L : cL} {x : Int32} {Z : Int32 → Prop} (pr : Nat) (h : Z (nI (fxp pr))) (hp : pr < 256) (hx : x = nI pr) : wp_X7_sumAt M L x Z := by
  subst hx
  unfold wp_X7_sumAt
  unfold fxp at h
  refine qen pr _ (fun c => by rw [if_pos c] at h; exact h) (fun c => by rw [if_neg c] at h; exact h) rfl (by omega) (by omega)
theorem d_mend6 {M : cM} {L : cL} {x1 x2 x3 x4 x5 : Int32} {Z : cM → cL → Prop} {b : List Nat} (pr off there len a i s t A B C D W F : Nat) (hb : holds (M 5) a b) (hl : a + b.length ≤ 5000) (hi : i + there ≤ b.length) (h35 : M 0 35 = nI pr) (l3 : pr < 256) (l6 : off < 8192) (l8 : len < 65536) (h25 : M 0 25 = nI s) (h26 : M 0 26 = nI t) (ls : s < 4294967296) (lt : t < 4294967296) (hA : uN (L 0 27) = A) (hB : uN (L 0 28) = B) (hC : uN (L 0 29) = C) (hD : uN (L 0 30) = D) (hW : W = w4 A + w4 B + w4 C + w4 D) (hF : F = w2 s + w2 t) (he : pr = 1 → 4 ≤ there ∧ off = 0)
    (h : ∀ M' L', fr M M' [5] → fL L L' [18] → holds (M' 5) a (cI (pr = 1) (fxE6 b i len W) (fxT b pr off there i F 4 W)) → Z M' L') (e1 : x1 = nI (a + i)) (e2 : x2 = nI there) (e3 : x3 = nI len) (e4 : x4 = nI (off * 8)) (e5 : x5 = 1) : wp_X7_mendInner_0 M L x1 x2 x3 x4 x5 Z := by
  subst e1 e2 e3 e4 e5
  have hob := holds_oct hb
  have hfp : fxp pr ≤ 16 := by unfold fxp; split <;> omega
  unfold wp_X7_mendInner_0
  rw [h35]
  refine ql (off * 8) _ (fun c => ?_) (fun c => ?_) rfl (by omega) (by omega)
  · refine ⟨fun v => v = nI 1, ?_, ⟨fun c => absurd c (by decide), fun _ => rfl⟩⟩
    rintro _ rfl
    refine pn_eq pr 1 (fun c1 => ?_) (fun c1 => ?_) rfl rfl (by omega) (by omega)
    · rw [cI_t c1] at h
      exact r_echo6 a i len A B C D W hb hl (by have := (he c1).1; omega) l8 hA hB hC hD hW h rfl rfl rfl
    · rw [cI_f c1] at h
      unfold fxT at h
      by_cases c2 : pr = 17 ∨ pr = 6
      · refine ⟨True, fun _ => ?_, ?_⟩
        · refine d_sumAt pr ?_ l3 rfl
          refine pk_lt there (fxp pr + 2) (fun c3 => ?_) (fun c3 => ?_) rfl (nI_add _ 2) (by omega) (by omega)
          · rw [cI_f (fun z => by have := z.2.2.1; omega)] at h
            exact h M L (fr_r _ _) (fL_r _ _) hb
          · have hwl := lw_lt hob (i + fxp pr)
            have hw := holds_wd hb (n := 5000) (by omega) (k := i + fxp pr) (by omega)
            rw [nI_add, show a + i + fxp pr = a + (i + fxp pr) by omega]
            by_cases c4 : pr = 17 ∧ lw b (i + fxp pr) = 0
            · rw [cI_f (fun z => z.2.2.2 c4)] at h
              refine ⟨False, False.elim, ?_⟩
              refine qen pr _ (fun _ => ?_) (fun z => absurd c4.1 z) rfl (by omega) (by omega)
              refine r_two_5 (a + (i + fxp pr)) ?_ (by omega) rfl
              rw [hw]
              exact qe _ _ (fun _ => h M L (fr_r _ _) (fL_r _ _) hb) (fun z => absurd c4.2 z) rfl (by omega) (by omega)
            · rw [cI_t ⟨c2, by omega, c3, c4⟩] at h
              refine ⟨True, fun _ => ?_, ?_⟩
              · exact r_adjust a pr (i + fxp pr) s t A B C D F 4 W True hb hl (by omega) l3 h25 h26 ls lt hA hB hC hD (Or.inl ⟨trivial, hF, rfl, hW⟩) h rfl rfl (bI_t trivial).symm
              · refine qen pr _ (fun c5 => ?_) (fun z => trivial) rfl (by omega) (by omega)
                refine r_two_5 (a + (i + fxp pr)) ?_ (by omega) rfl
                rw [hw]
                exact qe _ _ (fun c6 => absurd ⟨c5, c6⟩ c4) (fun z => trivial) rfl (by omega) (by omega)
        · refine qe pr _ (fun _ => trivial) (fun c3 => ?_) rfl (by omega) (by omega)
          exact qen pr _ (fun _ => trivial) (fun c4 => by omega) rfl (by omega) (by omega)
      · rw [cI_f (fun z => c2 z.1)] at h
        refine ⟨False, False.elim, ?_⟩
        refine qe pr _ (fun c3 => by omega) (fun c3 => ?_) rfl (by omega) (by omega)
        exact qen pr _ (fun c4 => by omega) (fun c4 => h M L (fr_r _ _) (fL_r _ _) hb) rfl (by omega) (by omega)
  · have : pr ≠ 1 := fun z => by have := (he z).2; omega
    rw [cI_f this, fxT, cI_f (fun z => by have := z.2.1; omega)] at h
    exact h M L (fr_r _ _) (fL_r _ _) hb
