/-! errors of IPv4 that carry a packet -/
def NO : Nat := 4294967295
def T0 : List Nat := [256, 256, 1025, 260, 512, 256, 256, 256, 256, 257, 257, 256, 256, 257, 4294967295, 257]
def T1 : List Nat := [0, 1, 4, 4, 4294967295, 4294967295, 4294967295, 4294967295, 7, 6, 4294967295, 4294967295, 8, 8, 8, 8, 24, 24, 24, 24]
def T2 : List Nat := [65535, 32000, 17914, 8166, 4352, 2002, 1492, 1006, 508, 296]
theorem T0_c : ∀ i, i < 16 → cpTab0.getD i 0 = nI (T0.getD i 0) := by decide +kernel
theorem T1_c : ∀ i, i < 20 → cpTab1.getD i 0 = nI (T1.getD i 0) := by decide +kernel
theorem T2_c : ∀ i, i < 10 → cpTab2.getD i 0 = nI (T2.getD i 0) := by decide +kernel
theorem T2_l : ∀ i, i < 10 → T2.getD i 0 < 65536 := by decide
def ek6 (t c : Nat) : Nat := if t = 3 then (if c < 16 then T0.getD c 0 else NO) else if t = 11 then 768 + c else if c = 0 ∨ c = 2 then 1024 else NO
theorem lg_cmp_lt0 {A B : Prop} {n : Nat} {x : Int64} (h : B) (hx : x = lN n) (hn : n < 2 ^ 63) : (lg_cmp x (0 : Int64) < 0 → A) ∧ (¬ lg_cmp x (0 : Int64) < 0 → B) := by
  subst hx
  refine ⟨fun z => absurd z ?_, fun _ => h⟩
  rw [lg_cmp_lt]
  intro y
  exact absurd ((pk_lLT (a := n) (b := 0) hn (by decide)).mp y) (by omega)
theorem lg_ge {A B : Prop} {a b : Nat} {x y : Int64} (f : b ≤ a → A) (g : a < b → B) (hx : x = lN a) (hy : y = lN b) (ha : a < 2 ^ 63) (hb : b < 2 ^ 63) : (0 ≤ lg_cmp x y → A) ∧ (¬ 0 ≤ lg_cmp x y → B) := by
  subst hx hy
  rw [lg_cmp_ge, pk_lLE hb ha]
  exact ⟨f, fun z => g (by omega)⟩
theorem c_entry0 {M : cM} {L : cL} {x : Int64} {Z : Int32 → Prop} (c : Nat) (hc : c < 2 ^ 31) (h : Z (nI (if c < 16 then T0.getD c 0 else NO))) (hx : x = lN c) : wp_X6_entry_t0 M L x Z := by
  subst hx
  unfold wp_X6_entry_t0
  refine lg_cmp_lt0 ?_ rfl (by omega)
  refine lg_ge (b := 16) (fun c1 => ?_) (fun c1 => ?_) rfl rfl (by omega) (by omega)
  · rw [if_neg (by omega)] at h; exact h
  · rw [if_pos c1] at h
    rw [lN_i, nI_clamp (by omega), T0_c c c1]
    exact ⟨vp_in_nI c1 (by decide), h⟩
theorem c_entry1 {M : cM} {L : cL} {x : Int64} {Z : Int32 → Prop} (c : Nat) (hc : c < 2 ^ 31) (h : Z (nI (if c < 20 then T1.getD c 0 else NO))) (hx : x = lN c) : wp_X6_entry_t1 M L x Z := by
  subst hx
  unfold wp_X6_entry_t1
  refine lg_cmp_lt0 ?_ rfl (by omega)
  refine lg_ge (b := 20) (fun c1 => ?_) (fun c1 => ?_) rfl rfl (by omega) (by omega)
  · rw [if_neg (by omega)] at h; exact h
  · rw [if_pos c1] at h
    rw [lN_i, nI_clamp (by omega), T1_c c c1]
    exact ⟨vp_in_nI c1 (by decide), h⟩
theorem c_errorToSix {M : cM} {L : cL} {x y : Int32} {Z : Int32 → Prop} (t c : Nat) (ht : t < 256) (hc : c < 256) (h : Z (nI (ek6 t c))) (hx : x = nI t) (hy : y = nI c) : wp_X6_errorToSix M L x y Z := by
  subst hx hy
  unfold wp_X6_errorToSix
  unfold ek6 at h
  refine qen t _ (fun c1 => ?_) (fun c1 => ?_) rfl (by omega) (by omega)
  · rw [if_pos c1] at h
    exact c_entry0 c (by omega) h (nI_l (by omega))
  · rw [if_neg c1] at h
    refine qen t _ (fun c2 => ?_) (fun c2 => ?_) rfl (by omega) (by omega)
    · rw [if_pos c2] at h
      rw [show (768 : Int32) ||| nI c = nI (768 + c) from nI_orN (a := 3) (k := 8) hc]
      exact h
    · rw [if_neg c2] at h
      refine qe c _ (fun c3 => ?_) (fun c3 => ?_) rfl (by omega) (by omega)
      · rw [if_pos (Or.inl c3)] at h; exact h
      · refine qen c _ (fun c4 => ?_) (fun c4 => ?_) rfl (by omega) (by omega)
        · rw [if_pos (Or.inr c4)] at h; exact h
        · rw [if_neg (by omega)] at h; exact h
/-- the first of some numbers that is below -/
def pl : List Nat → Nat → Nat
  | [], _ => 68
  | p :: l, t => if p < t then p else pl l t
theorem pl_le : ∀ (l : List Nat) (t : Nat), pl l t ≤ 68 ∨ pl l t < t
  | [], _ => Or.inl (Nat.le_refl _)
  | p :: l, t => by
    unfold pl
    by_cases c : p < t
    · rw [if_pos c]; exact Or.inr c
    · rw [if_neg c]; exact pl_le l t
theorem c_plateau {M : cM} {L : cL} {x : Int32} {Z : Int32 → Prop} (t : Nat) (ht : t < 65536) (h : Z (nI (pl T2 t))) (hx : x = nI t) : wp_X6_plateauBelow M L x Z := by
  subst hx
  unfold wp_X6_plateauBelow
  refine ⟨fun x => ∃ i, i ≤ 10 ∧ x = nI i ∧ pl (T2.drop i) t = pl T2 t, fun x => 10 - x.toNatClampNeg, ⟨0, by omega, rfl, rfl⟩, ?_⟩
  rintro _ ⟨i, hi, rfl, e⟩
  refine qg i _ (fun c => ?_) (fun c => ?_) rfl (by omega) (by omega)
  · have : i = 10 := by omega
    subst this
    rw [← e] at h
    exact h
  · refine ⟨vp_in_nI c (by decide), ?_⟩
    rw [nI_clamp (by omega), T2_c i c]
    have ed : T2.drop i = T2.getD i 0 :: T2.drop (i + 1) := by
      rw [List.drop_eq_getElem_cons (show i < T2.length from c), List.getD_eq_getElem?_getD, List.getElem?_eq_getElem (show i < T2.length from c)]; rfl
    have hl := T2_l i c
    rintro _ rfl
    rw [ed, pl] at e
    refine pk_le t (T2.getD i 0) (fun c1 => ?_) (fun c1 => ?_) rfl rfl (by omega) (by omega)
    · rw [if_neg (by omega)] at e
      rintro _ rfl
      refine ⟨⟨i + 1, by omega, nI_1 i, e⟩, ?_⟩
      dsimp only
      rw [nI_1, nI_clamp (by omega), nI_clamp (by omega)]
      omega
    · rw [if_pos c1] at e
      rw [e]; exact h
def mt6 (told tot m4 m6 : Nat) : Nat := let m := (if told = 0 then pl T2 tot else told) + 20; let k := if m4 + 20 < m6 then m4 + 20 else m6; let r := if k < m then k else m; if 1280 < r then r else 1280
theorem c_mtuToSix {M : cM} {L : cL} {x y : Int32} {Z : Int32 → Prop} (told tot m4 m6 : Nat) (h1 : told < 65536) (h2 : tot < 65536) (l4 : m4 ≤ 2000) (l6 : m6 ≤ 2000) (e4 : M 0 12 = nI m4) (e6 : M 0 13 = nI m6) (h : Z (nI (mt6 told tot m4 m6))) (hx : x = nI told) (hy : y = nI tot) : wp_X6_mtuToSix_0 M L x y Z := by
  subst hx hy
  unfold wp_X6_mtuToSix_0
  have hpl := pl_le T2 tot
  refine ⟨fun v => v = nI (if told = 0 then pl T2 tot else told), ?_, ?_⟩
  · rintro _ rfl
    have hm : (if told = 0 then pl T2 tot else told) < 65536 := by split <;> omega
    unfold mt6 at h
    generalize (if told = 0 then pl T2 tot else told) = mm at h hm ⊢
    rintro _ rfl
    dsimp only at h
    rw [e4, e6, show (20 : Int32) = nI 20 from rfl, show (1280 : Int32) = nI 1280 from rfl, nI_add, nI_add, nI_if (by omega) (by omega), nI_ite]
    have hk : (if m4 + 20 < m6 then m4 + 20 else m6) < 3000 := by split <;> omega
    generalize (if m4 + 20 < m6 then m4 + 20 else m6) = kk at h hk ⊢
    rw [nI_if (by omega) (by omega), nI_ite]
    have hr : (if kk < mm + 20 then kk else mm + 20) < 100000 := by split <;> omega
    rw [nI_if (by omega) (by omega), nI_ite]
    exact h
  · refine qen told _ (fun c => ?_) (fun c => by rw [if_neg c]) rfl (by omega) (by omega)
    rw [if_pos c]
    exact c_plateau tot h2 rfl rfl
def sc6 (g : Nat → Nat) (p k m4 m6 : Nat) : Nat := if k = 512 then mt6 (wd8 g (p + 6)) (wd8 g (p + 10)) m4 m6 else if k = 1024 then (if g (p + 4) < 20 then T1.getD (g (p + 4)) 0 else NO) else if k = 1025 then 6 else 0
theorem c_secondToSix {M : cM} {L : cL} {x : Int32} {Z : Int32 → Prop} {g : Nat → Nat} (p k m4 m6 : Nat) (hg : at8 (M 2) 2400 = g) (hp : p + 28 ≤ 2400) (hk : k < 2 ^ 31) (l4 : m4 ≤ 2000) (l6 : m6 ≤ 2000) (e4 : M 0 12 = nI m4) (e6 : M 0 13 = nI m6) (h7 : M 11 7 = nI p) (h15 : M 12 15 = nI (wd8 g (p + 10))) (h : Z (nI (sc6 g p k m4 m6))) (hx : x = nI k) : wp_X6_secondToSix_0_11_12 M L x Z := by
  subst hx
  have hgb : ∀ i, g i < 256 := fun i => by rw [← hg]; exact at8_lt _ _ _
  have hb := hgb (p + 4)
  unfold wp_X6_secondToSix_0_11_12
  rw [h7, h15]
  unfold sc6 at h
  refine qe k _ (fun c => ?_) (fun c => ?_) rfl (by omega) (by omega)
  · rw [if_pos c] at h
    refine c_word (p + 6) hg ?_ (by omega) (nI_add _ 6)
    exact c_mtuToSix _ _ m4 m6 (wd8_lt hgb _) (wd8_lt hgb _) l4 l6 e4 e6 h rfl rfl
  · rw [if_neg c] at h
    refine qe k _ (fun c2 => ?_) (fun c2 => ?_) rfl (by omega) (by omega)
    · rw [if_pos c2] at h
      refine c_at (p + 4) hg ?_ (by omega) (nI_add _ 4)
      exact c_entry1 (g (p + 4)) (by omega) h (nI_l (by omega))
    · rw [if_neg c2] at h
      refine qe k _ (fun c3 => ?_) (fun c3 => ?_) rfl (by omega) (by omega)
      · rw [if_pos c3] at h; exact h
      · rw [if_neg c3] at h; exact h
/-- an inner packet of IPv4 that can be carried over -/
def in4 (g : Nat → Nat) (H Lo : Int64) (B a e : Nat) : Prop := okA H Lo B (sr4 g a) ∧ okA H Lo B (tg4 g a) ∧ ¬ bar4 (g (a + 9)) ∧ (g (a + 9) = 1 → ¬ fg4 g a ∧ 4 ≤ th4 g a e ∧ ec4 (g (a + hl4 g a)))
theorem th4_le {g : Nat → Nat} {a e : Nat} (h : a + hl4 g a ≤ e) : a + hl4 g a + th4 g a e ≤ e := by unfold th4; split <;> omega
theorem c_innerFourFits {M : cM} {L : cL} {Z : Int32 → Prop} {g : Nat → Nat} {H Lo : Int64} {B : Nat} (a e : Nat) (hg : at8 (M 2) 2400 = g) (hrd : rd4 g a e) (he : e ≤ 2400) (hp : pk4 (M 12) (L 12) g a e) (hm : mapC (M 10) (L 10) H Lo B) (h : Z (bI (in4 g H Lo B a e))) : wp_X6_innerFourFits_0_12 M L Z := by
  have hgb : ∀ i, g i < 256 := fun i => by rw [← hg]; exact at8_lt _ _ _
  have h3 : M 12 3 = nI (g (a + 9)) := hp.2.2.2.1
  have h7 : M 12 7 = nI (a + hl4 g a) := hp.2.2.2.2.2.2.2.1
  have h9 : M 12 9 = nI (th4 g a e) := hp.2.2.2.2.2.2.2.2.2.1
  have h10 : M 12 10 = nI (sr4 g a) := hp.2.2.2.2.2.2.2.2.2.2.1
  have h11 : M 12 11 = nI (tg4 g a) := hp.2.2.2.2.2.2.2.2.2.2.2.1
  have hB := pfx_lt hm.2.2.2
  have hb9 := hgb (a + 9)
  have hbp := hgb (a + hl4 g a)
  have ht := th4_le hrd.2.1
  unfold wp_X6_innerFourFits_0_12
  rw [h3, h7, h9]
  refine p_mappable H Lo B (sr4 g a) ?_ (num4_lt hgb _) hB hm.1 hm.2.1 hm.2.2.1 h10
  refine bz (fun c => zf h (fun z => c z.1)) (fun c1 => ?_)
  refine p_mappable H Lo B (tg4 g a) ?_ (num4_lt hgb _) hB hm.1 hm.2.1 hm.2.2.1 h11
  refine bz (fun c => zf h (fun z => c z.2.1)) (fun c2 => ?_)
  refine p_neverFour (g (a + 9)) ?_ hb9 rfl
  refine bz (fun c3 => ?_) (fun c => zf h (fun z => z.2.2.1 c))
  refine qe (g (a + 9)) _ (fun c4 => ?_) (fun c4 => zt h ⟨c1, c2, c3, fun z => absurd z c4⟩) rfl (by omega) (by omega)
  refine c_fragment_12 a e hgb hp ?_
  refine zb (fun c5 => ?_) (fun c => zf h (fun z => (z.2.2.2 c4).1 c))
  refine qs (th4 g a e) _ (fun c => zf h (fun z => by have := (z.2.2.2 c4).2.1; omega)) (fun c6 => ?_) rfl (by omega) (by omega)
  refine c_at (a + hl4 g a) hg ?_ (by omega) rfl
  refine p_echoFour (g (a + hl4 g a)) ?_ hbp rfl
  exact bz (fun c => zf h (fun z => c (z.2.2.2 c4).2.2)) (fun c7 => zt h ⟨c1, c2, c3, fun _ => ⟨c5, c6, c7⟩⟩)
/-- an inner packet's header and payload as they come, and with the checksum turned -/
noncomputable def ih6 (g : Nat → Nat) (H Lo : Int64) (B : Nat) (kp : Prop) (a e : Nat) : List Nat := hd6 kp (fg4 g a) (g (a + 1)) (cI (fg4 g a) 8 0 + (tl4 g a - hl4 g a)) (nx4 (g (a + 9))) (g (a + 8)) (uN (upA H B (sr4 g a))) (uN (loA Lo B (sr4 g a))) (uN (upA H B (tg4 g a))) (uN (loA Lo B (tg4 g a))) (of4 g a) (mf4 g a) (wd8 g (a + 4))
noncomputable def i06 (g : Nat → Nat) (H Lo : Int64) (B : Nat) (kp : Prop) (a e : Nat) : List Nat := ih6 g H Lo B kp a e ++ seg g (a + hl4 g a) (th4 g a e)
noncomputable def il6 (g : Nat → Nat) (H Lo : Int64) (B : Nat) (kp : Prop) (a e : Nat) : List Nat :=
  cI (g (a + 9) = 1) (fxE6 (i06 g H Lo B kp a e) (40 + cI (fg4 g a) 8 0) (tl4 g a - hl4 g a) (iw H Lo B (sr4 g a) (tg4 g a))) (fxT (i06 g H Lo B kp a e) (g (a + 9)) (of4 g a) (th4 g a e) (40 + cI (fg4 g a) 8 0) (sm8 g (a + 12) 8) 4 (iw H Lo B (sr4 g a) (tg4 g a)))
theorem ih6_len (g : Nat → Nat) (H Lo : Int64) (B : Nat) (kp : Prop) (a e : Nat) : (ih6 g H Lo B kp a e).length = 40 + cI (fg4 g a) 8 0 := hd6_len _ _ _ _ _ _ _ _ _ _ _ _ _
theorem i06_len (g : Nat → Nat) (H Lo : Int64) (B : Nat) (kp : Prop) (a e : Nat) : (i06 g H Lo B kp a e).length = 40 + cI (fg4 g a) 8 0 + th4 g a e := by
  unfold i06; rw [List.length_append, ih6_len, seg_len]
theorem il6_len {g : Nat → Nat} {H Lo : Int64} {B : Nat} {kp : Prop} {a e : Nat} (h : g (a + 9) = 1 → 4 ≤ th4 g a e) : (il6 g H Lo B kp a e).length = 40 + cI (fg4 g a) 8 0 + th4 g a e := by
  unfold il6
  by_cases c : g (a + 9) = 1
  · have := h c
    rw [cI_t c, fxE6_len (by rw [i06_len]; omega), i06_len]
  · rw [cI_f c, fxT_len (by rw [i06_len]; omega), i06_len]
theorem c_putInnerSix {M : cM} {L : cL} {Z : Int32 → cM → Prop} {g : Nat → Nat} {H Lo : Int64} {B : Nat} (a e : Nat) (kp : Prop) (hg : at8 (M 2) 2400 = g) (hBy : ∀ j, isBy (M 2 j)) (hrd : rd4 g a e) (ha : 28 ≤ a) (he : e ≤ 2400) (hp : pk4 (M 12) (L 12) g a e) (hm : mapC (M 10) (L 10) H Lo B) (hk : M 0 14 = bI kp) (h : ∀ M', fr M M' [4] → holds (M' 4) 8 (i06 g H Lo B kp a e) → Z (nI (48 + cI (fg4 g a) 8 0)) M') : wp_X6_putInnerSix_0_12 M L Z := by
  have hgb : ∀ i, g i < 256 := fun i => by rw [← hg]; exact at8_lt _ _ _
  have h2 : M 12 2 = nI (g (a + 8)) := hp.2.2.1
  have h3 : M 12 3 = nI (g (a + 9)) := hp.2.2.2.1
  have h4 : M 12 4 = nI (wd8 g (a + 4)) := hp.2.2.2.2.1
  have h5 : M 12 5 = bI (mf4 g a) := hp.2.2.2.2.2.1
  have h6 : M 12 6 = nI (of4 g a) := hp.2.2.2.2.2.2.1
  have h7 : M 12 7 = nI (a + hl4 g a) := hp.2.2.2.2.2.2.2.1
  have h8 : M 12 8 = nI (tl4 g a - hl4 g a) := hp.2.2.2.2.2.2.2.2.1
  have h9 : M 12 9 = nI (th4 g a e) := hp.2.2.2.2.2.2.2.2.2.1
  have ho4 : of4 g a < 8192 := Nat.mod_lt _ (by decide)
  have hb9 := hgb (a + 9)
  have hnx : nx4 (g (a + 9)) < 256 := by unfold nx4; split <;> omega
  have h8f := cI_8 (fg4 g a)
  have ht := th4_le hrd.2.1
  have hrd4 := hrd.2.2.2.1
  unfold wp_X6_putInnerSix_0_12
  refine ⟨fun v => v = nI (nx4 (g (a + 9))), ?_, ?_⟩
  · rintro _ rfl
    refine c_fragmentHeader_12 a e hgb hp ?_
    refine c_fragment_12 a e hgb hp ?_
    refine ⟨fun v => v = nI (cI (fg4 g a) 44 (nx4 (g (a + 9)))), ?_, ?_⟩
    · rintro _ rfl
      refine c_putSix_3_12 a e 8 (cI (fg4 g a) 8 0 + (tl4 g a - hl4 g a)) (cI (fg4 g a) 44 (nx4 (g (a + 9)))) (g (a + 8)) kp hgb hp hm hk (by omega) (fun M1 w1 => ?_) rfl (by rw [h8, nI_add]) rfl h2
      have e1 : M1 12 = M 12 := w1.1 12 (by decide)
      refine c_fragment_12 a e hgb (by rw [e1]; exact hp) ?_
      refine ⟨fun M' => wr M M' 4 8 (ih6 g H Lo B kp a e), ?_, ?_⟩
      · intro M2 w2
        rw [show (48 : Int32) + nI (cI (fg4 g a) 8 0) = nI (48 + cI (fg4 g a) 8 0) from nI_add 48 _]
        rintro _ rfl
        have e2 : M2 12 = M 12 := w2.1 12 (by decide)
        have e22 : M2 2 = M 2 := w2.1 2 (by decide)
        refine c_copy31 (g := g) (a + hl4 g a) (48 + cI (fg4 g a) 8 0) (th4 g a e) (by rw [e22]; exact hg) (by rw [e22]; exact hBy) (fun M3 w3 => ?_) (by omega) (by omega) (by rw [e2]; exact h7) rfl (by rw [e2]; exact h9)
        have w4 : wr M M3 4 8 (i06 g H Lo B kp a e) := wr_app w2 w3 (by rw [ih6_len]; omega)
        exact h M3 (wr_fr w4 (by decide)) w4.2.2
      · unfold ih6 hd6
        refine bz (fun c => ?_) (fun c => ?_)
        · rw [cI_f (a := fh _ _ _ _) c, List.append_nil]
          exact w1
        · rw [e1, h6, h5, h4]
          refine c_putFragment_3 48 (nx4 (g (a + 9))) (of4 g a) (wd8 g (a + 4)) (mf4 g a) hnx (by omega) (by omega) (fun M2 w2 => ?_) rfl rfl rfl rfl rfl
          rw [cI_t (a := fh _ _ _ _) c]
          exact wr_app w1 w2 (by rw [h6_len])
    · exact bz (fun c => by rw [cI_f c]) (fun c => by rw [cI_t c]; rfl)
  · rw [h3]
    unfold nx4
    refine qen (g (a + 9)) _ (fun c => by rw [if_pos c]; rfl) (fun c => by rw [if_neg c]) rfl (by omega) (by omega)
/-- an error with what it carries, cut to a length -/
def mg0 (k s : Nat) (il : List Nat) (mx : Nat) : List Nat := (bys 2 k ++ bys 2 0 ++ bys 4 s ++ il).take mx
def mg (k s W : Nat) (il : List Nat) (mx : Nat) : List Nat := spl (mg0 k s il mx) 2 (bys 2 (65535 - fo (W + lsm (mg0 k s il mx))))
theorem mg0_len (k s : Nat) (il : List Nat) (mx : Nat) : (mg0 k s il mx).length = if mx < 8 + il.length then mx else 8 + il.length := by
  unfold mg0
  rw [List.length_take]
  simp only [List.length_append, bys_len]
  split <;> omega
theorem mg_len {k s W : Nat} {il : List Nat} {mx : Nat} (h : 8 ≤ mx) : (mg k s W il mx).length = if mx < 8 + il.length then mx else 8 + il.length := by
  unfold mg
  rw [spl_len (by rw [bys_len, mg0_len]; split <;> omega), mg0_len]
theorem holds_take {f : Nat → Int32} {l : List Nat} {a : Nat} (h : holds f a l) (k : Nat) : holds f a (l.take k) := by
  rw [← List.take_append_drop k l] at h
  exact (holds_app.mp h).1
theorem c_putMessage {M : cM} {L : cL} {x y : Int32} {z : Int64} {Z : cM → Prop} {il : List Nat} (k s W mx : Nat) (hil : holds (M 4) 8 il) (hl : il.length ≤ 2400) (hmx : 8 ≤ mx) (hW : W < 2 ^ 30) (hbl : M 3 1 = nI (if mx < 8 + il.length then mx else 8 + il.length)) (h : ∀ M', fr M M' [4] → holds (M' 4) 0 (mg k s W il mx) → Z M') (hx : x = nI k) (hy : y = nI s) (hz : z = lN W) : wp_X6_putMessage_0 M L x y z Z := by
  unfold wp_X6_putMessage_0
  refine p_put3 0 2 k (hv_i 2 (by decide) _ _ hx) (fun M1 w1 => ?_) rfl rfl (by omega) (by omega)
  refine p_put3 2 2 0 (by decide) (fun M2 w2 => ?_) rfl rfl (by omega) (by omega)
  have v2 := wr_app w1 w2 (by rw [bys_len])
  refine p_put3 4 4 s (hv_i 4 (by decide) _ _ hy) (fun M3 w3 => ?_) rfl rfl (by omega) (by omega)
  have v3 := wr_app v2 w3 (by simp [bys_len])
  have hl3 : holds (M3 4) 0 (bys 2 k ++ bys 2 0 ++ bys 4 s ++ il) := by
    rw [holds_app]
    refine ⟨v3.2.2, ?_⟩
    have := wr_keep v3 hil (Or.inr (by simp [bys_len]))
    rw [show 0 + (bys 2 k ++ bys 2 0 ++ bys 4 s).length = 8 by simp [bys_len]]
    exact this
  have hm3 : holds (M3 4) 0 (mg0 k s il mx) := holds_take hl3 mx
  have hml := mg0_len k s il mx
  have hb3 : M3 3 1 = nI (mg0 k s il mx).length := by rw [v3.1 3 (by decide), hbl, hml]
  have hll : (mg0 k s il mx).length ≤ 2408 := by rw [hml]; split <;> omega
  have hll8 : 8 ≤ (mg0 k s il mx).length := by rw [hml]; split <;> omega
  refine p_sum_3 0 (mg0 k s il mx).length ?_ (by omega) (by omega) rfl hb3
  rw [Nat.sub_zero, sm8_holds hm3 (n := 2408) (by omega), hz, lN_add]
  have hsl := lsm_lt (holds_oct hm3)
  refine p_checksum _ ?_ (by omega) rfl
  refine p_put3 2 2 (65535 - fo (W + lsm (mg0 k s il mx))) (hv_i 2 (by decide) _ _ rfl) (fun M4 w4 => ?_) rfl rfl (by omega) (by omega)
  have w4' : wr M3 M4 4 (0 + 2) (bys 2 (65535 - fo (W + lsm (mg0 k s il mx)))) := w4
  exact h M4 (fr_t (wr_fr v3 (by decide)) (wr_fr w4 (by decide))) (holds_put hm3 w4' (by omega))
/-- the error's body: a fault, or 0 and the body -/
noncomputable def be4 (g : Nat → Nat) (H Lo : Int64) (B : Nat) (kp : Prop) (m4 m6 : Nat) : Nat × List Nat :=
  cI (fo (sm8 g (hl4 g 0) (tl4 g 0 - hl4 g 0)) ≠ 65535) (4, [])
    (cI (ek6 (g (hl4 g 0)) (g (hl4 g 0 + 1)) ≠ NO ∧ (rd4 g (hl4 g 0 + 8) (tl4 g 0) ∧ in4 g H Lo B (hl4 g 0 + 8) (tl4 g 0)) ∧ sc6 g (hl4 g 0) (ek6 (g (hl4 g 0)) (g (hl4 g 0 + 1))) m4 m6 ≠ NO)
      (0, mg (ek6 (g (hl4 g 0)) (g (hl4 g 0 + 1))) (sc6 g (hl4 g 0) (ek6 (g (hl4 g 0)) (g (hl4 g 0 + 1))) m4 m6) (iw H Lo B (sr4 g 0) (tg4 g 0) + (if 1240 < 8 + (40 + cI (fg4 g (hl4 g 0 + 8)) 8 0 + th4 g (hl4 g 0 + 8) (tl4 g 0)) then 1240 else 8 + (40 + cI (fg4 g (hl4 g 0 + 8)) 8 0 + th4 g (hl4 g 0 + 8) (tl4 g 0))) + 58) (il6 g H Lo B kp (hl4 g 0 + 8) (tl4 g 0)) 1240) (8, []))
theorem T0_NO : ∀ i, i < 16 → T0.getD i 0 = 4294967295 ∨ T0.getD i 0 < 2000 := by decide
theorem T1_NO : ∀ i, i < 20 → T1.getD i 0 = 4294967295 ∨ T1.getD i 0 < 2000 := by decide
theorem ek6_l {t c : Nat} (hc : c < 256) : ek6 t c = NO ∨ ek6 t c < 2000 := by
  unfold ek6
  by_cases c1 : t = 3
  · rw [if_pos c1]
    by_cases c2 : c < 16
    · rw [if_pos c2]; exact T0_NO c c2
    · rw [if_neg c2]; exact Or.inl rfl
  · rw [if_neg c1]
    by_cases c2 : t = 11
    · rw [if_pos c2]; omega
    · rw [if_neg c2]
      by_cases c3 : c = 0 ∨ c = 2
      · rw [if_pos c3]; omega
      · rw [if_neg c3]; exact Or.inl rfl
theorem mt6_l {told tot m4 m6 : Nat} (l4 : m4 ≤ 2000) (l6 : m6 ≤ 2000) : mt6 told tot m4 m6 < 3000 := by
  unfold mt6
  dsimp only
  generalize (if told = 0 then pl T2 tot else told) + 20 = m
  have hk : (if m4 + 20 < m6 then m4 + 20 else m6) ≤ 2020 := by split <;> omega
  generalize (if m4 + 20 < m6 then m4 + 20 else m6) = k at hk ⊢
  have hr : (if k < m then k else m) ≤ 2020 := by split <;> omega
  generalize (if k < m then k else m) = r at hr ⊢
  split <;> omega
theorem sc6_l {g : Nat → Nat} {p k m4 m6 : Nat} (l4 : m4 ≤ 2000) (l6 : m6 ≤ 2000) : sc6 g p k m4 m6 = NO ∨ sc6 g p k m4 m6 < 3000 := by
  unfold sc6
  by_cases c : k = 512
  · rw [if_pos c]; exact Or.inr (mt6_l l4 l6)
  · rw [if_neg c]
    by_cases c2 : k = 1024
    · rw [if_pos c2]
      by_cases c3 : g (p + 4) < 20
      · rw [if_pos c3]; have := T1_NO _ c3; unfold NO; omega
      · rw [if_neg c3]; exact Or.inl rfl
    · rw [if_neg c2]; split <;> omega
theorem nI_NO {n : Nat} (h : n = NO ∨ n < 3000) : (nI n = (-1 : Int32)) ↔ n = NO := by
  refine ⟨fun z => ?_, fun z => by rw [z]; exact nI_m1⟩
  rcases h with h | h
  · exact h
  · rw [← nI_m1] at z
    have e := congrArg u32 z
    rw [u32_nI, u32_nI] at e
    unfold NO
    omega
theorem c_errorFromFour {M : cM} {L : cL} {Z : Int32 → cM → cL → Prop} {g : Nat → Nat} {H Lo : Int64} {B : Nat} (n m4 m6 : Nat) (kp : Prop) (hg : at8 (M 2) 2400 = g) (hBy : ∀ j, isBy (M 2 j)) (hp : pk4 (M 11) (L 11) g 0 n) (hf : form4 g n) (hn : n ≤ 2400) (h8l : 8 ≤ tl4 g 0 - hl4 g 0) (hm : mapC (M 10) (L 10) H Lo B) (hk : M 0 14 = bI kp) (l4 : m4 ≤ 2000) (l6 : m6 ≤ 2000) (e4 : M 0 12 = nI m4) (e6 : M 0 13 = nI m6) (k13 : L 11 13 = lN (iw H Lo B (sr4 g 0) (tg4 g 0)))
    (h : ∀ M' L', fr M M' [3, 4, 12] → frL L L' [12] → ((be4 g H Lo B kp m4 m6).1 = 0 → holds (M' 4) 0 (be4 g H Lo B kp m4 m6).2 ∧ M' 3 1 = nI (be4 g H Lo B kp m4 m6).2.length) → Z (nI (be4 g H Lo B kp m4 m6).1) M' L') : wp_X6_errorFromFour_0_11_12 M L Z := by
  have hgb : ∀ i, g i < 256 := fun i => by rw [← hg]; exact at8_lt _ _ _
  have hhl : hl4 g 0 ≤ 60 := hl4_le 0
  have hh := hf.1.2.2.2.2
  have h20 := hf.1.2.2.2.1
  have hn2 := hf.2.1
  have h7 : M 11 7 = nI (hl4 g 0) := by rw [hp.2.2.2.2.2.2.2.1, Nat.zero_add]
  have h8 : M 11 8 = nI (tl4 g 0 - hl4 g 0) := hp.2.2.2.2.2.2.2.2.1
  have hb0 := hgb (hl4 g 0)
  have hb1 := hgb (hl4 g 0 + 1)
  unfold wp_X6_errorFromFour_0_11_12
  intro x1 hx1
  have ex1 : x1 = nI (tl4 g 0) := by rw [hx1, h7, h8, nI_add]; congr 1; omega
  subst ex1
  rw [h7]
  refine c_sum (hl4 g 0) (tl4 g 0) hg ?_ (by omega) (by omega) rfl rfl
  have hs := sm8_le hgb (hl4 g 0) (tl4 g 0 - hl4 g 0)
  refine p_folded _ ?_ (by omega) rfl
  have hfo := fo_le (sm8 g (hl4 g 0) (tl4 g 0 - hl4 g 0))
  unfold be4 at h
  refine qe (fo (sm8 g (hl4 g 0) (tl4 g 0 - hl4 g 0))) _ (fun c1 => ?_) (fun c1 => ?_) rfl (by omega) (by omega)
  · rw [cI_f (fun z => z c1)] at h
    refine c_at (hl4 g 0) hg ?_ (by omega) rfl
    refine c_at (hl4 g 0 + 1) hg ?_ (by omega) (nI_add _ 1)
    refine c_errorToSix _ _ hb0 hb1 ?_ rfl rfl
    have hek := ek6_l (t := g (hl4 g 0)) hb1
    generalize ek6 (g (hl4 g 0)) (g (hl4 g 0 + 1)) = ek at h hek ⊢
    have hekN := nI_NO (n := ek) (by omega)
    refine ⟨fun z => ?_, fun z => ?_⟩
    · rw [cI_f (fun y => y.1 (hekN.mp z))] at h
      exact h M L (fr_r _ _) (frL_r _ _) (fun y => absurd y (by decide))
    have cek : ek ≠ NO := fun y => z (hekN.mpr y)
    refine c_read_12 (hl4 g 0 + 8) (tl4 g 0) hg (by omega) (by omega) (fun M1 L1 f1 k1 c => ?_) (fun M1 L1 f1 k1 c hq => ?_) (nI_add _ 8) rfl
    · rw [cI_f (fun y => c y.2.1.1)] at h
      exact ⟨fun _ => h M1 L1 (fr_s f1 (by decide)) k1 (fun y => absurd y (by decide)), fun z => absurd rfl z⟩
    refine ⟨fun z => absurd z (by decide), fun _ => ?_⟩
    have hg1 : at8 (M1 2) 2400 = g := by rw [f1 2 (by decide)]; exact hg
    have hB1 : ∀ j, isBy (M1 2 j) := by rw [f1 2 (by decide)]; exact hBy
    have hm1 : mapC (M1 10) (L1 10) H Lo B := by rw [f1 10 (by decide), k1 10 (by decide)]; exact hm
    refine c_innerFourFits (hl4 g 0 + 8) (tl4 g 0) hg1 c (by omega) hq hm1 ?_
    refine zb (fun c2 => ?_) (fun c2 => ?_)
    · rw [cI_f (fun y => c2 y.2.1.2)] at h
      exact h M1 L1 (fr_s f1 (by decide)) k1 (fun y => absurd y (by decide))
    have c20 := c.1
    have hsl := sc6_l (g := g) (p := hl4 g 0) (k := ek) l4 l6
    refine c_secondToSix (hl4 g 0) ek m4 m6 hg1 (by omega) (by have := hek.resolve_left cek; omega) l4 l6 (by rw [f1 0 (by decide)]; exact e4) (by rw [f1 0 (by decide)]; exact e6) (by rw [f1 11 (by decide)]; exact h7) (by have := hq.2.2.2.2.2.2.2.2.2.2.2.2.2.1; unfold tl4 at this; rw [this]) ?_ rfl
    have hscN := nI_NO hsl
    generalize sc6 g (hl4 g 0) ek m4 m6 = sc at h hsl hscN ⊢
    refine ⟨fun c3 => ?_, fun c3 => ?_⟩
    · have csc : sc ≠ NO := fun y => c3 (hscN.mpr y)
      rw [cI_t ⟨cek, ⟨c, c2⟩, csc⟩] at h
      refine c_imageWords_12 (hl4 g 0 + 8) (tl4 g 0) hgb hq hm1 ?_
      rintro _ rfl
      have hb9 := hgb (hl4 g 0 + 8 + 9)
      have he4 : g (hl4 g 0 + 8 + 9) = 1 → 4 ≤ th4 g (hl4 g 0 + 8) (tl4 g 0) := fun z => (c2.2.2.2 z).2.1
      have hq2 : pk4 (M1 12) (ml L1 12 13 (lN (iw H Lo B (sr4 g (hl4 g 0 + 8)) (tg4 g (hl4 g 0 + 8)))) 12) g (hl4 g 0 + 8) (tl4 g 0) := hq
      refine c_putInnerSix (hl4 g 0 + 8) (tl4 g 0) kp hg1 hB1 c (by omega) (by omega) hq2 hm1 (by rw [f1 0 (by decide)]; exact hk) (fun M2 f2 b2 => ?_)
      have h8f := cI_8 (fg4 g (hl4 g 0 + 8))
      have hth := th4_le c.2.1
      have ho4 : of4 g (hl4 g 0 + 8) < 8192 := Nat.mod_lt _ (by decide)
      have htl : tl4 g (hl4 g 0 + 8) < 65536 := wd8_lt hgb _
      have c4 := c.2.2.2.1
      have i0l := i06_len g H Lo B kp (hl4 g 0 + 8) (tl4 g 0)
      have e12 : M2 12 = M1 12 := f2 12 (by decide)
      refine c_fixToSix_12 (g (hl4 g 0 + 8 + 9)) (of4 g (hl4 g 0 + 8)) (th4 g (hl4 g 0 + 8) (tl4 g 0)) (tl4 g (hl4 g 0 + 8) - hl4 g (hl4 g 0 + 8)) 8 (40 + cI (fg4 g (hl4 g 0 + 8)) 8 0) (sm8 g (hl4 g 0 + 8 + 12) 8) (iw H Lo B (sr4 g (hl4 g 0 + 8)) (tg4 g (hl4 g 0 + 8))) b2 (by rw [i0l]; omega) (by rw [i0l]; omega) (by rw [e12]; exact hq.2.2.2.1) (by rw [e12]; exact hq.2.2.2.2.2.2.1) (by rw [e12]; exact hq.2.2.2.2.2.2.2.2.1) (by rw [e12]; exact hq.2.2.2.2.2.2.2.2.2.1) hb9 ho4 (by omega) (sm8_8 hgb _) (iw_le _ _ _ _ _) hq2.2.2.2.2.2.2.2.2.2.2.2.2.2.2.2 rfl he4 (fun M3 f3 b3 => ?_) (by congr 1; omega)
      have ill := il6_len (H := H) (Lo := Lo) (B := B) (kp := kp) he4
      have b3' : holds (M3 4) 8 (il6 g H Lo B kp (hl4 g 0 + 8) (tl4 g 0)) := b3
      have e9 : M3 12 9 = nI (th4 g (hl4 g 0 + 8) (tl4 g 0)) := by rw [f3 12 (by decide), e12]; exact hq.2.2.2.2.2.2.2.2.2.1
      have el : (if (1240 : Int32) < nI (48 + cI (fg4 g (hl4 g 0 + 8)) 8 0) + M3 12 9 then (1240 : Int32) else nI (48 + cI (fg4 g (hl4 g 0 + 8)) 8 0) + M3 12 9) = nI (if 1240 < 8 + (40 + cI (fg4 g (hl4 g 0 + 8)) 8 0 + th4 g (hl4 g 0 + 8) (tl4 g 0)) then 1240 else 8 + (40 + cI (fg4 g (hl4 g 0 + 8)) 8 0 + th4 g (hl4 g 0 + 8) (tl4 g 0))) := by
        rw [e9, nI_add, show 48 + cI (fg4 g (hl4 g 0 + 8)) 8 0 + th4 g (hl4 g 0 + 8) (tl4 g 0) = 8 + (40 + cI (fg4 g (hl4 g 0 + 8)) 8 0 + th4 g (hl4 g 0 + 8) (tl4 g 0)) by omega, show (1240 : Int32) = nI 1240 from rfl, nI_if (by omega) (by omega), nI_ite]
      rw [el]
      have hbl : (if 1240 < 8 + (40 + cI (fg4 g (hl4 g 0 + 8)) 8 0 + th4 g (hl4 g 0 + 8) (tl4 g 0)) then 1240 else 8 + (40 + cI (fg4 g (hl4 g 0 + 8)) 8 0 + th4 g (hl4 g 0 + 8) (tl4 g 0))) ≤ 1240 := by split <;> omega
      rw [← ill] at hbl el h ⊢
      rintro _ rfl
      have hW := iw_le H Lo B (sr4 g 0) (tg4 g 0)
      generalize hil : il6 g H Lo B kp (hl4 g 0 + 8) (tl4 g 0) = il at b3' hbl h ill ⊢
      refine c_putMessage (il := il) ek sc (iw H Lo B (sr4 g 0) (tg4 g 0) + (if 1240 < 8 + il.length then 1240 else 8 + il.length) + 58) 1240 b3' (by omega) (by decide) (by omega) rfl (fun M4 f4 b4 => ?_) rfl rfl ?_
      · have f0 : fr M M4 [3, 4, 12] := fr_t (fr_t (fr_t (fr_s f1 (by decide)) (fr_s f2 (by decide))) (fr_t (fr_s f3 (by decide)) (mu_fr _ 3 1 _ (by decide)))) (fr_s f4 (by decide))
        refine h M4 _ f0 (frL_t k1 (ml_frL _ _ _ _ (by decide))) (fun _ => ⟨b4, ?_⟩)
        rw [mg_len (by decide), f4 3 (by decide)]
        rfl
      · have e13 : ml L1 12 13 (lN (iw H Lo B (sr4 g (hl4 g 0 + 8)) (tg4 g (hl4 g 0 + 8)))) 11 13 = lN (iw H Lo B (sr4 g 0) (tg4 g 0)) := (by rw [k1 11 (by decide)]; exact k13 : L1 11 13 = _)
        have e31 : mu M3 3 1 (nI (if 1240 < 8 + il.length then 1240 else 8 + il.length)) 3 1 = nI (if 1240 < 8 + il.length then 1240 else 8 + il.length) := rfl
        rw [e13, e31, nI_l (by omega), lN_add, show (58 : Int64) = lN 58 from rfl, lN_add]
    · rw [cI_f (fun y => y.2.2 (hscN.mp c3))] at h
      exact h M1 L1 (fr_s f1 (by decide)) k1 (fun y => absurd y (by decide))
  · rw [cI_t c1] at h
    exact h M L (fr_r _ _) (frL_r _ _) (fun y => absurd y (by decide))
