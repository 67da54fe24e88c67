/-! the headers of a packet of IPv6 -/
def isH (x : Nat) : Prop := x = 0 ∨ x = 43 ∨ x = 44 ∨ x = 60
def ofs (g : Nat → Nat) (fa : Nat) : Nat := if fa = NO then 0 else wd8 g (fa + 2) / 8
def mfs (g : Nat → Nat) (fa : Nat) : Prop := fa ≠ NO ∧ wd8 g (fa + 2) % 2 = 1
def ids (g : Nat → Nat) (fa : Nat) : Nat := if fa = NO then 0 else wd8 g (fa + 6)
def hsz (g : Nat → Nat) (x i : Nat) : Nat := if x = 44 then 8 else 8 + 8 * g (i + 1)
noncomputable def nfa (x i fa : Nat) : Nat := cI (x = 44) i fa
noncomputable def nsg (g : Nat → Nat) (x i sg : Nat) : Nat := cI (x = 43 ∧ sg = NO ∧ g (i + 3) ≠ 0) (i + 3) sg
/-- next header, where the payload begins, where a fragment header stands, where a count of segments -/
noncomputable def hx (g : Nat → Nat) (lim : Nat) : Nat → Nat → Nat → Nat → Nat → Option (Nat × Nat × Nat × Nat)
  | 0, x, i, fa, sg => some (x, i, fa, sg)
  | f + 1, x, i, fa, sg => cI (isH x ∧ ofs g fa = 0) (cI (lim < i + hsz g x i ∨ (x = 44 ∧ fa ≠ NO)) none (hx g lim f (g i) (i + hsz g x i) (nfa x i fa) (nsg g x i sg))) (some (x, i, fa, sg))
noncomputable def hdr (g : Nat → Nat) (a lim : Nat) : Option (Nat × Nat × Nat × Nat) := hx g lim (lim + 1) (g (a + 6)) (a + 40) NO NO
def hOk (a lim x i fa sg : Nat) : Prop := a + 40 ≤ i ∧ i ≤ lim ∧ x < 256 ∧ (fa = NO ∨ (a + 40 ≤ fa ∧ fa + 8 ≤ i)) ∧ (sg = NO ∨ (a + 40 ≤ sg ∧ sg < i))
def hInv (g : Nat → Nat) (a lim x i fa sg : Nat) : Prop := hOk a lim x i fa sg ∧ ∃ f, lim + 1 - i ≤ f ∧ hx g lim f x i fa sg = hdr g a lim
theorem hInv_0 {g : Nat → Nat} {a lim : Nat} (hg : ∀ i, g i < 256) (h : a + 40 ≤ lim) : hInv g a lim (g (a + 6)) (a + 40) NO NO := ⟨⟨Nat.le_refl _, h, hg _, Or.inl rfl, Or.inl rfl⟩, lim + 1, by omega, rfl⟩
theorem hInv_e {g : Nat → Nat} {a lim x i fa sg : Nat} (h : hInv g a lim x i fa sg) (c : ¬ (isH x ∧ ofs g fa = 0)) : hdr g a lim = some (x, i, fa, sg) := by
  obtain ⟨ho, f, hf, e⟩ := h
  rw [← e]
  cases f with
  | zero => rfl
  | succ f => rw [hx, cI_f c]
theorem hInv_n {g : Nat → Nat} {a lim x i fa sg : Nat} (h : hInv g a lim x i fa sg) (c : isH x ∧ ofs g fa = 0) (c2 : lim < i + hsz g x i ∨ (x = 44 ∧ fa ≠ NO)) : hdr g a lim = none := by
  obtain ⟨ho, f, hf, e⟩ := h
  have := ho.2.1
  obtain ⟨f, rfl⟩ : ∃ f', f = f' + 1 := ⟨f - 1, by omega⟩
  rw [← e, hx, cI_t c, cI_t c2]
theorem hsz_8 (g : Nat → Nat) (x i : Nat) : 8 ≤ hsz g x i := by unfold hsz; split <;> omega
theorem hInv_s {g : Nat → Nat} {a lim x i fa sg : Nat} (hg : ∀ i, g i < 256) (h : hInv g a lim x i fa sg) (c : isH x ∧ ofs g fa = 0) (c2 : ¬ (lim < i + hsz g x i ∨ (x = 44 ∧ fa ≠ NO))) : hInv g a lim (g i) (i + hsz g x i) (nfa x i fa) (nsg g x i sg) := by
  obtain ⟨ho, f, hf, e⟩ := h
  have := ho.2.1
  have h8 := hsz_8 g x i
  have h1 : ¬ lim < i + hsz g x i := fun z => c2 (Or.inl z)
  obtain ⟨f, rfl⟩ : ∃ f', f = f' + 1 := ⟨f - 1, by omega⟩
  refine ⟨⟨by have := ho.1; omega, by omega, hg _, ?_, ?_⟩, f, by omega, by rw [← e, hx, cI_t c, cI_f c2]⟩
  · unfold nfa
    have h1 := ho.1
    by_cases z : x = 44
    · rw [cI_t z]; exact Or.inr ⟨by omega, by omega⟩
    · rw [cI_f z]; rcases ho.2.2.2.1 with y | y
      · exact Or.inl y
      · exact Or.inr ⟨y.1, by omega⟩
  · unfold nsg
    have h1 := ho.1
    by_cases z : x = 43 ∧ sg = NO ∧ g (i + 3) ≠ 0
    · rw [cI_t z]; exact Or.inr ⟨by omega, by omega⟩
    · rw [cI_f z]; rcases ho.2.2.2.2 with y | y
      · exact Or.inl y
      · exact Or.inr ⟨y.1, by omega⟩
theorem ofs_lt {g : Nat → Nat} (hg : ∀ i, g i < 256) (fa : Nat) : ofs g fa < 8192 := by
  unfold ofs
  have := wd8_lt hg (fa + 2)
  split <;> omega
theorem ids_lt {g : Nat → Nat} (hg : ∀ i, g i < 256) (fa : Nat) : ids g fa < 65536 := by
  unfold ids
  have := wd8_lt hg (fa + 6)
  split <;> omega
def sgr (a sg : Nat) : Nat := if sg = NO then NO else sg - a
/-- what of the headers a row of the class tells -/
def hRow (r : Nat → Int32) (g : Nat → Nat) (a fa sg : Nat) : Prop := r 4 = nI (ids g fa) ∧ r 5 = bI (mfs g fa) ∧ r 6 = nI (ofs g fa) ∧ r 14 = bI (fa ≠ NO) ∧ r 15 = nI (sgr a sg)
theorem p_isHeader {M : cM} {L : cL} {x : Int32} {Z : Int32 → Prop} (p : Nat) (h : Z (bI (isH p))) (hp : p < 256) (hx : x = nI p) : wp_X5_isHeader M L x Z := by
  subst hx
  unfold wp_X5_isHeader
  unfold isH at h
  repeat' first
    | exact zt h (by omega)
    | exact zf h (by omega)
    | refine bz (fun c => ?_) (fun c => ?_)
    | refine zb (fun c => ?_) (fun c => ?_)
    | refine qe _ _ (fun c => ?_) (fun c => ?_) (by first | rfl | assumption) (by omega) (by omega)
    | refine qen _ _ (fun c => ?_) (fun c => ?_) (by first | rfl | assumption) (by omega) (by omega)
    | refine ql _ _ (fun c => ?_) (fun c => ?_) (by first | rfl | assumption) (by omega) (by omega)
    | refine qln _ _ (fun c => ?_) (fun c => ?_) (by first | rfl | assumption) (by omega) (by omega)
    | refine qg _ _ (fun c => ?_) (fun c => ?_) (by first | rfl | assumption) (by omega) (by omega)
    | refine qgn _ _ (fun c => ?_) (fun c => ?_) (by first | rfl | assumption) (by omega) (by omega)
    | refine qs _ _ (fun c => ?_) (fun c => ?_) (by first | rfl | assumption) (by omega) (by omega)
    | refine qsn _ _ (fun c => ?_) (fun c => ?_) (by first | rfl | assumption) (by omega) (by omega)
    | refine qb _ _ (fun c => ?_) (fun c => ?_) (by first | rfl | assumption) (by omega) (by omega)
    | refine qbn _ _ (fun c => ?_) (fun c => ?_) (by first | rfl | assumption) (by omega) (by omega)
    | refine pk_eq _ _ (fun c => ?_) (fun c => ?_) (by first | rfl | assumption) (by first | rfl | assumption) (by omega) (by omega)
    | refine pn_eq _ _ (fun c => ?_) (fun c => ?_) (by first | rfl | assumption) (by first | rfl | assumption) (by omega) (by omega)
    | refine pk_le _ _ (fun c => ?_) (fun c => ?_) (by first | rfl | assumption) (by first | rfl | assumption) (by omega) (by omega)
    | refine pn_le _ _ (fun c => ?_) (fun c => ?_) (by first | rfl | assumption) (by first | rfl | assumption) (by omega) (by omega)
    | refine pk_lt _ _ (fun c => ?_) (fun c => ?_) (by first | rfl | assumption) (by first | rfl | assumption) (by omega) (by omega)
    | refine pn_lt _ _ (fun c => ?_) (fun c => ?_) (by first | rfl | assumption) (by first | rfl | assumption) (by omega) (by omega)
    | refine And.intro (fun c => absurd c (by decide)) (fun _ => ?_)
    | refine And.intro (fun _ => ?_) (fun c => absurd rfl c)
    | refine And.intro (fun c => absurd rfl c) (fun _ => ?_)
    | refine And.intro (fun _ => ?_) (fun c => absurd c (by decide))
theorem NO_ne {n : Nat} (h : n < 3000) : n ≠ NO := by unfold NO; omega
theorem nI_m1b {w : Nat} : (nI w &&& (1 : Int32) = 0) ↔ ¬ (w % 2 = 1) := by
  have := nI_fl 0 (w := w) 1 (by decide) rfl
  rw [Nat.pow_zero, Nat.div_one] at this
  exact this
theorem c_readFragment_13 {M : cM} {L : cL} {x : Int32} {Z : cM → Prop} {g : Nat → Nat} (a i sg : Nat) (hg : at8 (M 2) 2400 = g) (hi : i + 8 ≤ 2400) (h15 : M 13 15 = nI (sgr a sg)) (h : ∀ M', fr M M' [13] → (∀ j, j ∉ [4, 5, 6, 14] → M' 13 j = M 13 j) → hRow (M' 13) g a i sg → Z M') (hx : x = nI i) : wp_X5_readFragmentHeader_13_1 M L x Z := by
  subst hx
  have hgb : ∀ i, g i < 256 := fun i => by rw [← hg]; exact at8_lt _ _ _
  have hne : i ≠ NO := NO_ne (by omega)
  have hw : wd8 g (i + 2) < 65536 := wd8_lt hgb _
  unfold wp_X5_readFragmentHeader_13_1
  rintro _ rfl
  refine c_word (i + 2) hg ?_ (by omega) (nI_add _ 2)
  rw [show nI (wd8 g (i + 2)) >>> ((3 : Int32) &&& 31) = nI (wd8 g (i + 2) / 8) from pk_shrN (by omega) _ 3 (by decide)]
  rintro _ rfl
  refine ⟨fun v => v = bI (wd8 g (i + 2) % 2 = 1), ?_, kfl nI_m1b⟩
  rintro _ rfl
  refine ⟨isB_bI _, ?_⟩
  rintro _ rfl
  refine c_word (i + 6) hg ?_ (by omega) (nI_add _ 6)
  rintro _ rfl
  refine h _ ?_ ?_ ⟨?_, ?_, ?_, ?_, h15⟩
  · repeat' first | exact fr_r _ _ | refine fr_t ?_ (mu_fr _ _ _ _ (by decide))
  · intro j hj
    have n4 : j ≠ 4 := fun z => hj (by rw [z]; decide)
    have n5 : j ≠ 5 := fun z => hj (by rw [z]; decide)
    have n6 : j ≠ 6 := fun z => hj (by rw [z]; decide)
    have n14 : j ≠ 14 := fun z => hj (by rw [z]; decide)
    rw [mu_oth _ _ _ _ n4, mu_oth _ _ _ _ n5, mu_oth _ _ _ _ n6, mu_oth _ _ _ _ n14]
  · show nI (wd8 g (i + 6)) = _
    unfold ids; rw [if_neg hne]
  · show bI (wd8 g (i + 2) % 2 = 1) = _
    exact bI_congr ⟨fun z => ⟨hne, z⟩, fun z => z.2⟩
  · show nI (wd8 g (i + 2) / 8) = _
    unfold ofs; rw [if_neg hne]
  · exact (bI_t hne).symm
theorem c_readHeaders_13 {M : cM} {L : cL} {x : Int32} {Z : Int32 → cM → Prop} {g : Nat → Nat} (a lim : Nat) (hg : at8 (M 2) 2400 = g) (h0 : M 13 0 = nI a) (hal : a + 40 ≤ lim) (hl : lim ≤ 2400)
    (hn : hdr g a lim = none → ∀ M', fr M M' [13] → Z 0 M')
    (hs : ∀ x i fa sg, hdr g a lim = some (x, i, fa, sg) → hOk a lim x i fa sg → ∀ M', fr M M' [13] → (∀ j, j ∉ [3, 4, 5, 6, 7, 14, 15] → M' 13 j = M 13 j) → hRow (M' 13) g a fa sg → M' 13 3 = nI x → M' 13 7 = nI i → Z 1 M') (hx : x = nI lim) : wp_X5_readHeaders_13_1 M L x Z := by
  subst hx
  have hgb : ∀ i, g i < 256 := fun i => by rw [← hg]; exact at8_lt _ _ _
  unfold wp_X5_readHeaders_13_1 wp_X5_forgetHeaders_13
  rw [h0]
  refine c_at (a + 6) hg ?_ (by omega) (nI_add _ 6)
  rw [show nI a + (40 : Int32) = nI (a + 40) from nI_add _ 40]
  rintro _ rfl
  rintro _ rfl _ rfl _ rfl _ rfl _ rfl
  refine ⟨fun x4 x5 x6 M7 => ∃ x i k fa sg, x4 = nI x ∧ x5 = nI i ∧ x6 = nI k ∧ hInv g a lim x i fa sg ∧ 8 * k + 40 ≤ i ∧ fr M M7 [13] ∧ (∀ j, j ∉ [4, 5, 6, 14, 15] → M7 13 j = M 13 j) ∧ hRow (M7 13) g a fa sg, fun _ x5 _ _ => 3000 - x5.toNatClampNeg, ?_, ?_⟩
  · refine ⟨g (a + 6), a + 40, 0, NO, NO, rfl, rfl, rfl, hInv_0 hgb hal, by omega, ?_, ?_, ⟨?_, ?_, ?_, ?_, ?_⟩⟩
    · repeat' first | exact fr_r _ _ | refine fr_t ?_ (mu_fr _ _ _ _ (by decide))
    · intro j hj
      have n4 : j ≠ 4 := fun z => hj (by rw [z]; decide)
      have n5 : j ≠ 5 := fun z => hj (by rw [z]; decide)
      have n6 : j ≠ 6 := fun z => hj (by rw [z]; decide)
      have n14 : j ≠ 14 := fun z => hj (by rw [z]; decide)
      have n15 : j ≠ 15 := fun z => hj (by rw [z]; decide)
      rw [mu_oth _ _ _ _ n15, mu_oth _ _ _ _ n4, mu_oth _ _ _ _ n6, mu_oth _ _ _ _ n5, mu_oth _ _ _ _ n14]
    · show (0 : Int32) = _
      unfold ids; rw [if_pos rfl]; rfl
    · exact (bI_f (fun z => z.1 rfl)).symm
    · show (0 : Int32) = _
      unfold ofs; rw [if_pos rfl]; rfl
    · exact (bI_f (fun z => z rfl)).symm
    · show (-1 : Int32) = _
      unfold sgr; rw [if_pos rfl]; exact nI_m1.symm
  rintro _ _ _ M7 ⟨x, i, k, fa, sg, rfl, rfl, rfl, hi, hk, f7, s7, r7⟩
  have hg7 : at8 (M7 2) 2400 = g := by rw [f7 2 (by decide)]; exact hg
  obtain ⟨o1, o2, o3, o4, o5⟩ := hi.1
  have hof := ofs_lt hgb fa
  have hb1 := hgb (i + 1)
  have hb3 := hgb (i + 3)
  have h8 := hsz_8 g x i
  have hz : hsz g x i ≤ 2048 := by unfold hsz; split <;> omega
  by_cases c1 : isH x ∧ ofs g fa = 0
  rotate_left
  · refine ⟨True, fun _ => ?_, ?_⟩
    · rintro _ rfl _ rfl
      refine hs x i fa sg (hInv_e hi c1) hi.1 _ (fr_t f7 (fr_t (mu_fr _ _ _ _ (by decide)) (mu_fr _ _ _ _ (by decide)))) ?_ r7 rfl rfl
      intro j hj
      have n3 : j ≠ 3 := fun z => hj (by rw [z]; decide)
      have n7 : j ≠ 7 := fun z => hj (by rw [z]; decide)
      rw [mu_oth _ _ _ _ n7, mu_oth _ _ _ _ n3]
      exact s7 j (fun z => hj ((show ∀ c, c ∈ [4, 5, 6, 14, 15] → c ∈ [3, 4, 5, 6, 7, 14, 15] from by decide) j z))
    · refine qg k _ (fun c => by omega) (fun _ => ?_) rfl (by omega) (by omega)
      refine p_isHeader x ?_ o3 rfl
      refine bz (fun _ => trivial) (fun c2 => ?_)
      rw [r7.2.2.1]
      exact qen (ofs g fa) _ (fun c3 => absurd ⟨c2, c3⟩ c1) (fun _ => trivial) rfl (by omega) (by omega)
  · refine ⟨False, False.elim, ?_⟩
    refine qg k _ (fun c => by omega) (fun _ => ?_) rfl (by omega) (by omega)
    refine p_isHeader x ?_ o3 rfl
    refine bz (fun z => absurd c1.1 z) (fun _ => ?_)
    rw [r7.2.2.1]
    refine qen (ofs g fa) _ (fun _ => ?_) (fun z => absurd c1.2 z) rfl (by omega) (by omega)
    refine ⟨fun v => v = nI (hsz g x i), ?_, ?_⟩
    rotate_left
    · unfold hsz
      refine qen x _ (fun c => by rw [if_pos c]; rfl) (fun c => ?_) rfl (by omega) (by omega)
      refine c_at (i + 1) hg7 ?_ (by omega) (nI_add _ 1)
      rw [if_neg c, show (8 : Int32) = nI 8 from rfl, nI_mul', nI_add]
    rintro _ rfl
    refine pk_lt lim (i + hsz g x i) (fun c => hn (hInv_n hi c1 (Or.inl c)) M7 f7) (fun c2 => ?_) rfl (nI_add _ _) (by omega) (by omega)
    by_cases c3 : x = 44 ∧ fa ≠ NO
    · refine ⟨False, False.elim, ?_⟩
      refine qen x _ (fun _ => ?_) (fun z => absurd c3.1 z) rfl (by omega) (by omega)
      rw [r7.2.2.2.1]
      exact bz (fun z => absurd c3.2 z) (fun _ => hn (hInv_n hi c1 (Or.inr c3)) M7 f7)
    refine ⟨True, fun _ => ?_, ?_⟩
    rotate_left
    · refine qen x _ (fun c4 => ?_) (fun _ => trivial) rfl (by omega) (by omega)
      rw [r7.2.2.2.1]
      exact bz (fun _ => trivial) (fun z => absurd ⟨c4, z⟩ c3)
    have hnew := hInv_s hgb hi c1 (fun z => z.elim (fun y => by omega) c3)
    refine ⟨fun M' => fr M M' [13] ∧ (∀ j, j ∉ [4, 5, 6, 14, 15] → M' 13 j = M 13 j) ∧ hRow (M' 13) g a (nfa x i fa) sg, ?_, ?_⟩
    rotate_left
    · refine qen x _ (fun c4 => ?_) (fun c4 => ?_) rfl (by omega) (by omega)
      · refine c_readFragment_13 a i sg hg7 (by omega) r7.2.2.2.2 (fun M' f' s' r' => ?_) rfl
        refine ⟨fr_t f7 f', fun j hj => ?_, ?_⟩
        · rw [s' j (fun z => hj ((show ∀ c, c ∈ [4, 5, 6, 14] → c ∈ [4, 5, 6, 14, 15] from by decide) j z))]; exact s7 j hj
        · unfold nfa; rw [cI_t c4]; exact r'
      · refine ⟨f7, s7, ?_⟩
        unfold nfa; rw [cI_f c4]; exact r7
    rintro M16 ⟨f16, s16, r16⟩
    have hg16 : at8 (M16 2) 2400 = g := by rw [f16 2 (by decide)]; exact hg
    refine ⟨fun M' => fr M M' [13] ∧ (∀ j, j ∉ [4, 5, 6, 14, 15] → M' 13 j = M 13 j) ∧ hRow (M' 13) g a (nfa x i fa) (nsg g x i sg), ?_, ?_⟩
    · rintro M17 ⟨f17, s17, r17⟩
      refine c_at (g := g) i (by rw [f17 2 (by decide)]; exact hg) ?_ (by omega) rfl
      rintro _ rfl _ rfl
      refine ⟨⟨g i, i + hsz g x i, k + 1, nfa x i fa, nsg g x i sg, rfl, nI_add _ _, nI_1 k, hnew, by omega, f17, s17, r17⟩, ?_⟩
      dsimp only
      rw [nI_add, nI_clamp (by omega), nI_clamp (by omega)]
      omega
    · have hsg : (nI (sgr a sg) = (-1 : Int32)) ↔ sg = NO := by
        unfold sgr
        by_cases z : sg = NO
        · rw [if_pos z]; exact ⟨fun _ => z, fun _ => nI_m1⟩
        · rw [if_neg z]
          have y := o5.resolve_left z
          rw [nI_NO (by omega)]
          exact ⟨fun w => absurd w (NO_ne (by omega)), fun w => absurd w z⟩
      by_cases c4 : x = 43 ∧ sg = NO ∧ g (i + 3) ≠ 0
      · have en : nsg g x i sg = i + 3 := cI_t c4
        refine qen x _ (fun _ => ?_) (fun z => absurd c4.1 z) rfl (by omega) (by omega)
        rw [r16.2.2.2.2]
        refine ⟨fun z => absurd (hsg.mpr c4.2.1) z, fun _ => ?_⟩
        refine c_at (i + 3) hg16 ?_ (by omega) (nI_add _ 3)
        refine qe (g (i + 3)) _ (fun z => absurd z c4.2.2) (fun _ => ?_) rfl (by omega) (by omega)
        rw [s16 0 (by decide), h0, show nI i + (3 : Int32) = nI (i + 3) from nI_add _ 3, show nI (i + 3) - nI a = nI (i + 3 - a) from pk_sub (by omega)]
        rintro _ rfl
        refine ⟨fr_t f16 (mu_fr _ _ _ _ (by decide)), fun j hj => ?_, ⟨r16.1, r16.2.1, r16.2.2.1, r16.2.2.2.1, ?_⟩⟩
        · rw [mu_oth _ _ _ _ (fun z => hj (by rw [z]; decide))]; exact s16 j hj
        · show nI (i + 3 - a) = _
          rw [en]; unfold sgr; rw [if_neg (NO_ne (by omega))]
      · have en : nsg g x i sg = sg := cI_f c4
        have stay : fr M M16 [13] ∧ (∀ j, j ∉ [4, 5, 6, 14, 15] → M16 13 j = M 13 j) ∧ hRow (M16 13) g a (nfa x i fa) (nsg g x i sg) := by rw [en]; exact ⟨f16, s16, r16⟩
        refine qen x _ (fun c5 => ?_) (fun _ => stay) rfl (by omega) (by omega)
        rw [r16.2.2.2.2]
        refine ⟨fun _ => stay, fun z => ?_⟩
        refine c_at (i + 3) hg16 ?_ (by omega) (nI_add _ 3)
        exact qe (g (i + 3)) _ (fun _ => stay) (fun y => absurd ⟨c5, hsg.mp z, y⟩ c4) rfl (by omega) (by omega)
theorem c_readFragment_14 {M : cM} {L : cL} {x : Int32} {Z : cM → Prop} {g : Nat → Nat} (a i sg : Nat) (hg : at8 (M 2) 2400 = g) (hi : i + 8 ≤ 2400) (h15 : M 14 15 = nI (sgr a sg)) (h : ∀ M', fr M M' [14] → (∀ j, j ∉ [4, 5, 6, 14] → M' 14 j = M 14 j) → hRow (M' 14) g a i sg → Z M') (hx : x = nI i) : wp_X5_readFragmentHeader_14_1 M L x Z := by
  subst hx
  have hgb : ∀ i, g i < 256 := fun i => by rw [← hg]; exact at8_lt _ _ _
  have hne : i ≠ NO := NO_ne (by omega)
  have hw : wd8 g (i + 2) < 65536 := wd8_lt hgb _
  unfold wp_X5_readFragmentHeader_14_1
  rintro _ rfl
  refine c_word (i + 2) hg ?_ (by omega) (nI_add _ 2)
  rw [show nI (wd8 g (i + 2)) >>> ((3 : Int32) &&& 31) = nI (wd8 g (i + 2) / 8) from pk_shrN (by omega) _ 3 (by decide)]
  rintro _ rfl
  refine ⟨fun v => v = bI (wd8 g (i + 2) % 2 = 1), ?_, kfl nI_m1b⟩
  rintro _ rfl
  refine ⟨isB_bI _, ?_⟩
  rintro _ rfl
  refine c_word (i + 6) hg ?_ (by omega) (nI_add _ 6)
  rintro _ rfl
  refine h _ ?_ ?_ ⟨?_, ?_, ?_, ?_, h15⟩
  · repeat' first | exact fr_r _ _ | refine fr_t ?_ (mu_fr _ _ _ _ (by decide))
  · intro j hj
    have n4 : j ≠ 4 := fun z => hj (by rw [z]; decide)
    have n5 : j ≠ 5 := fun z => hj (by rw [z]; decide)
    have n6 : j ≠ 6 := fun z => hj (by rw [z]; decide)
    have n14 : j ≠ 14 := fun z => hj (by rw [z]; decide)
    rw [mu_oth _ _ _ _ n4, mu_oth _ _ _ _ n5, mu_oth _ _ _ _ n6, mu_oth _ _ _ _ n14]
  · show nI (wd8 g (i + 6)) = _
    unfold ids; rw [if_neg hne]
  · show bI (wd8 g (i + 2) % 2 = 1) = _
    exact bI_congr ⟨fun z => ⟨hne, z⟩, fun z => z.2⟩
  · show nI (wd8 g (i + 2) / 8) = _
    unfold ofs; rw [if_neg hne]
  · exact (bI_t hne).symm
theorem c_readHeaders_14 {M : cM} {L : cL} {x : Int32} {Z : Int32 → cM → Prop} {g : Nat → Nat} (a lim : Nat) (hg : at8 (M 2) 2400 = g) (h0 : M 14 0 = nI a) (hal : a + 40 ≤ lim) (hl : lim ≤ 2400)
    (hn : hdr g a lim = none → ∀ M', fr M M' [14] → Z 0 M')
    (hs : ∀ x i fa sg, hdr g a lim = some (x, i, fa, sg) → hOk a lim x i fa sg → ∀ M', fr M M' [14] → (∀ j, j ∉ [3, 4, 5, 6, 7, 14, 15] → M' 14 j = M 14 j) → hRow (M' 14) g a fa sg → M' 14 3 = nI x → M' 14 7 = nI i → Z 1 M') (hx : x = nI lim) : wp_X5_readHeaders_14_1 M L x Z := by
  subst hx
  have hgb : ∀ i, g i < 256 := fun i => by rw [← hg]; exact at8_lt _ _ _
  unfold wp_X5_readHeaders_14_1 wp_X5_forgetHeaders_14
  rw [h0]
  refine c_at (a + 6) hg ?_ (by omega) (nI_add _ 6)
  rw [show nI a + (40 : Int32) = nI (a + 40) from nI_add _ 40]
  rintro _ rfl
  rintro _ rfl _ rfl _ rfl _ rfl _ rfl
  refine ⟨fun x4 x5 x6 M7 => ∃ x i k fa sg, x4 = nI x ∧ x5 = nI i ∧ x6 = nI k ∧ hInv g a lim x i fa sg ∧ 8 * k + 40 ≤ i ∧ fr M M7 [14] ∧ (∀ j, j ∉ [4, 5, 6, 14, 15] → M7 14 j = M 14 j) ∧ hRow (M7 14) g a fa sg, fun _ x5 _ _ => 3000 - x5.toNatClampNeg, ?_, ?_⟩
  · refine ⟨g (a + 6), a + 40, 0, NO, NO, rfl, rfl, rfl, hInv_0 hgb hal, by omega, ?_, ?_, ⟨?_, ?_, ?_, ?_, ?_⟩⟩
    · repeat' first | exact fr_r _ _ | refine fr_t ?_ (mu_fr _ _ _ _ (by decide))
    · intro j hj
      have n4 : j ≠ 4 := fun z => hj (by rw [z]; decide)
      have n5 : j ≠ 5 := fun z => hj (by rw [z]; decide)
      have n6 : j ≠ 6 := fun z => hj (by rw [z]; decide)
      have n14 : j ≠ 14 := fun z => hj (by rw [z]; decide)
      have n15 : j ≠ 15 := fun z => hj (by rw [z]; decide)
      rw [mu_oth _ _ _ _ n15, mu_oth _ _ _ _ n4, mu_oth _ _ _ _ n6, mu_oth _ _ _ _ n5, mu_oth _ _ _ _ n14]
    · show (0 : Int32) = _
      unfold ids; rw [if_pos rfl]; rfl
    · exact (bI_f (fun z => z.1 rfl)).symm
    · show (0 : Int32) = _
      unfold ofs; rw [if_pos rfl]; rfl
    · exact (bI_f (fun z => z rfl)).symm
    · show (-1 : Int32) = _
      unfold sgr; rw [if_pos rfl]; exact nI_m1.symm
  rintro _ _ _ M7 ⟨x, i, k, fa, sg, rfl, rfl, rfl, hi, hk, f7, s7, r7⟩
  have hg7 : at8 (M7 2) 2400 = g := by rw [f7 2 (by decide)]; exact hg
  obtain ⟨o1, o2, o3, o4, o5⟩ := hi.1
  have hof := ofs_lt hgb fa
  have hb1 := hgb (i + 1)
  have hb3 := hgb (i + 3)
  have h8 := hsz_8 g x i
  have hz : hsz g x i ≤ 2048 := by unfold hsz; split <;> omega
  by_cases c1 : isH x ∧ ofs g fa = 0
  rotate_left
  · refine ⟨True, fun _ => ?_, ?_⟩
    · rintro _ rfl _ rfl
      refine hs x i fa sg (hInv_e hi c1) hi.1 _ (fr_t f7 (fr_t (mu_fr _ _ _ _ (by decide)) (mu_fr _ _ _ _ (by decide)))) ?_ r7 rfl rfl
      intro j hj
      have n3 : j ≠ 3 := fun z => hj (by rw [z]; decide)
      have n7 : j ≠ 7 := fun z => hj (by rw [z]; decide)
      rw [mu_oth _ _ _ _ n7, mu_oth _ _ _ _ n3]
      exact s7 j (fun z => hj ((show ∀ c, c ∈ [4, 5, 6, 14, 15] → c ∈ [3, 4, 5, 6, 7, 14, 15] from by decide) j z))
    · refine qg k _ (fun c => by omega) (fun _ => ?_) rfl (by omega) (by omega)
      refine p_isHeader x ?_ o3 rfl
      refine bz (fun _ => trivial) (fun c2 => ?_)
      rw [r7.2.2.1]
      exact qen (ofs g fa) _ (fun c3 => absurd ⟨c2, c3⟩ c1) (fun _ => trivial) rfl (by omega) (by omega)
  · refine ⟨False, False.elim, ?_⟩
    refine qg k _ (fun c => by omega) (fun _ => ?_) rfl (by omega) (by omega)
    refine p_isHeader x ?_ o3 rfl
    refine bz (fun z => absurd c1.1 z) (fun _ => ?_)
    rw [r7.2.2.1]
    refine qen (ofs g fa) _ (fun _ => ?_) (fun z => absurd c1.2 z) rfl (by omega) (by omega)
    refine ⟨fun v => v = nI (hsz g x i), ?_, ?_⟩
    rotate_left
    · unfold hsz
      refine qen x _ (fun c => by rw [if_pos c]; rfl) (fun c => ?_) rfl (by omega) (by omega)
      refine c_at (i + 1) hg7 ?_ (by omega) (nI_add _ 1)
      rw [if_neg c, show (8 : Int32) = nI 8 from rfl, nI_mul', nI_add]
    rintro _ rfl
    refine pk_lt lim (i + hsz g x i) (fun c => hn (hInv_n hi c1 (Or.inl c)) M7 f7) (fun c2 => ?_) rfl (nI_add _ _) (by omega) (by omega)
    by_cases c3 : x = 44 ∧ fa ≠ NO
    · refine ⟨False, False.elim, ?_⟩
      refine qen x _ (fun _ => ?_) (fun z => absurd c3.1 z) rfl (by omega) (by omega)
      rw [r7.2.2.2.1]
      exact bz (fun z => absurd c3.2 z) (fun _ => hn (hInv_n hi c1 (Or.inr c3)) M7 f7)
    refine ⟨True, fun _ => ?_, ?_⟩
    rotate_left
    · refine qen x _ (fun c4 => ?_) (fun _ => trivial) rfl (by omega) (by omega)
      rw [r7.2.2.2.1]
      exact bz (fun _ => trivial) (fun z => absurd ⟨c4, z⟩ c3)
    have hnew := hInv_s hgb hi c1 (fun z => z.elim (fun y => by omega) c3)
    refine ⟨fun M' => fr M M' [14] ∧ (∀ j, j ∉ [4, 5, 6, 14, 15] → M' 14 j = M 14 j) ∧ hRow (M' 14) g a (nfa x i fa) sg, ?_, ?_⟩
    rotate_left
    · refine qen x _ (fun c4 => ?_) (fun c4 => ?_) rfl (by omega) (by omega)
      · refine c_readFragment_14 a i sg hg7 (by omega) r7.2.2.2.2 (fun M' f' s' r' => ?_) rfl
        refine ⟨fr_t f7 f', fun j hj => ?_, ?_⟩
        · rw [s' j (fun z => hj ((show ∀ c, c ∈ [4, 5, 6, 14] → c ∈ [4, 5, 6, 14, 15] from by decide) j z))]; exact s7 j hj
        · unfold nfa; rw [cI_t c4]; exact r'
      · refine ⟨f7, s7, ?_⟩
        unfold nfa; rw [cI_f c4]; exact r7
    rintro M16 ⟨f16, s16, r16⟩
    have hg16 : at8 (M16 2) 2400 = g := by rw [f16 2 (by decide)]; exact hg
    refine ⟨fun M' => fr M M' [14] ∧ (∀ j, j ∉ [4, 5, 6, 14, 15] → M' 14 j = M 14 j) ∧ hRow (M' 14) g a (nfa x i fa) (nsg g x i sg), ?_, ?_⟩
    · rintro M17 ⟨f17, s17, r17⟩
      refine c_at (g := g) i (by rw [f17 2 (by decide)]; exact hg) ?_ (by omega) rfl
      rintro _ rfl _ rfl
      refine ⟨⟨g i, i + hsz g x i, k + 1, nfa x i fa, nsg g x i sg, rfl, nI_add _ _, nI_1 k, hnew, by omega, f17, s17, r17⟩, ?_⟩
      dsimp only
      rw [nI_add, nI_clamp (by omega), nI_clamp (by omega)]
      omega
    · have hsg : (nI (sgr a sg) = (-1 : Int32)) ↔ sg = NO := by
        unfold sgr
        by_cases z : sg = NO
        · rw [if_pos z]; exact ⟨fun _ => z, fun _ => nI_m1⟩
        · rw [if_neg z]
          have y := o5.resolve_left z
          rw [nI_NO (by omega)]
          exact ⟨fun w => absurd w (NO_ne (by omega)), fun w => absurd w z⟩
      by_cases c4 : x = 43 ∧ sg = NO ∧ g (i + 3) ≠ 0
      · have en : nsg g x i sg = i + 3 := cI_t c4
        refine qen x _ (fun _ => ?_) (fun z => absurd c4.1 z) rfl (by omega) (by omega)
        rw [r16.2.2.2.2]
        refine ⟨fun z => absurd (hsg.mpr c4.2.1) z, fun _ => ?_⟩
        refine c_at (i + 3) hg16 ?_ (by omega) (nI_add _ 3)
        refine qe (g (i + 3)) _ (fun z => absurd z c4.2.2) (fun _ => ?_) rfl (by omega) (by omega)
        rw [s16 0 (by decide), h0, show nI i + (3 : Int32) = nI (i + 3) from nI_add _ 3, show nI (i + 3) - nI a = nI (i + 3 - a) from pk_sub (by omega)]
        rintro _ rfl
        refine ⟨fr_t f16 (mu_fr _ _ _ _ (by decide)), fun j hj => ?_, ⟨r16.1, r16.2.1, r16.2.2.1, r16.2.2.2.1, ?_⟩⟩
        · rw [mu_oth _ _ _ _ (fun z => hj (by rw [z]; decide))]; exact s16 j hj
        · show nI (i + 3 - a) = _
          rw [en]; unfold sgr; rw [if_neg (NO_ne (by omega))]
      · have en : nsg g x i sg = sg := cI_f c4
        have stay : fr M M16 [14] ∧ (∀ j, j ∉ [4, 5, 6, 14, 15] → M16 14 j = M 14 j) ∧ hRow (M16 14) g a (nfa x i fa) (nsg g x i sg) := by rw [en]; exact ⟨f16, s16, r16⟩
        refine qen x _ (fun c5 => ?_) (fun _ => stay) rfl (by omega) (by omega)
        rw [r16.2.2.2.2]
        refine ⟨fun _ => stay, fun z => ?_⟩
        refine c_at (i + 3) hg16 ?_ (by omega) (nI_add _ 3)
        exact qe (g (i + 3)) _ (fun _ => stay) (fun y => absurd ⟨c5, hsg.mp z, y⟩ c4) rfl (by omega) (by omega)
/-! the reference reads them -/
theorem and_65528 {w : Nat} (h : w < 65536) : w &&& 65528 = w / 8 * 8 := by
  apply Nat.eq_of_testBit_eq
  intro i
  have e1 : (65528 : Nat) = 2 ^ 3 * (2 ^ 13 - 1) := by decide
  have e2 : w / 8 * 8 = 2 ^ 3 * (w / 2 ^ 3) := by omega
  rw [Nat.testBit_and, e1, e2, Nat.testBit_two_pow_mul, Nat.testBit_two_pow_mul, Nat.testBit_two_pow_sub_one, Nat.testBit_div_two_pow]
  by_cases c : 3 ≤ i
  · rw [decide_eq_true c, Bool.true_and, Bool.true_and, show i - 3 + 3 = i by omega]
    by_cases c2 : i - 3 < 13
    · rw [decide_eq_true c2, Bool.and_true]
    · rw [decide_eq_false c2, Bool.and_false]
      exact (Nat.testBit_lt_two_pow (Nat.lt_of_lt_of_le h (show (65536 : Nat) ≤ 2 ^ i from Nat.pow_le_pow_right (n := 2) (i := 16) (by decide) (by omega)))).symm
  · rw [decide_eq_false c, Bool.false_and, Bool.false_and, Bool.and_false]
def rRow (M : cM) (g : Nat → Nat) (fa sg : Nat) : Prop := M 0 33 = nI (ofs g fa * 8) ∧ M 0 34 = bI (mfs g fa) ∧ M 0 41 = nI fa ∧ M 0 42 = nI sg
theorem d_headers {M : cM} {L : cL} {x y : Int32} {Z : Int32 → cM → Prop} {g : Nat → Nat} (a lim : Nat) (hg : at8 (M 1) 2400 = g) (hBy : ∀ j, isBy (M 1 j)) (hal : a + 40 ≤ lim) (hl : lim ≤ 2400)
    (hn : hdr g a lim = none → ∀ M', fz M M' [0] [33, 34, 41, 42] → Z 0 M')
    (hs : ∀ x i fa sg, hdr g a lim = some (x, i, fa, sg) → hOk a lim x i fa sg → ∀ M', fz M M' [0] [33, 34, 35, 40, 41, 42] → rRow M' g fa sg → M' 0 35 = nI x → M' 0 40 = nI i → Z 1 M') (hx : x = nI a) (hy : y = nI lim) : wp_X7_headers_0 M L x y Z := by
  subst hx hy
  have hgb : ∀ i, g i < 256 := fun i => by rw [← hg]; exact at8_lt _ _ _
  unfold wp_X7_headers_0
  refine d_oct (a + 6) hg ?_ (by omega) (nI_add _ 6)
  rw [show nI a + (40 : Int32) = nI (a + 40) from nI_add _ 40]
  rintro _ rfl
  rintro _ rfl _ rfl _ rfl _ rfl
  refine ⟨fun x7 x8 M9 => ∃ x i fa sg, x7 = nI x ∧ x8 = nI i ∧ hInv g a lim x i fa sg ∧ fz M M9 [0] [33, 34, 41, 42] ∧ rRow M9 g fa sg, fun _ x8 _ => 3000 - x8.toNatClampNeg, ?_, ?_⟩
  · refine ⟨g (a + 6), a + 40, NO, NO, rfl, rfl, hInv_0 hgb hal, ?_, ⟨?_, ?_, ?_, ?_⟩⟩
    · repeat' first | exact fz_r _ _ _ | refine fz_t ?_ (mu_fz0 _ _ _ (by decide) (by decide))
    · show (0 : Int32) = _
      unfold ofs; rw [if_pos rfl]; rfl
    · exact (bI_f (fun z => z.1 rfl)).symm
    · exact nI_m1.symm
    · exact nI_m1.symm
  rintro _ _ M9 ⟨x, i, fa, sg, rfl, rfl, hi, f9, r9⟩
  have hg9 : at8 (M9 1) 2400 = g := by rw [f9.1 1 (by decide)]; exact hg
  have hB9 : ∀ j, isBy (M9 1 j) := by rw [f9.1 1 (by decide)]; exact hBy
  obtain ⟨o1, o2, o3, o4, o5⟩ := hi.1
  have hof := ofs_lt hgb fa
  have hb1 := hgb (i + 1)
  have hb3 := hgb (i + 3)
  have h8 := hsz_8 g x i
  have hz : hsz g x i ≤ 2048 := by unfold hsz; split <;> omega
  have hfa3 : fa = NO ∨ fa < 3000 := by rcases o4 with z | z; exact Or.inl z; exact Or.inr (by omega)
  have hsg3 : sg = NO ∨ sg < 3000 := by rcases o5 with z | z; exact Or.inl z; exact Or.inr (by omega)
  rw [r9.1]
  by_cases c1 : isH x ∧ ofs g fa = 0
  rotate_left
  · refine ⟨True, fun _ => ?_, ?_⟩
    · rintro _ rfl _ rfl
      exact hs x i fa sg (hInv_e hi c1) hi.1 _ (fz_t (fz_s f9 (by decide) (by decide)) (fz_t (mu_fz0 _ _ _ (by decide) (by decide)) (mu_fz0 _ _ _ (by decide) (by decide)))) r9 rfl rfl
    · refine qen (ofs g fa * 8) _ (fun c2 => ?_) (fun _ => trivial) rfl (by omega) (by omega)
      have hnh : ¬ isH x := fun z => c1 ⟨z, by omega⟩
      unfold isH at hnh
      refine ⟨False, False.elim, ?_⟩
      refine qe x _ (fun z => hnh (Or.inl z)) (fun _ => ?_) rfl (by omega) (by omega)
      refine qe x _ (fun z => hnh (Or.inr (Or.inl z))) (fun _ => ?_) rfl (by omega) (by omega)
      refine qe x _ (fun z => hnh (Or.inr (Or.inr (Or.inr z)))) (fun _ => ?_) rfl (by omega) (by omega)
      exact qen x _ (fun z => hnh (Or.inr (Or.inr (Or.inl z)))) (fun _ => trivial) rfl (by omega) (by omega)
  refine ⟨False, False.elim, ?_⟩
  refine qen (ofs g fa * 8) _ (fun _ => ?_) (fun z => by have := c1.2; omega) rfl (by omega) (by omega)
  refine ⟨True, fun _ => ?_, ?_⟩
  rotate_left
  · have hh := c1.1
    unfold isH at hh
    refine qe x _ (fun _ => trivial) (fun n0 => ?_) rfl (by omega) (by omega)
    refine qe x _ (fun _ => trivial) (fun n1 => ?_) rfl (by omega) (by omega)
    refine qe x _ (fun _ => trivial) (fun n2 => ?_) rfl (by omega) (by omega)
    exact qen x _ (fun _ => trivial) (fun n3 => by omega) rfl (by omega) (by omega)
  refine pk_le (i + 8) lim (fun c8 => ?_) (fun c8 => hn (hInv_n hi c1 (Or.inl (by omega))) M9 f9) (nI_add _ 8) rfl (by omega) (by omega)
  refine ⟨fun v => v = nI (hsz g x i), ?_, ?_⟩
  rotate_left
  · unfold hsz
    refine qen x _ (fun c => by rw [if_pos c]; rfl) (fun c => ?_) rfl (by omega) (by omega)
    refine d_oct (i + 1) hg9 ?_ (by omega) (nI_add _ 1)
    rw [if_neg c, show (8 : Int32) = nI 8 from rfl, nI_mul', nI_add]
  rintro _ rfl
  refine pk_lt lim (i + hsz g x i) (fun c => hn (hInv_n hi c1 (Or.inl c)) M9 f9) (fun c2 => ?_) rfl (nI_add _ _) (by omega) (by omega)
  by_cases c3 : x = 44 ∧ fa ≠ NO
  · refine ⟨False, False.elim, ?_⟩
    refine qen x _ (fun _ => ?_) (fun z => absurd c3.1 z) rfl (by omega) (by omega)
    rw [r9.2.2.1]
    exact nI_neg hfa3 (fun z => absurd z c3.2) (fun _ => hn (hInv_n hi c1 (Or.inr c3)) M9 f9)
  refine ⟨True, fun _ => ?_, ?_⟩
  rotate_left
  · refine qen x _ (fun c4 => ?_) (fun _ => trivial) rfl (by omega) (by omega)
    rw [r9.2.2.1]
    exact nI_neg hfa3 (fun _ => trivial) (fun z => absurd ⟨c4, z⟩ c3)
  have hnew := hInv_s hgb hi c1 (fun z => z.elim (fun y => by omega) c3)
  have raw3 : (M9 1 (i + 3) = 0) ↔ g (i + 3) = 0 := d_raw hg9 hB9 (by omega) (n := 0) (by decide)
  have v3 : vp_in (nI (i + 3)) 2400 := vp_in_nI (by omega) (by decide)
  refine ⟨fun M' => fz M M' [0] [33, 34, 41, 42] ∧ rRow M' g fa (nsg g x i sg), ?_, ?_⟩
  rotate_left
  · rw [show nI i + (3 : Int32) = nI (i + 3) from nI_add _ 3, nI_clamp (by omega), raw3, r9.2.2.2]
    by_cases c4 : x = 43 ∧ sg = NO ∧ g (i + 3) ≠ 0
    · have en : nsg g x i sg = i + 3 := cI_t c4
      refine qen x _ (fun _ => ?_) (fun z => absurd c4.1 z) rfl (by omega) (by omega)
      refine ⟨v3, fun z => absurd z c4.2.2, fun _ => ?_⟩
      rw [c4.2.1]
      refine ⟨fun z => absurd z (by decide), fun _ => ?_⟩
      rintro _ rfl
      refine ⟨fz_t f9 (mu_fz0 _ _ _ (by decide) (by decide)), ⟨r9.1, r9.2.1, r9.2.2.1, ?_⟩⟩
      rw [c4.2.1] at en
      rw [en]; rfl
    · have en : nsg g x i sg = sg := cI_f c4
      have stay : fz M M9 [0] [33, 34, 41, 42] ∧ rRow M9 g fa (nsg g x i sg) := by rw [en]; exact ⟨f9, r9⟩
      refine qen x _ (fun c5 => ?_) (fun _ => stay) rfl (by omega) (by omega)
      refine ⟨v3, fun _ => stay, fun z => ?_⟩
      refine ⟨fun _ => stay, fun y => ?_⟩
      rcases hsg3 with w | w
      · exact absurd ⟨c5, w, z⟩ c4
      · exact absurd (nI_pos' (by omega)) y
  rintro M16 ⟨f16, r16⟩
  have hg16 : at8 (M16 1) 2400 = g := by rw [f16.1 1 (by decide)]; exact hg
  refine ⟨fun M' => fz M M' [0] [33, 34, 41, 42] ∧ rRow M' g (nfa x i fa) (nsg g x i sg), ?_, ?_⟩
  · rintro M17 ⟨f17, r17⟩
    refine d_oct (g := g) i (by rw [f17.1 1 (by decide)]; exact hg) ?_ (by omega) rfl
    rintro _ rfl
    refine ⟨⟨g i, i + hsz g x i, nfa x i fa, nsg g x i sg, rfl, nI_add _ _, hnew, f17, r17⟩, ?_⟩
    dsimp only
    rw [nI_add, nI_clamp (by omega), nI_clamp (by omega)]
    omega
  · refine qen x _ (fun c4 => ?_) (fun c4 => ?_) rfl (by omega) (by omega)
    · have hne : i ≠ NO := NO_ne (by omega)
      have hw : wd8 g (i + 2) < 65536 := wd8_lt hgb _
      rintro _ rfl
      refine d_two (i + 2) hg16 ?_ (by omega) (nI_add _ 2)
      rw [show nI (wd8 g (i + 2)) &&& (65528 : Int32) = nI (wd8 g (i + 2) / 8 * 8) from by rw [show (65528 : Int32) = nI 65528 from rfl, nx_and, and_65528 hw]]
      rintro _ rfl
      rw [show nI i + (3 : Int32) = nI (i + 3) from nI_add _ 3, nI_clamp (by omega)]
      refine ⟨v3, ?_⟩
      refine ⟨fun v => v = bI (wd8 g (i + 2) % 2 = 1), ?_, ?_⟩
      rotate_left
      · have o3' : oc (M16 1 (i + 3)) = g (i + 3) := by rw [← hg16, at8_in (by omega)]
        have e : oc (M16 1 (i + 3)) / 2 ^ 0 % 2 = 1 ↔ wd8 g (i + 2) % 2 = 1 := by
          rw [o3', Nat.pow_zero, Nat.div_one]
          unfold wd8
          rw [show i + 2 + 1 = i + 3 by omega]
          omega
        exact kfl ((b_fl (M16 1 (i + 3)) 0 1 (by decide) rfl).trans (not_congr e))
      rintro _ rfl
      refine ⟨isB_bI _, ?_⟩
      rintro _ rfl
      refine ⟨fz_t f16 (fz_t (fz_t (mu_fz0 _ _ _ (by decide) (by decide)) (mu_fz0 _ _ _ (by decide) (by decide))) (mu_fz0 _ _ _ (by decide) (by decide))), ?_⟩
      rw [show nfa x i fa = i from cI_t c4]
      refine ⟨?_, ?_, rfl, r16.2.2.2⟩
      · show nI (wd8 g (i + 2) / 8 * 8) = _
        unfold ofs; rw [if_neg hne]
      · show bI (wd8 g (i + 2) % 2 = 1) = _
        exact bI_congr ⟨fun z => ⟨hne, z⟩, fun z => z.2⟩
    · rw [show nfa x i fa = fa from cI_f c4]
      exact ⟨f16, r16⟩
