/-! checksums in a payload -/
theorem set_spl {b : List Nat} {i x : Nat} (h : i < b.length) : spl b i [x] = b.set i x := by
  unfold spl
  rw [List.set_eq_take_append_cons_drop, if_pos h, List.length_singleton, List.append_assoc]; rfl
theorem lg_set1 {b : List Nat} {i x : Nat} (h : i < b.length) : lg (spl b i [x]) i = x := by
  unfold lg
  rw [set_spl h, List.getD_eq_getElem?_getD, List.getElem?_set_self h]; rfl
theorem lg_set2 {b : List Nat} {i j x : Nat} (h : i < b.length) (hj : j ≠ i) : lg (spl b i [x]) j = lg b j := by
  unfold lg
  rw [set_spl h, List.getD_eq_getElem?_getD, List.getElem?_set_ne (fun z => hj z.symm), ← List.getD_eq_getElem?_getD]
theorem spl_two {b : List Nat} {i x : Nat} (h : i + 1 < b.length) : spl b i [x, lg b (i + 1)] = spl b i [x] := by
  unfold spl
  rw [show i + [x, lg b (i + 1)].length = i + 1 + 1 by simp, show i + [x].length = i + 1 by simp, List.drop_eq_getElem_cons h]
  have e : lg b (i + 1) = b[i + 1] := by unfold lg; rw [List.getD_eq_getElem?_getD, List.getElem?_eq_getElem h]; rfl
  rw [e]
  simp
theorem spl_pair {b : List Nat} {i x y : Nat} (h : i + 1 < b.length) : spl b i [x, y] = spl (spl b i [x]) (i + 1) [y] := by
  have h0 : i < b.length := by omega
  rw [set_spl (b := spl b i [x]) (by rw [spl_len (by simp; omega)]; exact h), set_spl h0]
  unfold spl
  apply List.ext_getElem?
  intro j
  rw [List.getElem?_set, List.getElem?_set, List.length_set]
  by_cases c : i + 1 = j
  · subst c
    rw [if_pos rfl, if_pos h, List.getElem?_append_left (by simp; omega), List.getElem?_append_right (by simp; omega)]
    simp [Nat.min_eq_left (Nat.le_of_lt h0)]
  · rw [if_neg c]
    by_cases c2 : i = j
    · subst c2
      rw [if_pos rfl, if_pos h0, List.getElem?_append_left (by simp; omega), List.getElem?_append_right (by simp; omega)]
      simp [Nat.min_eq_left (Nat.le_of_lt h0)]
    · rw [if_neg c2]
      by_cases c3 : j < i
      · rw [List.getElem?_append_left (by simp; omega), List.getElem?_append_left (by simp; omega), List.getElem?_take_of_lt c3]
      · rw [List.getElem?_append_right (by simp; omega), List.getElem?_drop]
        congr 1
        simp [Nat.min_eq_left (Nat.le_of_lt h0)]
        omega
theorem lw_spl {b : List Nat} {i v : Nat} (h : i + 1 < b.length) (hv : v < 65536) : lw (spl b i (bys 2 v)) i = v := by
  rw [bys_2, spl_pair h]
  unfold lw
  have h1 : i + 1 < (spl b i [v / 256 % 256]).length := by rw [spl_len (by simp; omega)]; exact h
  rw [lg_set2 h1 (by omega), lg_set1 (by omega), lg_set1 h1]
  omega
theorem adj_lt (old fw k to : Nat) : adj old fw k to < 65536 := by unfold adj; omega
/-- where a transport's checksum stands -/
def fxp (pr : Nat) : Nat := if pr = 17 then 6 else 16
noncomputable def fxv (pr c : Nat) : Nat := cI (pr = 17 ∧ c = 0) 65535 c
noncomputable def fxT (b : List Nat) (pr off there i fw k to : Nat) : List Nat :=
  cI ((pr = 17 ∨ pr = 6) ∧ off = 0 ∧ fxp pr + 2 ≤ there ∧ ¬ (pr = 17 ∧ lw b (i + fxp pr) = 0)) (spl b (i + fxp pr) (bys 2 (fxv pr (adj (lw b (i + fxp pr)) fw k to)))) b
theorem fxv_lt (pr c : Nat) (h : c < 65536) : fxv pr c < 65536 := by
  unfold fxv
  by_cases z : pr = 17 ∧ c = 0
  · rw [cI_t z]; decide
  · rw [cI_f z]; exact h
theorem fxT_len {b : List Nat} {pr off there i fw k to : Nat} (h : i + there ≤ b.length) : (fxT b pr off there i fw k to).length = b.length := by
  unfold fxT
  by_cases z : (pr = 17 ∨ pr = 6) ∧ off = 0 ∧ fxp pr + 2 ≤ there ∧ ¬ (pr = 17 ∧ lw b (i + fxp pr) = 0)
  · rw [cI_t z, spl_len (by rw [bys_len]; have := z.2.2.1; omega)]
  · rw [cI_f z]
theorem holds_put {M M' : cM} {c a k w m : Nat} {b : List Nat} (hb : holds (M c) a b) (h : wr M M' c (a + k) (bys w m)) (hk : k + w ≤ b.length) : holds (M' c) a (spl b k (bys w m)) := (wr_spl (wr_of hb) h rfl (by rw [bys_len]; exact hk)).2.2
theorem c_fixTransport_11 {M : cM} {L : cL} {x y : Int32} {u v : Int64} {Z : cM → Prop} {b : List Nat} (pr off there a i fw k to : Nat) (hb : holds (M 4) a b) (hl : a + b.length ≤ 2408) (hi : i + there ≤ b.length) (h3 : M 11 3 = nI pr) (h6 : M 11 6 = nI off) (h9 : M 11 9 = nI there) (l3 : pr < 256) (l6 : off < 8192) (hk : k ≤ 1000) (hfr : fw ≤ 65535 * k) (hto : to < 2 ^ 39) (h : ∀ M', fr M M' [4] → holds (M' 4) a (fxT b pr off there i fw k to) → Z M') (hx : x = nI (a + i)) (hu : u = lN fw) (hy : y = nI k) (hv : v = lN to) : wp_X6_fixTransport_0_11 M L x u y v Z := by
  subst hx hu hy hv
  have hob := holds_oct hb
  unfold wp_X6_fixTransport_0_11
  rw [h3, h6, h9]
  have hfp : fxp pr ≤ 16 := by unfold fxp; split <;> omega
  refine ⟨fun v => v = nI (fxp pr), ?_, ?_⟩
  · rintro _ rfl
    refine ⟨fun v => v = bI (pr = 17 ∨ pr = 6), ?_, ?_⟩
    · rintro _ rfl
      unfold fxT at h
      refine bz (fun c => ?_) (fun c1 => ?_)
      · rw [cI_f (fun z => c z.1)] at h; exact h M (fr_r _ _) hb
      refine qen off _ (fun c2 => ?_) (fun c2 => ?_) rfl (by omega) (by omega)
      · refine pk_le (fxp pr + 2) there (fun c3 => ?_) (fun c3 => ?_) (nI_add _ 2) rfl (by omega) (by omega)
        · have hw := holds_wd hb (n := 2408) hl (k := i + fxp pr) (by omega)
          have hwl := lw_lt hob (i + fxp pr)
          rw [nI_add]
          refine p_word_3 (a + i + fxp pr) ?_ (by omega) rfl
          rw [show a + i + fxp pr = a + (i + fxp pr) by omega, hw]
          by_cases c4 : pr = 17 ∧ lw b (i + fxp pr) = 0
          · rw [cI_f (fun z => z.2.2.2 c4)] at h
            refine qen pr _ (fun c => by omega) (fun c => ?_) rfl (by omega) (by omega)
            refine qe (lw b (i + fxp pr)) _ (fun c => h M (fr_r _ _) hb) (fun c => absurd c4.2 c) rfl (by omega) (by omega)
          · rw [cI_t ⟨c1, c2, c3, c4⟩] at h
            have hal := adj_lt (lw b (i + fxp pr)) fw k to
            refine qen pr _ (fun c => ?_) (fun c => ?_) rfl (by omega) (by omega)
            · refine p_adjusted (lw b (i + fxp pr)) fw k to ?_ (by omega) hk hfr hto rfl rfl rfl rfl
              rw [show fxv pr (adj (lw b (i + fxp pr)) fw k to) = adj (lw b (i + fxp pr)) fw k to from cI_f (fun z => by have := z.1; omega)] at h
              refine p_put3 (a + (i + fxp pr)) 2 (adj (lw b (i + fxp pr)) fw k to) (hv_i 2 (by decide) _ _ rfl) (fun M1 w1 => ?_) rfl rfl (by omega) (by omega)
              exact h M1 (wr_fr w1 (by decide)) (holds_put hb w1 (by omega))
            · refine qe (lw b (i + fxp pr)) _ (fun c5 => absurd ⟨by omega, c5⟩ c4) (fun c5 => ?_) rfl (by omega) (by omega)
              refine p_adjusted (lw b (i + fxp pr)) fw k to ?_ (by omega) hk hfr hto rfl rfl rfl rfl
              refine ⟨fun v => v = lN (fxv pr (adj (lw b (i + fxp pr)) fw k to)), ?_, ?_⟩
              · rintro _ rfl
                have := fxv_lt pr _ hal
                refine p_put3 (a + (i + fxp pr)) 2 (fxv pr (adj (lw b (i + fxp pr)) fw k to)) (hv_n 2 _ (by omega)) (fun M1 w1 => ?_) rfl rfl (by omega) (by omega)
                exact h M1 (wr_fr w1 (by decide)) (holds_put hb w1 (by omega))
              · refine qen (adj (lw b (i + fxp pr)) fw k to) _ (fun c6 => ?_) (fun c6 => ?_) rfl (by omega) (by omega)
                · rw [show fxv pr (adj (lw b (i + fxp pr)) fw k to) = 65535 from cI_t ⟨by omega, c6⟩]; rfl
                · rw [show fxv pr (adj (lw b (i + fxp pr)) fw k to) = adj (lw b (i + fxp pr)) fw k to from cI_f (fun z => c6 z.2)]; exact nI_l (by omega)
        · rw [cI_f (fun z => by have := z.2.2.1; omega)] at h; exact h M (fr_r _ _) hb
      · rw [cI_f (fun z => c2 z.2.1)] at h; exact h M (fr_r _ _) hb
    · repeat' first
        | exact (bI_t (by omega)).symm
        | exact (bI_f (by omega)).symm
        | refine bz (fun c => ?_) (fun c => ?_)
        | refine zb (fun c => ?_) (fun c => ?_)
        | refine qe _ _ (fun c => ?_) (fun c => ?_) (by first | rfl | assumption) (by omega) (by omega)
        | refine qen _ _ (fun c => ?_) (fun c => ?_) (by first | rfl | assumption) (by omega) (by omega)
        | refine ql _ _ (fun c => ?_) (fun c => ?_) (by first | rfl | assumption) (by omega) (by omega)
        | refine qln _ _ (fun c => ?_) (fun c => ?_) (by first | rfl | assumption) (by omega) (by omega)
        | refine qg _ _ (fun c => ?_) (fun c => ?_) (by first | rfl | assumption) (by omega) (by omega)
        | refine qgn _ _ (fun c => ?_) (fun c => ?_) (by first | rfl | assumption) (by omega) (by omega)
        | refine qs _ _ (fun c => ?_) (fun c => ?_) (by first | rfl | assumption) (by omega) (by omega)
        | refine qsn _ _ (fun c => ?_) (fun c => ?_) (by first | rfl | assumption) (by omega) (by omega)
        | refine qb _ _ (fun c => ?_) (fun c => ?_) (by first | rfl | assumption) (by omega) (by omega)
        | refine qbn _ _ (fun c => ?_) (fun c => ?_) (by first | rfl | assumption) (by omega) (by omega)
        | refine pk_eq _ _ (fun c => ?_) (fun c => ?_) (by first | rfl | assumption) (by first | rfl | assumption) (by omega) (by omega)
        | refine pn_eq _ _ (fun c => ?_) (fun c => ?_) (by first | rfl | assumption) (by first | rfl | assumption) (by omega) (by omega)
        | refine pk_le _ _ (fun c => ?_) (fun c => ?_) (by first | rfl | assumption) (by first | rfl | assumption) (by omega) (by omega)
        | refine pn_le _ _ (fun c => ?_) (fun c => ?_) (by first | rfl | assumption) (by first | rfl | assumption) (by omega) (by omega)
        | refine pk_lt _ _ (fun c => ?_) (fun c => ?_) (by first | rfl | assumption) (by first | rfl | assumption) (by omega) (by omega)
        | refine pn_lt _ _ (fun c => ?_) (fun c => ?_) (by first | rfl | assumption) (by first | rfl | assumption) (by omega) (by omega)
        | refine And.intro (fun c => absurd c (by decide)) (fun _ => ?_)
        | refine And.intro (fun _ => ?_) (fun c => absurd rfl c)
        | refine And.intro (fun c => absurd rfl c) (fun _ => ?_)
        | refine And.intro (fun _ => ?_) (fun c => absurd c (by decide))
        | refine Exists.intro _ (And.intro (fun hv => hv) ?_)
  · unfold fxp
    refine qen pr _ (fun c => by rw [if_pos c]; rfl) (fun c => by rw [if_neg c]; rfl) rfl (by omega) (by omega)
theorem c_fixTransport_12 {M : cM} {L : cL} {x y : Int32} {u v : Int64} {Z : cM → Prop} {b : List Nat} (pr off there a i fw k to : Nat) (hb : holds (M 4) a b) (hl : a + b.length ≤ 2408) (hi : i + there ≤ b.length) (h3 : M 12 3 = nI pr) (h6 : M 12 6 = nI off) (h9 : M 12 9 = nI there) (l3 : pr < 256) (l6 : off < 8192) (hk : k ≤ 1000) (hfr : fw ≤ 65535 * k) (hto : to < 2 ^ 39) (h : ∀ M', fr M M' [4] → holds (M' 4) a (fxT b pr off there i fw k to) → Z M') (hx : x = nI (a + i)) (hu : u = lN fw) (hy : y = nI k) (hv : v = lN to) : wp_X6_fixTransport_0_12 M L x u y v Z := by
  subst hx hu hy hv
  have hob := holds_oct hb
  unfold wp_X6_fixTransport_0_12
  rw [h3, h6, h9]
  have hfp : fxp pr ≤ 16 := by unfold fxp; split <;> omega
  refine ⟨fun v => v = nI (fxp pr), ?_, ?_⟩
  · rintro _ rfl
    refine ⟨fun v => v = bI (pr = 17 ∨ pr = 6), ?_, ?_⟩
    · rintro _ rfl
      unfold fxT at h
      refine bz (fun c => ?_) (fun c1 => ?_)
      · rw [cI_f (fun z => c z.1)] at h; exact h M (fr_r _ _) hb
      refine qen off _ (fun c2 => ?_) (fun c2 => ?_) rfl (by omega) (by omega)
      · refine pk_le (fxp pr + 2) there (fun c3 => ?_) (fun c3 => ?_) (nI_add _ 2) rfl (by omega) (by omega)
        · have hw := holds_wd hb (n := 2408) hl (k := i + fxp pr) (by omega)
          have hwl := lw_lt hob (i + fxp pr)
          rw [nI_add]
          refine p_word_3 (a + i + fxp pr) ?_ (by omega) rfl
          rw [show a + i + fxp pr = a + (i + fxp pr) by omega, hw]
          by_cases c4 : pr = 17 ∧ lw b (i + fxp pr) = 0
          · rw [cI_f (fun z => z.2.2.2 c4)] at h
            refine qen pr _ (fun c => by omega) (fun c => ?_) rfl (by omega) (by omega)
            refine qe (lw b (i + fxp pr)) _ (fun c => h M (fr_r _ _) hb) (fun c => absurd c4.2 c) rfl (by omega) (by omega)
          · rw [cI_t ⟨c1, c2, c3, c4⟩] at h
            have hal := adj_lt (lw b (i + fxp pr)) fw k to
            refine qen pr _ (fun c => ?_) (fun c => ?_) rfl (by omega) (by omega)
            · refine p_adjusted (lw b (i + fxp pr)) fw k to ?_ (by omega) hk hfr hto rfl rfl rfl rfl
              rw [show fxv pr (adj (lw b (i + fxp pr)) fw k to) = adj (lw b (i + fxp pr)) fw k to from cI_f (fun z => by have := z.1; omega)] at h
              refine p_put3 (a + (i + fxp pr)) 2 (adj (lw b (i + fxp pr)) fw k to) (hv_i 2 (by decide) _ _ rfl) (fun M1 w1 => ?_) rfl rfl (by omega) (by omega)
              exact h M1 (wr_fr w1 (by decide)) (holds_put hb w1 (by omega))
            · refine qe (lw b (i + fxp pr)) _ (fun c5 => absurd ⟨by omega, c5⟩ c4) (fun c5 => ?_) rfl (by omega) (by omega)
              refine p_adjusted (lw b (i + fxp pr)) fw k to ?_ (by omega) hk hfr hto rfl rfl rfl rfl
              refine ⟨fun v => v = lN (fxv pr (adj (lw b (i + fxp pr)) fw k to)), ?_, ?_⟩
              · rintro _ rfl
                have := fxv_lt pr _ hal
                refine p_put3 (a + (i + fxp pr)) 2 (fxv pr (adj (lw b (i + fxp pr)) fw k to)) (hv_n 2 _ (by omega)) (fun M1 w1 => ?_) rfl rfl (by omega) (by omega)
                exact h M1 (wr_fr w1 (by decide)) (holds_put hb w1 (by omega))
              · refine qen (adj (lw b (i + fxp pr)) fw k to) _ (fun c6 => ?_) (fun c6 => ?_) rfl (by omega) (by omega)
                · rw [show fxv pr (adj (lw b (i + fxp pr)) fw k to) = 65535 from cI_t ⟨by omega, c6⟩]; rfl
                · rw [show fxv pr (adj (lw b (i + fxp pr)) fw k to) = adj (lw b (i + fxp pr)) fw k to from cI_f (fun z => c6 z.2)]; exact nI_l (by omega)
        · rw [cI_f (fun z => by have := z.2.2.1; omega)] at h; exact h M (fr_r _ _) hb
      · rw [cI_f (fun z => c2 z.2.1)] at h; exact h M (fr_r _ _) hb
    · repeat' first
        | exact (bI_t (by omega)).symm
        | exact (bI_f (by omega)).symm
        | refine bz (fun c => ?_) (fun c => ?_)
        | refine zb (fun c => ?_) (fun c => ?_)
        | refine qe _ _ (fun c => ?_) (fun c => ?_) (by first | rfl | assumption) (by omega) (by omega)
        | refine qen _ _ (fun c => ?_) (fun c => ?_) (by first | rfl | assumption) (by omega) (by omega)
        | refine ql _ _ (fun c => ?_) (fun c => ?_) (by first | rfl | assumption) (by omega) (by omega)
        | refine qln _ _ (fun c => ?_) (fun c => ?_) (by first | rfl | assumption) (by omega) (by omega)
        | refine qg _ _ (fun c => ?_) (fun c => ?_) (by first | rfl | assumption) (by omega) (by omega)
        | refine qgn _ _ (fun c => ?_) (fun c => ?_) (by first | rfl | assumption) (by omega) (by omega)
        | refine qs _ _ (fun c => ?_) (fun c => ?_) (by first | rfl | assumption) (by omega) (by omega)
        | refine qsn _ _ (fun c => ?_) (fun c => ?_) (by first | rfl | assumption) (by omega) (by omega)
        | refine qb _ _ (fun c => ?_) (fun c => ?_) (by first | rfl | assumption) (by omega) (by omega)
        | refine qbn _ _ (fun c => ?_) (fun c => ?_) (by first | rfl | assumption) (by omega) (by omega)
        | refine pk_eq _ _ (fun c => ?_) (fun c => ?_) (by first | rfl | assumption) (by first | rfl | assumption) (by omega) (by omega)
        | refine pn_eq _ _ (fun c => ?_) (fun c => ?_) (by first | rfl | assumption) (by first | rfl | assumption) (by omega) (by omega)
        | refine pk_le _ _ (fun c => ?_) (fun c => ?_) (by first | rfl | assumption) (by first | rfl | assumption) (by omega) (by omega)
        | refine pn_le _ _ (fun c => ?_) (fun c => ?_) (by first | rfl | assumption) (by first | rfl | assumption) (by omega) (by omega)
        | refine pk_lt _ _ (fun c => ?_) (fun c => ?_) (by first | rfl | assumption) (by first | rfl | assumption) (by omega) (by omega)
        | refine pn_lt _ _ (fun c => ?_) (fun c => ?_) (by first | rfl | assumption) (by first | rfl | assumption) (by omega) (by omega)
        | refine And.intro (fun c => absurd c (by decide)) (fun _ => ?_)
        | refine And.intro (fun _ => ?_) (fun c => absurd rfl c)
        | refine And.intro (fun c => absurd rfl c) (fun _ => ?_)
        | refine And.intro (fun _ => ?_) (fun c => absurd c (by decide))
        | refine Exists.intro _ (And.intro (fun hv => hv) ?_)
  · unfold fxp
    refine qen pr _ (fun c => by rw [if_pos c]; rfl) (fun c => by rw [if_neg c]; rfl) rfl (by omega) (by omega)
theorem c_fixTransport_13 {M : cM} {L : cL} {x y : Int32} {u v : Int64} {Z : cM → Prop} {b : List Nat} (pr off there a i fw k to : Nat) (hb : holds (M 4) a b) (hl : a + b.length ≤ 2408) (hi : i + there ≤ b.length) (h3 : M 13 3 = nI pr) (h6 : M 13 6 = nI off) (h9 : M 13 9 = nI there) (l3 : pr < 256) (l6 : off < 8192) (hk : k ≤ 1000) (hfr : fw ≤ 65535 * k) (hto : to < 2 ^ 39) (h : ∀ M', fr M M' [4] → holds (M' 4) a (fxT b pr off there i fw k to) → Z M') (hx : x = nI (a + i)) (hu : u = lN fw) (hy : y = nI k) (hv : v = lN to) : wp_X6_fixTransport_0_13 M L x u y v Z := by
  subst hx hu hy hv
  have hob := holds_oct hb
  unfold wp_X6_fixTransport_0_13
  rw [h3, h6, h9]
  have hfp : fxp pr ≤ 16 := by unfold fxp; split <;> omega
  refine ⟨fun v => v = nI (fxp pr), ?_, ?_⟩
  · rintro _ rfl
    refine ⟨fun v => v = bI (pr = 17 ∨ pr = 6), ?_, ?_⟩
    · rintro _ rfl
      unfold fxT at h
      refine bz (fun c => ?_) (fun c1 => ?_)
      · rw [cI_f (fun z => c z.1)] at h; exact h M (fr_r _ _) hb
      refine qen off _ (fun c2 => ?_) (fun c2 => ?_) rfl (by omega) (by omega)
      · refine pk_le (fxp pr + 2) there (fun c3 => ?_) (fun c3 => ?_) (nI_add _ 2) rfl (by omega) (by omega)
        · have hw := holds_wd hb (n := 2408) hl (k := i + fxp pr) (by omega)
          have hwl := lw_lt hob (i + fxp pr)
          rw [nI_add]
          refine p_word_3 (a + i + fxp pr) ?_ (by omega) rfl
          rw [show a + i + fxp pr = a + (i + fxp pr) by omega, hw]
          by_cases c4 : pr = 17 ∧ lw b (i + fxp pr) = 0
          · rw [cI_f (fun z => z.2.2.2 c4)] at h
            refine qen pr _ (fun c => by omega) (fun c => ?_) rfl (by omega) (by omega)
            refine qe (lw b (i + fxp pr)) _ (fun c => h M (fr_r _ _) hb) (fun c => absurd c4.2 c) rfl (by omega) (by omega)
          · rw [cI_t ⟨c1, c2, c3, c4⟩] at h
            have hal := adj_lt (lw b (i + fxp pr)) fw k to
            refine qen pr _ (fun c => ?_) (fun c => ?_) rfl (by omega) (by omega)
            · refine p_adjusted (lw b (i + fxp pr)) fw k to ?_ (by omega) hk hfr hto rfl rfl rfl rfl
              rw [show fxv pr (adj (lw b (i + fxp pr)) fw k to) = adj (lw b (i + fxp pr)) fw k to from cI_f (fun z => by have := z.1; omega)] at h
              refine p_put3 (a + (i + fxp pr)) 2 (adj (lw b (i + fxp pr)) fw k to) (hv_i 2 (by decide) _ _ rfl) (fun M1 w1 => ?_) rfl rfl (by omega) (by omega)
              exact h M1 (wr_fr w1 (by decide)) (holds_put hb w1 (by omega))
            · refine qe (lw b (i + fxp pr)) _ (fun c5 => absurd ⟨by omega, c5⟩ c4) (fun c5 => ?_) rfl (by omega) (by omega)
              refine p_adjusted (lw b (i + fxp pr)) fw k to ?_ (by omega) hk hfr hto rfl rfl rfl rfl
              refine ⟨fun v => v = lN (fxv pr (adj (lw b (i + fxp pr)) fw k to)), ?_, ?_⟩
              · rintro _ rfl
                have := fxv_lt pr _ hal
                refine p_put3 (a + (i + fxp pr)) 2 (fxv pr (adj (lw b (i + fxp pr)) fw k to)) (hv_n 2 _ (by omega)) (fun M1 w1 => ?_) rfl rfl (by omega) (by omega)
                exact h M1 (wr_fr w1 (by decide)) (holds_put hb w1 (by omega))
              · refine qen (adj (lw b (i + fxp pr)) fw k to) _ (fun c6 => ?_) (fun c6 => ?_) rfl (by omega) (by omega)
                · rw [show fxv pr (adj (lw b (i + fxp pr)) fw k to) = 65535 from cI_t ⟨by omega, c6⟩]; rfl
                · rw [show fxv pr (adj (lw b (i + fxp pr)) fw k to) = adj (lw b (i + fxp pr)) fw k to from cI_f (fun z => c6 z.2)]; exact nI_l (by omega)
        · rw [cI_f (fun z => by have := z.2.2.1; omega)] at h; exact h M (fr_r _ _) hb
      · rw [cI_f (fun z => c2 z.2.1)] at h; exact h M (fr_r _ _) hb
    · repeat' first
        | exact (bI_t (by omega)).symm
        | exact (bI_f (by omega)).symm
        | refine bz (fun c => ?_) (fun c => ?_)
        | refine zb (fun c => ?_) (fun c => ?_)
        | refine qe _ _ (fun c => ?_) (fun c => ?_) (by first | rfl | assumption) (by omega) (by omega)
        | refine qen _ _ (fun c => ?_) (fun c => ?_) (by first | rfl | assumption) (by omega) (by omega)
        | refine ql _ _ (fun c => ?_) (fun c => ?_) (by first | rfl | assumption) (by omega) (by omega)
        | refine qln _ _ (fun c => ?_) (fun c => ?_) (by first | rfl | assumption) (by omega) (by omega)
        | refine qg _ _ (fun c => ?_) (fun c => ?_) (by first | rfl | assumption) (by omega) (by omega)
        | refine qgn _ _ (fun c => ?_) (fun c => ?_) (by first | rfl | assumption) (by omega) (by omega)
        | refine qs _ _ (fun c => ?_) (fun c => ?_) (by first | rfl | assumption) (by omega) (by omega)
        | refine qsn _ _ (fun c => ?_) (fun c => ?_) (by first | rfl | assumption) (by omega) (by omega)
        | refine qb _ _ (fun c => ?_) (fun c => ?_) (by first | rfl | assumption) (by omega) (by omega)
        | refine qbn _ _ (fun c => ?_) (fun c => ?_) (by first | rfl | assumption) (by omega) (by omega)
        | refine pk_eq _ _ (fun c => ?_) (fun c => ?_) (by first | rfl | assumption) (by first | rfl | assumption) (by omega) (by omega)
        | refine pn_eq _ _ (fun c => ?_) (fun c => ?_) (by first | rfl | assumption) (by first | rfl | assumption) (by omega) (by omega)
        | refine pk_le _ _ (fun c => ?_) (fun c => ?_) (by first | rfl | assumption) (by first | rfl | assumption) (by omega) (by omega)
        | refine pn_le _ _ (fun c => ?_) (fun c => ?_) (by first | rfl | assumption) (by first | rfl | assumption) (by omega) (by omega)
        | refine pk_lt _ _ (fun c => ?_) (fun c => ?_) (by first | rfl | assumption) (by first | rfl | assumption) (by omega) (by omega)
        | refine pn_lt _ _ (fun c => ?_) (fun c => ?_) (by first | rfl | assumption) (by first | rfl | assumption) (by omega) (by omega)
        | refine And.intro (fun c => absurd c (by decide)) (fun _ => ?_)
        | refine And.intro (fun _ => ?_) (fun c => absurd rfl c)
        | refine And.intro (fun c => absurd rfl c) (fun _ => ?_)
        | refine And.intro (fun _ => ?_) (fun c => absurd c (by decide))
        | refine Exists.intro _ (And.intro (fun hv => hv) ?_)
  · unfold fxp
    refine qen pr _ (fun c => by rw [if_pos c]; rfl) (fun c => by rw [if_neg c]; rfl) rfl (by omega) (by omega)
theorem c_fixTransport_14 {M : cM} {L : cL} {x y : Int32} {u v : Int64} {Z : cM → Prop} {b : List Nat} (pr off there a i fw k to : Nat) (hb : holds (M 4) a b) (hl : a + b.length ≤ 2408) (hi : i + there ≤ b.length) (h3 : M 14 3 = nI pr) (h6 : M 14 6 = nI off) (h9 : M 14 9 = nI there) (l3 : pr < 256) (l6 : off < 8192) (hk : k ≤ 1000) (hfr : fw ≤ 65535 * k) (hto : to < 2 ^ 39) (h : ∀ M', fr M M' [4] → holds (M' 4) a (fxT b pr off there i fw k to) → Z M') (hx : x = nI (a + i)) (hu : u = lN fw) (hy : y = nI k) (hv : v = lN to) : wp_X6_fixTransport_0_14 M L x u y v Z := by
  subst hx hu hy hv
  have hob := holds_oct hb
  unfold wp_X6_fixTransport_0_14
  rw [h3, h6, h9]
  have hfp : fxp pr ≤ 16 := by unfold fxp; split <;> omega
  refine ⟨fun v => v = nI (fxp pr), ?_, ?_⟩
  · rintro _ rfl
    refine ⟨fun v => v = bI (pr = 17 ∨ pr = 6), ?_, ?_⟩
    · rintro _ rfl
      unfold fxT at h
      refine bz (fun c => ?_) (fun c1 => ?_)
      · rw [cI_f (fun z => c z.1)] at h; exact h M (fr_r _ _) hb
      refine qen off _ (fun c2 => ?_) (fun c2 => ?_) rfl (by omega) (by omega)
      · refine pk_le (fxp pr + 2) there (fun c3 => ?_) (fun c3 => ?_) (nI_add _ 2) rfl (by omega) (by omega)
        · have hw := holds_wd hb (n := 2408) hl (k := i + fxp pr) (by omega)
          have hwl := lw_lt hob (i + fxp pr)
          rw [nI_add]
          refine p_word_3 (a + i + fxp pr) ?_ (by omega) rfl
          rw [show a + i + fxp pr = a + (i + fxp pr) by omega, hw]
          by_cases c4 : pr = 17 ∧ lw b (i + fxp pr) = 0
          · rw [cI_f (fun z => z.2.2.2 c4)] at h
            refine qen pr _ (fun c => by omega) (fun c => ?_) rfl (by omega) (by omega)
            refine qe (lw b (i + fxp pr)) _ (fun c => h M (fr_r _ _) hb) (fun c => absurd c4.2 c) rfl (by omega) (by omega)
          · rw [cI_t ⟨c1, c2, c3, c4⟩] at h
            have hal := adj_lt (lw b (i + fxp pr)) fw k to
            refine qen pr _ (fun c => ?_) (fun c => ?_) rfl (by omega) (by omega)
            · refine p_adjusted (lw b (i + fxp pr)) fw k to ?_ (by omega) hk hfr hto rfl rfl rfl rfl
              rw [show fxv pr (adj (lw b (i + fxp pr)) fw k to) = adj (lw b (i + fxp pr)) fw k to from cI_f (fun z => by have := z.1; omega)] at h
              refine p_put3 (a + (i + fxp pr)) 2 (adj (lw b (i + fxp pr)) fw k to) (hv_i 2 (by decide) _ _ rfl) (fun M1 w1 => ?_) rfl rfl (by omega) (by omega)
              exact h M1 (wr_fr w1 (by decide)) (holds_put hb w1 (by omega))
            · refine qe (lw b (i + fxp pr)) _ (fun c5 => absurd ⟨by omega, c5⟩ c4) (fun c5 => ?_) rfl (by omega) (by omega)
              refine p_adjusted (lw b (i + fxp pr)) fw k to ?_ (by omega) hk hfr hto rfl rfl rfl rfl
              refine ⟨fun v => v = lN (fxv pr (adj (lw b (i + fxp pr)) fw k to)), ?_, ?_⟩
              · rintro _ rfl
                have := fxv_lt pr _ hal
                refine p_put3 (a + (i + fxp pr)) 2 (fxv pr (adj (lw b (i + fxp pr)) fw k to)) (hv_n 2 _ (by omega)) (fun M1 w1 => ?_) rfl rfl (by omega) (by omega)
                exact h M1 (wr_fr w1 (by decide)) (holds_put hb w1 (by omega))
              · refine qen (adj (lw b (i + fxp pr)) fw k to) _ (fun c6 => ?_) (fun c6 => ?_) rfl (by omega) (by omega)
                · rw [show fxv pr (adj (lw b (i + fxp pr)) fw k to) = 65535 from cI_t ⟨by omega, c6⟩]; rfl
                · rw [show fxv pr (adj (lw b (i + fxp pr)) fw k to) = adj (lw b (i + fxp pr)) fw k to from cI_f (fun z => c6 z.2)]; exact nI_l (by omega)
        · rw [cI_f (fun z => by have := z.2.2.1; omega)] at h; exact h M (fr_r _ _) hb
      · rw [cI_f (fun z => c2 z.2.1)] at h; exact h M (fr_r _ _) hb
    · repeat' first
        | exact (bI_t (by omega)).symm
        | exact (bI_f (by omega)).symm
        | refine bz (fun c => ?_) (fun c => ?_)
        | refine zb (fun c => ?_) (fun c => ?_)
        | refine qe _ _ (fun c => ?_) (fun c => ?_) (by first | rfl | assumption) (by omega) (by omega)
        | refine qen _ _ (fun c => ?_) (fun c => ?_) (by first | rfl | assumption) (by omega) (by omega)
        | refine ql _ _ (fun c => ?_) (fun c => ?_) (by first | rfl | assumption) (by omega) (by omega)
        | refine qln _ _ (fun c => ?_) (fun c => ?_) (by first | rfl | assumption) (by omega) (by omega)
        | refine qg _ _ (fun c => ?_) (fun c => ?_) (by first | rfl | assumption) (by omega) (by omega)
        | refine qgn _ _ (fun c => ?_) (fun c => ?_) (by first | rfl | assumption) (by omega) (by omega)
        | refine qs _ _ (fun c => ?_) (fun c => ?_) (by first | rfl | assumption) (by omega) (by omega)
        | refine qsn _ _ (fun c => ?_) (fun c => ?_) (by first | rfl | assumption) (by omega) (by omega)
        | refine qb _ _ (fun c => ?_) (fun c => ?_) (by first | rfl | assumption) (by omega) (by omega)
        | refine qbn _ _ (fun c => ?_) (fun c => ?_) (by first | rfl | assumption) (by omega) (by omega)
        | refine pk_eq _ _ (fun c => ?_) (fun c => ?_) (by first | rfl | assumption) (by first | rfl | assumption) (by omega) (by omega)
        | refine pn_eq _ _ (fun c => ?_) (fun c => ?_) (by first | rfl | assumption) (by first | rfl | assumption) (by omega) (by omega)
        | refine pk_le _ _ (fun c => ?_) (fun c => ?_) (by first | rfl | assumption) (by first | rfl | assumption) (by omega) (by omega)
        | refine pn_le _ _ (fun c => ?_) (fun c => ?_) (by first | rfl | assumption) (by first | rfl | assumption) (by omega) (by omega)
        | refine pk_lt _ _ (fun c => ?_) (fun c => ?_) (by first | rfl | assumption) (by first | rfl | assumption) (by omega) (by omega)
        | refine pn_lt _ _ (fun c => ?_) (fun c => ?_) (by first | rfl | assumption) (by first | rfl | assumption) (by omega) (by omega)
        | refine And.intro (fun c => absurd c (by decide)) (fun _ => ?_)
        | refine And.intro (fun _ => ?_) (fun c => absurd rfl c)
        | refine And.intro (fun c => absurd rfl c) (fun _ => ?_)
        | refine And.intro (fun _ => ?_) (fun c => absurd c (by decide))
        | refine Exists.intro _ (And.intro (fun hv => hv) ?_)
  · unfold fxp
    refine qen pr _ (fun c => by rw [if_pos c]; rfl) (fun c => by rw [if_neg c]; rfl) rfl (by omega) (by omega)
/-- an echo, turned to the other family -/
noncomputable def fxE6 (b : List Nat) (i len w : Nat) : List Nat :=
  spl (spl b i [cI (lg b i = 8) 128 129]) (i + 2) (bys 2 (adj (lw (spl b i [cI (lg b i = 8) 128 129]) (i + 2)) (lw b i) 1 (cI (lg b i = 8) 128 129 * 256 + lg b (i + 1) + w + len + 58)))
noncomputable def fxE4 (b : List Nat) (i len w : Nat) : List Nat :=
  spl (spl b i [cI (lg b i = 128) 8 0]) (i + 2) (bys 2 (adj (lw (spl b i [cI (lg b i = 128) 8 0]) (i + 2)) (lw b i + w + len + 58) 21 (cI (lg b i = 128) 8 0 * 256 + lg b (i + 1))))
theorem fxE6_len {b : List Nat} {i len w : Nat} (h : i + 4 ≤ b.length) : (fxE6 b i len w).length = b.length := by
  unfold fxE6
  rw [spl_len (by rw [bys_len, spl_len (by simp; omega)]; omega), spl_len (by simp; omega)]
theorem fxE4_len {b : List Nat} {i len w : Nat} (h : i + 4 ≤ b.length) : (fxE4 b i len w).length = b.length := by
  unfold fxE4
  rw [spl_len (by rw [bys_len, spl_len (by simp; omega)]; omega), spl_len (by simp; omega)]
theorem nI_sr8 {x : Nat} (h : x < 2 ^ 31) : (nI x >>> ((8 : Int32) &&& 31)) = nI (x / 256) := pk_shrN h _ 8 (by decide)
theorem echo_b {b : List Nat} {i y : Nat} (hy : y < 256) (h : i + 1 < b.length) (ho : oct b) : spl b i (bys 2 (y * 256 + lg b (i + 1))) = spl b i [y] := by
  have := oct_lg ho (i + 1)
  rw [bys_2, show (y * 256 + lg b (i + 1)) / 256 % 256 = y by omega, show (y * 256 + lg b (i + 1)) % 256 = lg b (i + 1) by omega, spl_two h]
theorem nI_shl8or {y x : Nat} (hy : y < 256) (hx : x < 65536) : (nI y <<< ((8 : Int32) &&& 31)) ||| (nI x &&& (255 : Int32)) = nI (y * 256 + x % 256) := by
  rw [show nI x &&& (255 : Int32) = nI (x % 256) from pk_andN (by omega) 8 (by decide)]
  exact nI_or8 hy (by omega)
theorem c_fixToSix_11 {M : cM} {L : cL} {x : Int32} {Z : cM → Prop} {b : List Nat} (pr off there len a i F W : Nat) (hb : holds (M 4) a b) (hl : a + b.length ≤ 2408) (hi : i + there ≤ b.length) (h3 : M 11 3 = nI pr) (h6 : M 11 6 = nI off) (h8 : M 11 8 = nI len) (h9 : M 11 9 = nI there) (l3 : pr < 256) (l6 : off < 8192) (l8 : len < 65536) (hF : F ≤ 262140) (hW : W ≤ 1048560) (k12 : L 11 12 = lN F) (k13 : L 11 13 = lN W) (he : pr = 1 → 4 ≤ there) (h : ∀ M', fr M M' [4] → holds (M' 4) a (cI (pr = 1) (fxE6 b i len W) (fxT b pr off there i F 4 W)) → Z M') (hx : x = nI (a + i)) : wp_X6_fixToSix_0_11 M L x Z := by
  subst hx
  have hob := holds_oct hb
  unfold wp_X6_fixToSix_0_11
  rw [h3, k12, k13]
  refine qen pr _ (fun c => ?_) (fun c => ?_) rfl (by omega) (by omega)
  · rw [cI_t c] at h
    have h4 := he c
    have hw := holds_wd hb (n := 2408) hl (k := i) (by omega)
    have hwl := lw_lt hob i
    have hb1 := oct_lg hob (i + 1)
    have hb0 := oct_lg hob i
    have hld : lw b i / 256 = lg b i := by unfold lw; omega
    have hlm : lw b i % 256 = lg b (i + 1) := by unfold lw; omega
    refine p_word_3 (a + i) ?_ (by omega) rfl
    rw [hw, nI_sr8 (by omega), hld]
    have hy : cI (lg b i = 8) 128 129 < 256 := by
      by_cases z : lg b i = 8
      · rw [cI_t z]; decide
      · rw [cI_f z]; decide
    refine ⟨fun v => v = nI (cI (lg b i = 8) 128 129), ?_, ?_⟩
    · rintro _ rfl
      rw [nI_shl8or hy hwl, hlm]
      rintro _ rfl
      refine p_put3 (a + i) 2 (cI (lg b i = 8) 128 129 * 256 + lg b (i + 1)) (hv_i 2 (by decide) _ _ rfl) (fun M1 w1 => ?_) rfl rfl (by omega) (by omega)
      have hb' := holds_put hb w1 (by omega)
      rw [echo_b hy (by omega) hob] at hb'
      have hlen : (spl b i [cI (lg b i = 8) 128 129]).length = b.length := spl_len (by simp; omega)
      rw [w1.1 11 (by decide), h8, nI_l (by omega), nI_l (by omega), lN_add, lN_add, show (58 : Int64) = lN 58 from rfl, lN_add]
      rintro _ rfl
      have hw2 := holds_wd hb' (n := 2408) (by rw [hlen]; exact hl) (k := i + 2) (by rw [hlen]; omega)
      have hwl2 := lw_lt (holds_oct hb') (i + 2)
      refine p_word_3 (a + (i + 2)) ?_ (by omega) (by rw [show (2 : Int32) = nI 2 from rfl, nI_add]; congr 1)
      rw [hw2, nI_l (by omega)]
      refine p_adjusted (lw (spl b i [cI (lg b i = 8) 128 129]) (i + 2)) (lw b i) 1 (cI (lg b i = 8) 128 129 * 256 + lg b (i + 1) + W + len + 58) ?_ (by omega) (by omega) (by omega) (by omega) rfl rfl rfl rfl
      refine p_put3 (a + (i + 2)) 2 (adj (lw (spl b i [cI (lg b i = 8) 128 129]) (i + 2)) (lw b i) 1 (cI (lg b i = 8) 128 129 * 256 + lg b (i + 1) + W + len + 58)) (hv_i 2 (by decide) _ _ rfl) (fun M2 w2 => ?_) (by rw [show (2 : Int32) = nI 2 from rfl, nI_add]; congr 1) rfl (by omega) (by omega)
      exact h M2 (fr_t (wr_fr w1 (by decide)) (wr_fr w2 (by decide))) (holds_put hb' w2 (by rw [hlen]; omega))
    · refine qen (lg b i) _ (fun c => by rw [cI_t c]; rfl) (fun c => by rw [cI_f c]; rfl) rfl (by omega) (by omega)
  · rw [cI_f c] at h
    exact c_fixTransport_11 pr off there a i F 4 W hb hl hi h3 h6 h9 l3 l6 (by decide) (by omega) (by omega) h rfl rfl rfl rfl
theorem c_fixToSix_12 {M : cM} {L : cL} {x : Int32} {Z : cM → Prop} {b : List Nat} (pr off there len a i F W : Nat) (hb : holds (M 4) a b) (hl : a + b.length ≤ 2408) (hi : i + there ≤ b.length) (h3 : M 12 3 = nI pr) (h6 : M 12 6 = nI off) (h8 : M 12 8 = nI len) (h9 : M 12 9 = nI there) (l3 : pr < 256) (l6 : off < 8192) (l8 : len < 65536) (hF : F ≤ 262140) (hW : W ≤ 1048560) (k12 : L 12 12 = lN F) (k13 : L 12 13 = lN W) (he : pr = 1 → 4 ≤ there) (h : ∀ M', fr M M' [4] → holds (M' 4) a (cI (pr = 1) (fxE6 b i len W) (fxT b pr off there i F 4 W)) → Z M') (hx : x = nI (a + i)) : wp_X6_fixToSix_0_12 M L x Z := by
  subst hx
  have hob := holds_oct hb
  unfold wp_X6_fixToSix_0_12
  rw [h3, k12, k13]
  refine qen pr _ (fun c => ?_) (fun c => ?_) rfl (by omega) (by omega)
  · rw [cI_t c] at h
    have h4 := he c
    have hw := holds_wd hb (n := 2408) hl (k := i) (by omega)
    have hwl := lw_lt hob i
    have hb1 := oct_lg hob (i + 1)
    have hb0 := oct_lg hob i
    have hld : lw b i / 256 = lg b i := by unfold lw; omega
    have hlm : lw b i % 256 = lg b (i + 1) := by unfold lw; omega
    refine p_word_3 (a + i) ?_ (by omega) rfl
    rw [hw, nI_sr8 (by omega), hld]
    have hy : cI (lg b i = 8) 128 129 < 256 := by
      by_cases z : lg b i = 8
      · rw [cI_t z]; decide
      · rw [cI_f z]; decide
    refine ⟨fun v => v = nI (cI (lg b i = 8) 128 129), ?_, ?_⟩
    · rintro _ rfl
      rw [nI_shl8or hy hwl, hlm]
      rintro _ rfl
      refine p_put3 (a + i) 2 (cI (lg b i = 8) 128 129 * 256 + lg b (i + 1)) (hv_i 2 (by decide) _ _ rfl) (fun M1 w1 => ?_) rfl rfl (by omega) (by omega)
      have hb' := holds_put hb w1 (by omega)
      rw [echo_b hy (by omega) hob] at hb'
      have hlen : (spl b i [cI (lg b i = 8) 128 129]).length = b.length := spl_len (by simp; omega)
      rw [w1.1 12 (by decide), h8, nI_l (by omega), nI_l (by omega), lN_add, lN_add, show (58 : Int64) = lN 58 from rfl, lN_add]
      rintro _ rfl
      have hw2 := holds_wd hb' (n := 2408) (by rw [hlen]; exact hl) (k := i + 2) (by rw [hlen]; omega)
      have hwl2 := lw_lt (holds_oct hb') (i + 2)
      refine p_word_3 (a + (i + 2)) ?_ (by omega) (by rw [show (2 : Int32) = nI 2 from rfl, nI_add]; congr 1)
      rw [hw2, nI_l (by omega)]
      refine p_adjusted (lw (spl b i [cI (lg b i = 8) 128 129]) (i + 2)) (lw b i) 1 (cI (lg b i = 8) 128 129 * 256 + lg b (i + 1) + W + len + 58) ?_ (by omega) (by omega) (by omega) (by omega) rfl rfl rfl rfl
      refine p_put3 (a + (i + 2)) 2 (adj (lw (spl b i [cI (lg b i = 8) 128 129]) (i + 2)) (lw b i) 1 (cI (lg b i = 8) 128 129 * 256 + lg b (i + 1) + W + len + 58)) (hv_i 2 (by decide) _ _ rfl) (fun M2 w2 => ?_) (by rw [show (2 : Int32) = nI 2 from rfl, nI_add]; congr 1) rfl (by omega) (by omega)
      exact h M2 (fr_t (wr_fr w1 (by decide)) (wr_fr w2 (by decide))) (holds_put hb' w2 (by rw [hlen]; omega))
    · refine qen (lg b i) _ (fun c => by rw [cI_t c]; rfl) (fun c => by rw [cI_f c]; rfl) rfl (by omega) (by omega)
  · rw [cI_f c] at h
    exact c_fixTransport_12 pr off there a i F 4 W hb hl hi h3 h6 h9 l3 l6 (by decide) (by omega) (by omega) h rfl rfl rfl rfl
theorem c_fixToFour_13 {M : cM} {L : cL} {x : Int32} {Z : cM → Prop} {b : List Nat} (pr off there len a i F W : Nat) (hb : holds (M 4) a b) (hl : a + b.length ≤ 2408) (hi : i + there ≤ b.length) (h3 : M 13 3 = nI pr) (h6 : M 13 6 = nI off) (h8 : M 13 8 = nI len) (h9 : M 13 9 = nI there) (l3 : pr < 256) (l6 : off < 8192) (l8 : len < 65536) (hF : F ≤ 262140) (hW : W ≤ 1048560) (k12 : L 13 12 = lN F) (k13 : L 13 13 = lN W) (he : pr = 58 → 4 ≤ there) (h : ∀ M', fr M M' [4] → holds (M' 4) a (cI (pr = 58) (fxE4 b i len W) (fxT b pr off there i W 16 F)) → Z M') (hx : x = nI (a + i)) : wp_X6_fixToFour_0_13 M L x Z := by
  subst hx
  have hob := holds_oct hb
  unfold wp_X6_fixToFour_0_13
  rw [h3, k12, k13]
  refine qen pr _ (fun c => ?_) (fun c => ?_) rfl (by omega) (by omega)
  · rw [cI_t c] at h
    have h4 := he c
    have hw := holds_wd hb (n := 2408) hl (k := i) (by omega)
    have hwl := lw_lt hob i
    have hb1 := oct_lg hob (i + 1)
    have hb0 := oct_lg hob i
    have hld : lw b i / 256 = lg b i := by unfold lw; omega
    have hlm : lw b i % 256 = lg b (i + 1) := by unfold lw; omega
    refine p_word_3 (a + i) ?_ (by omega) rfl
    rw [hw, nI_sr8 (by omega), hld]
    have hy : cI (lg b i = 128) 8 0 < 256 := by
      by_cases z : lg b i = 128
      · rw [cI_t z]; decide
      · rw [cI_f z]; decide
    refine ⟨fun v => v = nI (cI (lg b i = 128) 8 0), ?_, ?_⟩
    · rintro _ rfl
      rw [nI_shl8or hy hwl, hlm]
      rintro _ rfl
      refine p_put3 (a + i) 2 (cI (lg b i = 128) 8 0 * 256 + lg b (i + 1)) (hv_i 2 (by decide) _ _ rfl) (fun M1 w1 => ?_) rfl rfl (by omega) (by omega)
      have hb' := holds_put hb w1 (by omega)
      rw [echo_b hy (by omega) hob] at hb'
      have hlen : (spl b i [cI (lg b i = 128) 8 0]).length = b.length := spl_len (by simp; omega)
      rw [w1.1 13 (by decide), h8, nI_l (by omega), nI_l (by omega), lN_add, lN_add, show (58 : Int64) = lN 58 from rfl, lN_add]
      rintro _ rfl
      have hw2 := holds_wd hb' (n := 2408) (by rw [hlen]; exact hl) (k := i + 2) (by rw [hlen]; omega)
      have hwl2 := lw_lt (holds_oct hb') (i + 2)
      refine p_word_3 (a + (i + 2)) ?_ (by omega) (by rw [show (2 : Int32) = nI 2 from rfl, nI_add]; congr 1)
      rw [hw2, nI_l (by omega)]
      refine p_adjusted (lw (spl b i [cI (lg b i = 128) 8 0]) (i + 2)) (lw b i + W + len + 58) 21 (cI (lg b i = 128) 8 0 * 256 + lg b (i + 1)) ?_ (by omega) (by omega) (by omega) (by omega) rfl rfl rfl rfl
      refine p_put3 (a + (i + 2)) 2 (adj (lw (spl b i [cI (lg b i = 128) 8 0]) (i + 2)) (lw b i + W + len + 58) 21 (cI (lg b i = 128) 8 0 * 256 + lg b (i + 1))) (hv_i 2 (by decide) _ _ rfl) (fun M2 w2 => ?_) (by rw [show (2 : Int32) = nI 2 from rfl, nI_add]; congr 1) rfl (by omega) (by omega)
      exact h M2 (fr_t (wr_fr w1 (by decide)) (wr_fr w2 (by decide))) (holds_put hb' w2 (by rw [hlen]; omega))
    · refine qen (lg b i) _ (fun c => by rw [cI_t c]; rfl) (fun c => by rw [cI_f c]; rfl) rfl (by omega) (by omega)
  · rw [cI_f c] at h
    exact c_fixTransport_13 pr off there a i W 16 F hb hl hi h3 h6 h9 l3 l6 (by decide) (by omega) (by omega) h rfl rfl rfl rfl
theorem c_fixToFour_14 {M : cM} {L : cL} {x : Int32} {Z : cM → Prop} {b : List Nat} (pr off there len a i F W : Nat) (hb : holds (M 4) a b) (hl : a + b.length ≤ 2408) (hi : i + there ≤ b.length) (h3 : M 14 3 = nI pr) (h6 : M 14 6 = nI off) (h8 : M 14 8 = nI len) (h9 : M 14 9 = nI there) (l3 : pr < 256) (l6 : off < 8192) (l8 : len < 65536) (hF : F ≤ 262140) (hW : W ≤ 1048560) (k12 : L 14 12 = lN F) (k13 : L 14 13 = lN W) (he : pr = 58 → 4 ≤ there) (h : ∀ M', fr M M' [4] → holds (M' 4) a (cI (pr = 58) (fxE4 b i len W) (fxT b pr off there i W 16 F)) → Z M') (hx : x = nI (a + i)) : wp_X6_fixToFour_0_14 M L x Z := by
  subst hx
  have hob := holds_oct hb
  unfold wp_X6_fixToFour_0_14
  rw [h3, k12, k13]
  refine qen pr _ (fun c => ?_) (fun c => ?_) rfl (by omega) (by omega)
  · rw [cI_t c] at h
    have h4 := he c
    have hw := holds_wd hb (n := 2408) hl (k := i) (by omega)
    have hwl := lw_lt hob i
    have hb1 := oct_lg hob (i + 1)
    have hb0 := oct_lg hob i
    have hld : lw b i / 256 = lg b i := by unfold lw; omega
    have hlm : lw b i % 256 = lg b (i + 1) := by unfold lw; omega
    refine p_word_3 (a + i) ?_ (by omega) rfl
    rw [hw, nI_sr8 (by omega), hld]
    have hy : cI (lg b i = 128) 8 0 < 256 := by
      by_cases z : lg b i = 128
      · rw [cI_t z]; decide
      · rw [cI_f z]; decide
    refine ⟨fun v => v = nI (cI (lg b i = 128) 8 0), ?_, ?_⟩
    · rintro _ rfl
      rw [nI_shl8or hy hwl, hlm]
      rintro _ rfl
      refine p_put3 (a + i) 2 (cI (lg b i = 128) 8 0 * 256 + lg b (i + 1)) (hv_i 2 (by decide) _ _ rfl) (fun M1 w1 => ?_) rfl rfl (by omega) (by omega)
      have hb' := holds_put hb w1 (by omega)
      rw [echo_b hy (by omega) hob] at hb'
      have hlen : (spl b i [cI (lg b i = 128) 8 0]).length = b.length := spl_len (by simp; omega)
      rw [w1.1 14 (by decide), h8, nI_l (by omega), nI_l (by omega), lN_add, lN_add, show (58 : Int64) = lN 58 from rfl, lN_add]
      rintro _ rfl
      have hw2 := holds_wd hb' (n := 2408) (by rw [hlen]; exact hl) (k := i + 2) (by rw [hlen]; omega)
      have hwl2 := lw_lt (holds_oct hb') (i + 2)
      refine p_word_3 (a + (i + 2)) ?_ (by omega) (by rw [show (2 : Int32) = nI 2 from rfl, nI_add]; congr 1)
      rw [hw2, nI_l (by omega)]
      refine p_adjusted (lw (spl b i [cI (lg b i = 128) 8 0]) (i + 2)) (lw b i + W + len + 58) 21 (cI (lg b i = 128) 8 0 * 256 + lg b (i + 1)) ?_ (by omega) (by omega) (by omega) (by omega) rfl rfl rfl rfl
      refine p_put3 (a + (i + 2)) 2 (adj (lw (spl b i [cI (lg b i = 128) 8 0]) (i + 2)) (lw b i + W + len + 58) 21 (cI (lg b i = 128) 8 0 * 256 + lg b (i + 1))) (hv_i 2 (by decide) _ _ rfl) (fun M2 w2 => ?_) (by rw [show (2 : Int32) = nI 2 from rfl, nI_add]; congr 1) rfl (by omega) (by omega)
      exact h M2 (fr_t (wr_fr w1 (by decide)) (wr_fr w2 (by decide))) (holds_put hb' w2 (by rw [hlen]; omega))
    · refine qen (lg b i) _ (fun c => by rw [cI_t c]; rfl) (fun c => by rw [cI_f c]; rfl) rfl (by omega) (by omega)
  · rw [cI_f c] at h
    exact c_fixTransport_14 pr off there a i W 16 F hb hl hi h3 h6 h9 l3 l6 (by decide) (by omega) (by omega) h rfl rfl rfl rfl
/-! the reference's -/
theorem r_adjust {M : cM} {L : cL} {x y z : Int32} {Z : cM → cL → Prop} {b : List Nat} (a pr i s t A B C D fw k to : Nat) (d : Prop) (hb : holds (M 5) a b) (hl : a + b.length ≤ 5000) (hi : i + 2 ≤ b.length) (l3 : pr < 256) (h25 : M 0 25 = nI s) (h26 : M 0 26 = nI t) (ls : s < 4294967296) (lt : t < 4294967296) (hA : uN (L 0 27) = A) (hB : uN (L 0 28) = B) (hC : uN (L 0 29) = C) (hD : uN (L 0 30) = D)
    (hd : (d ∧ fw = w2 s + w2 t ∧ k = 4 ∧ to = w4 A + w4 B + w4 C + w4 D) ∨ (¬ d ∧ to = w2 s + w2 t ∧ k = 16 ∧ fw = w4 A + w4 B + w4 C + w4 D))
    (h : ∀ M' L', fr M M' [5] → fL L L' [18] → holds (M' 5) a (spl b i (bys 2 (fxv pr (adj (lw b i) fw k to)))) → Z M' L') (hx : x = nI (a + i)) (hy : y = nI pr) (hz : z = bI d) : wp_X7_adjust_0_5 M L x y z Z := by
  subst hx hy hz
  have hob := holds_oct hb
  have hwl := lw_lt hob i
  have ha2 := w2_le ls
  have hb2 := w2_le lt
  have hA4 := w4_le (hA ▸ uN_lt (L 0 27))
  have hB4 := w4_le (hB ▸ uN_lt (L 0 28))
  have hC4 := w4_le (hC ▸ uN_lt (L 0 29))
  have hD4 := w4_le (hD ▸ uN_lt (L 0 30))
  unfold wp_X7_adjust_0_5
  rintro _ rfl
  refine r_two_5 (a + i) ?_ (by omega) rfl
  have hw := holds_wd hb (n := 5000) (by omega) (k := i) (by omega)
  rw [hw]
  refine r_turned 0 (lw b i) (fun L1 s1 e1 => ?_) rfl (by omega) rfl
  refine ⟨fun L' => sF L L' ∧ L' 0 18 = lN (fo (65535 - lw b i + (65535 * k - fw) + to)), ?_, ?_⟩
  · rintro L2 ⟨s2, e2⟩
    refine r_checksum _ ?_ e2
    have hal := adj_lt (lw b i) fw k to
    refine ⟨fun v => v = nI (fxv pr (adj (lw b i) fw k to)), ?_, ?_⟩
    · rintro _ rfl
      refine r_putTwo_5 (a + i) _ (fun M1 w1 => ?_) rfl (by omega) rfl
      exact h M1 L2 (wr_fr w1 (by decide)) (sF_fL s2 (by decide)) (holds_put hb w1 (by omega))
    · change ∃ K66 : Prop, _
      by_cases c : pr = 17 ∧ adj (lw b i) fw k to = 0
      · rw [show fxv pr (adj (lw b i) fw k to) = 65535 from cI_t c]
        refine ⟨False, False.elim, ?_⟩
        refine qen pr _ (fun _ => ?_) (fun c2 => absurd c.1 c2) rfl (by omega) (by omega)
        refine qen (adj (lw b i) fw k to) _ (fun _ => rfl) (fun c2 => absurd c.2 c2) rfl (by omega) (by omega)
      · rw [show fxv pr (adj (lw b i) fw k to) = adj (lw b i) fw k to from cI_f c]
        refine ⟨True, fun _ => rfl, ?_⟩
        refine qen pr _ (fun c1 => ?_) (fun c2 => trivial) rfl (by omega) (by omega)
        refine qen (adj (lw b i) fw k to) _ (fun c2 => absurd ⟨c1, c2⟩ c) (fun c2 => trivial) rfl (by omega) (by omega)
  · rw [Nat.zero_add] at e1
    have s0 : sF L L1 := sF_t (sF_0 _ _) s1
    refine bz (fun c => ?_) (fun c => ?_)
    · obtain ⟨_, rfl, rfl, rfl⟩ := hd.resolve_left (fun z => c z.1)
      refine r_images1 _ A B C D (fun L2 s2 e2 => ?_) e1 (by rw [s0.2 27 (by decide)]; exact hA) (by rw [s0.2 28 (by decide)]; exact hB) (by rw [s0.2 29 (by decide)]; exact hC) (by rw [s0.2 30 (by decide)]; exact hD) rfl
      refine r_addresses0 _ s t (fun L3 s3 e3 => ?_) e2 h25 h26 ls lt rfl
      exact ⟨sF_t s0 (sF_t s2 s3), e3⟩
    · obtain ⟨_, rfl, rfl, rfl⟩ := hd.resolve_right (fun z => z.1 c)
      refine r_addresses1 _ s t (fun L2 s2 e2 => ?_) e1 h25 h26 ls lt rfl
      have s20 := sF_t s0 s2
      refine r_images0 _ A B C D (fun L3 s3 e3 => ?_) e2 (by rw [s20.2 27 (by decide)]; exact hA) (by rw [s20.2 28 (by decide)]; exact hB) (by rw [s20.2 29 (by decide)]; exact hC) (by rw [s20.2 30 (by decide)]; exact hD) rfl
      exact ⟨sF_t s20 s3, e3⟩
theorem w2_sm {n : Nat} (h : n < 65536) : w2 n = n := by unfold w2; omega
theorem r_echo6 {M : cM} {L : cL} {x y z : Int32} {Z : cM → cL → Prop} {b : List Nat} (a i len A B C D W : Nat) (hb : holds (M 5) a b) (hl : a + b.length ≤ 5000) (hi : i + 4 ≤ b.length) (hln : len < 65536) (hA : uN (L 0 27) = A) (hB : uN (L 0 28) = B) (hC : uN (L 0 29) = C) (hD : uN (L 0 30) = D) (hW : W = w4 A + w4 B + w4 C + w4 D)
    (h : ∀ M' L', fr M M' [5] → fL L L' [18] → holds (M' 5) a (fxE6 b i len W) → Z M' L') (hx : x = nI (a + i)) (hy : y = nI len) (hz : z = 1) : wp_X7_echo_0_5 M L x y z Z := by
  subst hx hy hz
  have hob := holds_oct hb
  have hwl := lw_lt hob i
  have hb1 := oct_lg hob (i + 1)
  have hb0 := oct_lg hob i
  have hld : lw b i / 256 = lg b i := by unfold lw; omega
  unfold wp_X7_echo_0_5
  refine r_two_5 (a + i) ?_ (by omega) rfl
  have hw := holds_wd hb (n := 5000) (by omega) (k := i) (by omega)
  rw [hw, nI_sr8 (by omega), hld]
  have hy : cI (lg b i = 8) 128 129 < 256 := by
    by_cases z : lg b i = 8
    · rw [cI_t z]; decide
    · rw [cI_f z]; decide
  refine ⟨fun v => v = nI (cI (lg b i = 8) 128 129), ?_, ?_⟩
  · rintro _ rfl
    refine ⟨vp_in_nI (by omega) (by decide), ?_⟩
    rw [nI_clamp (by omega)]
    rintro _ rfl
    have w1 : wr M (mu M 5 (a + i) (vp_nar .byte ((nI (cI (lg b i = 8) 128 129)).toInt8.toInt32))) 5 (a + i) [cI (lg b i = 8) 128 129] := wr_nar8 (by rw [oc_nI]; omega)
    generalize mu M 5 (a + i) (vp_nar .byte ((nI (cI (lg b i = 8) 128 129)).toInt8.toInt32)) = M1 at w1 ⊢
    have hb' : holds (M1 5) a (spl b i [cI (lg b i = 8) 128 129]) := (wr_spl (k := i) (wr_of hb) w1 rfl (by simp; omega)).2.2
    have hlen : (spl b i [cI (lg b i = 8) 128 129]).length = b.length := spl_len (by simp; omega)
    have hwl2 := lw_lt (holds_oct hb') (i + 2)
    have hw2 := holds_wd hb' (n := 5000) (by rw [hlen]; omega) (k := i + 2) (by rw [hlen]; omega)
    have hw0 := holds_wd hb' (n := 5000) (by rw [hlen]; omega) (k := i) (by rw [hlen]; omega)
    have hf : lw (spl b i [cI (lg b i = 8) 128 129]) i = cI (lg b i = 8) 128 129 * 256 + lg b (i + 1) := by
      unfold lw; rw [lg_set1 (by omega), lg_set2 (by omega) (by omega)]
    rintro _ rfl
    refine r_two_5 (a + (i + 2)) ?_ (by omega) (nI_add _ 2)
    rw [hw2]
    refine r_turned 0 _ (fun L1 s1 e1 => ?_) rfl (by omega) rfl
    refine r_turned _ (lw b i) (fun L2 s2 e2 => ?_) e1 (by omega) rfl
    refine ⟨fun L' => L' = L2, ?_, ⟨fun _ => rfl, fun c => absurd c (by decide)⟩⟩
    rintro _ rfl
    refine r_two_5 (a + i) ?_ (by omega) rfl
    rw [hw0, hf]
    refine r_w _ (cI (lg b i = 8) 128 129 * 256 + lg b (i + 1)) (fun L3 s3 e3 => ?_) e2 (by omega) rfl
    have s30 : sF L L3 := sF_t (sF_0 _ _) (sF_t s1 (sF_t s2 s3))
    refine ⟨fun L' => sF L L' ∧ L' 0 18 = lN (fo (65535 - lw (spl b i [cI (lg b i = 8) 128 129]) (i + 2) + (65535 * 1 - lw b i) + (cI (lg b i = 8) 128 129 * 256 + lg b (i + 1) + W + len + 58))), ?_, ⟨fun c => absurd c (by decide), fun _ => ?_⟩⟩
    · rintro L4 ⟨s4, e4⟩
      refine r_checksum _ ?_ e4
      refine r_putTwo_5 (a + (i + 2)) _ (fun M2 w2 => ?_) rfl (by omega) (nI_add _ 2)
      exact h M2 L4 (fr_t (wr_fr w1 (by decide)) (wr_fr w2 (by decide))) (sF_fL s4 (by decide)) (holds_put hb' w2 (by rw [hlen]; omega))
    · refine r_pseudo0 _ A B C D len 58 (fun L4 s4 e4 => ⟨sF_t s30 s4, ?_⟩) e3 (by rw [s30.2 27 (by decide)]; exact hA) (by rw [s30.2 28 (by decide)]; exact hB) (by rw [s30.2 29 (by decide)]; exact hC) (by rw [s30.2 30 (by decide)]; exact hD) (by omega) (by omega) rfl rfl rfl
      rw [e4, w2_sm hln, w2_sm (show 58 < 65536 by decide)]
      congr 2
      omega
  · refine ⟨fun c => absurd c (by decide), fun _ => ?_⟩
    refine qen (lg b i) _ (fun c => by rw [cI_t c]; rfl) (fun c => by rw [cI_f c]; rfl) rfl (by omega) (by omega)
theorem r_echo4 {M : cM} {L : cL} {x y z : Int32} {Z : cM → cL → Prop} {b : List Nat} (a i len A B C D W : Nat) (hb : holds (M 5) a b) (hl : a + b.length ≤ 5000) (hi : i + 4 ≤ b.length) (hln : len < 65536) (hA : uN (L 0 27) = A) (hB : uN (L 0 28) = B) (hC : uN (L 0 29) = C) (hD : uN (L 0 30) = D) (hW : W = w4 A + w4 B + w4 C + w4 D)
    (h : ∀ M' L', fr M M' [5] → fL L L' [18] → holds (M' 5) a (fxE4 b i len W) → Z M' L') (hx : x = nI (a + i)) (hy : y = nI len) (hz : z = 0) : wp_X7_echo_0_5 M L x y z Z := by
  subst hx hy hz
  have hob := holds_oct hb
  have hwl := lw_lt hob i
  have hb1 := oct_lg hob (i + 1)
  have hb0 := oct_lg hob i
  have hld : lw b i / 256 = lg b i := by unfold lw; omega
  have hA4 := w4_le (hA ▸ uN_lt (L 0 27))
  have hB4 := w4_le (hB ▸ uN_lt (L 0 28))
  have hC4 := w4_le (hC ▸ uN_lt (L 0 29))
  have hD4 := w4_le (hD ▸ uN_lt (L 0 30))
  unfold wp_X7_echo_0_5
  refine r_two_5 (a + i) ?_ (by omega) rfl
  have hw := holds_wd hb (n := 5000) (by omega) (k := i) (by omega)
  rw [hw, nI_sr8 (by omega), hld]
  have hy : cI (lg b i = 128) 8 0 < 256 := by
    by_cases z : lg b i = 128
    · rw [cI_t z]; decide
    · rw [cI_f z]; decide
  refine ⟨fun v => v = nI (cI (lg b i = 128) 8 0), ?_, ?_⟩
  · rintro _ rfl
    refine ⟨vp_in_nI (by omega) (by decide), ?_⟩
    rw [nI_clamp (by omega)]
    rintro _ rfl
    have w1 : wr M (mu M 5 (a + i) (vp_nar .byte ((nI (cI (lg b i = 128) 8 0)).toInt8.toInt32))) 5 (a + i) [cI (lg b i = 128) 8 0] := wr_nar8 (by rw [oc_nI]; omega)
    generalize mu M 5 (a + i) (vp_nar .byte ((nI (cI (lg b i = 128) 8 0)).toInt8.toInt32)) = M1 at w1 ⊢
    have hb' : holds (M1 5) a (spl b i [cI (lg b i = 128) 8 0]) := (wr_spl (k := i) (wr_of hb) w1 rfl (by simp; omega)).2.2
    have hlen : (spl b i [cI (lg b i = 128) 8 0]).length = b.length := spl_len (by simp; omega)
    have hwl2 := lw_lt (holds_oct hb') (i + 2)
    have hw2 := holds_wd hb' (n := 5000) (by rw [hlen]; omega) (k := i + 2) (by rw [hlen]; omega)
    have hw0 := holds_wd hb' (n := 5000) (by rw [hlen]; omega) (k := i) (by rw [hlen]; omega)
    have hf : lw (spl b i [cI (lg b i = 128) 8 0]) i = cI (lg b i = 128) 8 0 * 256 + lg b (i + 1) := by
      unfold lw; rw [lg_set1 (by omega), lg_set2 (by omega) (by omega)]
    rintro _ rfl
    refine r_two_5 (a + (i + 2)) ?_ (by omega) (nI_add _ 2)
    rw [hw2]
    refine r_turned 0 _ (fun L1 s1 e1 => ?_) rfl (by omega) rfl
    refine r_turned _ (lw b i) (fun L2 s2 e2 => ?_) e1 (by omega) rfl
    have s20 : sF L L2 := sF_t (sF_0 _ _) (sF_t s1 s2)
    refine ⟨fun L' => sF L L' ∧ L' 0 18 = lN (fo (65535 - lw (spl b i [cI (lg b i = 128) 8 0]) (i + 2) + (65535 * 21 - (lw b i + W + len + 58)))), ?_, ⟨fun c => absurd rfl c, fun _ => ?_⟩⟩
    · rintro L3 ⟨s3, e3⟩
      refine r_two_5 (a + i) ?_ (by omega) rfl
      rw [hw0, hf]
      refine r_w _ (cI (lg b i = 128) 8 0 * 256 + lg b (i + 1)) (fun L4 s4 e4 => ?_) e3 (by omega) rfl
      refine ⟨fun L' => L' = L4, ?_, ⟨fun _ => rfl, fun c => absurd rfl c⟩⟩
      rintro _ rfl
      refine r_checksum _ ?_ e4
      refine r_putTwo_5 (a + (i + 2)) _ (fun M2 w2 => ?_) rfl (by omega) (nI_add _ 2)
      exact h M2 _ (fr_t (wr_fr w1 (by decide)) (wr_fr w2 (by decide))) (sF_fL (sF_t s3 s4) (by decide)) (holds_put hb' w2 (by rw [hlen]; omega))
    · refine r_pseudo1 _ A B C D len 58 (fun L4 s4 e4 => ⟨sF_t s20 s4, ?_⟩) e2 (by rw [s20.2 27 (by decide)]; exact hA) (by rw [s20.2 28 (by decide)]; exact hB) (by rw [s20.2 29 (by decide)]; exact hC) (by rw [s20.2 30 (by decide)]; exact hD) (by omega) (by omega) rfl rfl rfl
      rw [e4, w2_sm hln, w2_sm (show 58 < 65536 by decide)]
      congr 2
      omega
  · refine ⟨fun _ => ?_, fun c => absurd rfl c⟩
    refine qen (lg b i) _ (fun c => by rw [cI_t c]; rfl) (fun c => by rw [cI_f c]; rfl) rfl (by omega) (by omega)
