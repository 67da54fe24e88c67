/-! a packet of IPv4, all in all -/
theorem cI_P {α : Type} {P : Prop} {a b : α} (Q : α → Prop) (ha : Q a) (hb : Q b) : Q (cI P a b) := by
  by_cases h : P
  · rw [cI_t h]; exact ha
  · rw [cI_f h]; exact hb
noncomputable def an4 (own : Nat) (g : Nat → Nat) (k m : Nat) : Nat × List (List Nat) := cI (un4 g) (9, []) (10, [a4p own (sr4 g 0) g (q4 g) k m])
noncomputable def by4 (g : Nat → Nat) (H Lo : Int64) (B : Nat) (kp : Prop) (m4 m6 : Nat) : Nat × List Nat := cI (g 9 = 1 ∧ er4 (g (hl4 g 0))) (be4 g H Lo B kp m4 m6) (0, bd4 g (iw H Lo B (sr4 g 0) (tg4 g 0)))
noncomputable def F4z (g : Nat → Nat) (H Lo : Int64) (B : Nat) (kp : Prop) (own m6 : Nat) (b : List Nat) : Nat × List (List Nat) := cI (df4 g 0 ∧ m6 < 40 + cI (fg4 g 0) 8 0 + b.length) (an4 own g 772 (m6 - 20)) (0, sd6 g H Lo B kp b)
noncomputable def F4 (g : Nat → Nat) (n : Nat) (H Lo : Int64) (B : Nat) (kp lt : Prop) (own m4 m6 : Nat) : Nat × List (List Nat) :=
  cI (form4 g n) (cI (okA H Lo B (sr4 g 0)) (cI (okA H Lo B (tg4 g 0)) (cI (opr g = 2) (an4 own g 773 0) (cI (1 < g 8) (cI (f4 g lt = 0) (cI ((by4 g H Lo B kp m4 m6).1 = 0) (F4z g H Lo B kp own m6 (by4 g H Lo B kp m4 m6).2) ((by4 g H Lo B kp m4 m6).1, [])) (f4 g lt, [])) (an4 own g 2816 0))) (3, [])) (2, [])) (1, [])
theorem f4_le (g : Nat → Nat) (lt : Prop) : f4 g lt ≤ 10 := cI_le (by decide) (cI_le (by decide) (cI_le (flt_lt _ _ _ _ _ _ _) (cI_le (by decide) (by decide))))
theorem be4_le (g : Nat → Nat) (H Lo : Int64) (B : Nat) (kp : Prop) (m4 m6 : Nat) : (be4 g H Lo B kp m4 m6).1 ≤ 8 := cI_P (fun x : Nat × List Nat => x.1 ≤ 8) (show 4 ≤ 8 by decide) (cI_P (fun x : Nat × List Nat => x.1 ≤ 8) (show 0 ≤ 8 by decide) (show 8 ≤ 8 by decide))
theorem by4_le (g : Nat → Nat) (H Lo : Int64) (B : Nat) (kp : Prop) (m4 m6 : Nat) : (by4 g H Lo B kp m4 m6).1 ≤ 8 := cI_P (fun x : Nat × List Nat => x.1 ≤ 8) (be4_le _ _ _ _ _ _ _) (Nat.zero_le _)
theorem an4_le (own : Nat) (g : Nat → Nat) (k m : Nat) : (an4 own g k m).1 ≤ 10 := cI_P (fun x : Nat × List (List Nat) => x.1 ≤ 10) (show 9 ≤ 10 by decide) (Nat.le_refl _)
theorem F4_le (g : Nat → Nat) (n : Nat) (H Lo : Int64) (B : Nat) (kp lt : Prop) (own m4 m6 : Nat) : (F4 g n H Lo B kp lt own m4 m6).1 ≤ 10 :=
  cI_P (fun x : Nat × List (List Nat) => x.1 ≤ 10) (cI_P (fun x : Nat × List (List Nat) => x.1 ≤ 10) (cI_P (fun x : Nat × List (List Nat) => x.1 ≤ 10) (cI_P (fun x : Nat × List (List Nat) => x.1 ≤ 10) (an4_le _ _ _ _) (cI_P (fun x : Nat × List (List Nat) => x.1 ≤ 10) (cI_P (fun x : Nat × List (List Nat) => x.1 ≤ 10) (cI_P (fun x : Nat × List (List Nat) => x.1 ≤ 10) (cI_P (fun x : Nat × List (List Nat) => x.1 ≤ 10) (an4_le _ _ _ _) (Nat.zero_le _)) (Nat.le_trans (by4_le _ _ _ _ _ _ _) (by decide))) (f4_le _ _)) (an4_le _ _ _ _))) (show 3 ≤ 10 by decide)) (show 2 ≤ 10 by decide)) (show 1 ≤ 10 by decide)
theorem be4_len (g : Nat → Nat) (H Lo : Int64) (B : Nat) (kp : Prop) (m4 m6 : Nat) : (be4 g H Lo B kp m4 m6).2.length ≤ 1240 := cI_P (fun x : Nat × List Nat => x.2.length ≤ 1240) (Nat.zero_le _) (cI_P (fun x : Nat × List Nat => x.2.length ≤ 1240) (by dsimp only; rw [mg_len (by decide)]; split <;> omega) (Nat.zero_le _))
theorem by4_len {g : Nat → Nat} {H Lo : Int64} {B : Nat} {kp lt : Prop} {m4 m6 : Nat} (h : f4 g lt = 0) (ht : tl4 g 0 ≤ 2400) : (by4 g H Lo B kp m4 m6).2.length ≤ 2408 := by
  refine cI_P (fun x : Nat × List Nat => x.2.length ≤ 2408) (Nat.le_trans (be4_len _ _ _ _ _ _ _) (by decide)) ?_
  dsimp only
  rw [bd4_len h]
  omega
theorem c_anFour {M : cM} {L : cL} {x y : Int32} {Z : Int32 → cM → Prop} {g : Nat → Nat} (n own k m : Nat) (hg : at8 (M 2) 2400 = g) (hB : ∀ j, isBy (M 2 j)) (hp : pk4 (M 11) (L 11) g 0 n) (hf : form4 g n) (hn : n ≤ 2400) (ho : outC M []) (hw : M 0 9 = nI own) (hk : k < 65536) (hm : m < 65536) (h : ∀ M', fr M M' [5, 6, 7, 8, 9] → outC M' (an4 own g k m).2 → Z (nI (an4 own g k m).1) M') (hx : x = nI k) (hy : y = nI m) : wp_X6_answerFour_0_11 M L x y Z := by
  unfold an4 at h
  refine c_answerFour n own k m hg hB hp hf hn ho hw hk hm (fun hu => ?_) (fun hu M' f o => ?_) hx hy
  · rw [cI_t hu] at h
    exact h M (fr_r _ _) ho
  · rw [cI_f hu] at h
    exact h M' f o
theorem c_verdictFour {M : cM} {L : cL} {Z : Int32 → cM → cL → Prop} {g : Nat → Nat} {H Lo : Int64} {B : Nat} (n own m4 m6 : Nat) (kp lt : Prop) (hg : at8 (M 2) 2400 = g) (hB : ∀ j, isBy (M 2 j)) (hn : n ≤ 2400) (hn1 : M 1 1 = nI n) (hm : mapC (M 10) (L 10) H Lo B) (hk : M 0 14 = bI kp) (hlt : M 0 15 = bI lt) (hw : M 0 9 = nI own) (l4 : m4 ≤ 2000) (l6 : m6 ≤ 2000) (l6' : 1280 ≤ m6) (e4 : M 0 12 = nI m4) (e6 : M 0 13 = nI m6) (ho : outC M [])
    (h : ∀ M' L', fr M M' [3, 4, 5, 6, 7, 8, 9, 11, 12] → frL L L' [11, 12] → outC M' (F4 g n H Lo B kp lt own m4 m6).2 → Z (nI (F4 g n H Lo B kp lt own m4 m6).1) M' L') : wp_X6_verdictOnFour_0_11 M L Z := by
  have hgb : ∀ i, g i < 256 := fun i => by rw [← hg]; exact at8_lt _ _ _
  have hBl := pfx_lt hm.2.2.2
  have hb8 := hgb 8
  have hb9 := hgb 9
  unfold wp_X6_verdictOnFour_0_11
  unfold F4 at h
  refine c_readWhole_11 n hg hn hn1 (fun M1 L1 f1 k1 c => ?_) (fun M1 L1 f1 k1 hf hp h17 => ?_)
  · rw [cI_f c] at h
    exact ⟨fun z => absurd rfl z, fun _ => h M1 L1 (fr_s f1 (by decide)) (frL_s k1 (by decide)) (outC_f ho f1 (by decide) (by decide) (by decide) (by decide) (by decide))⟩
  rw [cI_t hf] at h
  refine ⟨fun _ => ?_, fun z => absurd z (by decide)⟩
  have f1' : fr M M1 [3, 4, 5, 6, 7, 8, 9, 11, 12] := fr_s f1 (by decide)
  have k1' : frL L L1 [11, 12] := frL_s k1 (by decide)
  have o1 : outC M1 [] := outC_f ho f1 (by decide) (by decide) (by decide) (by decide) (by decide)
  have hm1 : mapC (M1 10) (L1 10) H Lo B := by rw [f1 10 (by decide), k1 10 (by decide)]; exact hm
  have hg1 : at8 (M1 2) 2400 = g := by rw [f1 2 (by decide)]; exact hg
  have hB1 : ∀ j, isBy (M1 2 j) := by rw [f1 2 (by decide)]; exact hB
  have e0 : M1 0 = M 0 := f1 0 (by decide)
  refine p_mappable H Lo B (sr4 g 0) ?_ (num4_lt hgb _) hBl hm1.1 hm1.2.1 hm1.2.2.1 hp.2.2.2.2.2.2.2.2.2.2.1
  refine zb (fun c => ?_) (fun c1 => ?_)
  · rw [cI_f c] at h
    exact h M1 L1 f1' k1' o1
  rw [cI_t c1] at h
  refine p_mappable H Lo B (tg4 g 0) ?_ (num4_lt hgb _) hBl hm1.1 hm1.2.1 hm1.2.2.1 hp.2.2.2.2.2.2.2.2.2.2.2.1
  refine zb (fun c => ?_) (fun c2 => ?_)
  · rw [cI_f c] at h
    exact h M1 L1 f1' k1' o1
  rw [cI_t c2] at h
  rw [h17]
  refine bz (fun c3 => ?_) (fun c3 => ?_)
  rotate_left
  · rw [cI_t c3] at h
    exact c_anFour n own 773 0 hg1 hB1 hp hf hn o1 (by rw [e0]; exact hw) (by decide) (by decide) (fun M2 f2 o2 => h M2 L1 (fr_t f1' (fr_s f2 (by decide))) k1' o2) rfl rfl
  rw [cI_f c3] at h
  refine qb (g 8) _ (fun c4 => ?_) (fun c4 => ?_) hp.2.2.1 (by omega) (by omega)
  rotate_left
  · rw [cI_f (by omega)] at h
    exact c_anFour n own 2816 0 hg1 hB1 hp hf hn o1 (by rw [e0]; exact hw) (by decide) (by decide) (fun M2 f2 o2 => h M2 L1 (fr_t f1' (fr_s f2 (by decide))) k1' o2) rfl rfl
  rw [cI_t c4] at h
  have hfl := f4_le g lt
  have htl := hf.2.1
  refine c_faultOfFour n lt hg1 hp htl hf.1.2.2.2.2 hn ?_ (by rw [e0]; exact hlt)
  refine qe (f4 g lt) _ (fun c5 => ?_) (fun c5 => ?_) rfl (by omega) (by omega)
  rotate_left
  · rw [cI_f c5] at h
    exact h M1 L1 f1' k1' o1
  rw [cI_t c5] at h
  refine c_imageWords_11 0 n hgb hp hm1 ?_
  rintro _ rfl
  have k14 : frL L (ml L1 11 13 (lN (iw H Lo B (sr4 g 0) (tg4 g 0)))) [11, 12] := frL_t k1' (ml_frL _ _ _ _ (by decide))
  have hp14 : pk4 (M1 11) (ml L1 11 13 (lN (iw H Lo B (sr4 g 0) (tg4 g 0))) 11) g 0 n := hp
  have k13 : ml L1 11 13 (lN (iw H Lo B (sr4 g 0) (tg4 g 0))) 11 13 = lN (iw H Lo B (sr4 g 0) (tg4 g 0)) := rfl
  have hm14 : mapC (M1 10) (ml L1 11 13 (lN (iw H Lo B (sr4 g 0) (tg4 g 0))) 10) H Lo B := hm1
  generalize ml L1 11 13 (lN (iw H Lo B (sr4 g 0) (tg4 g 0))) = L14 at k14 hp14 k13 hm14 ⊢
  have hbyl := by4_len (H := H) (Lo := Lo) (B := B) (kp := kp) (m4 := m4) (m6 := m6) c5 (by omega)
  have hby1 := by4_le g H Lo B kp m4 m6
  refine ⟨fun x M' L' => x = nI (by4 g H Lo B kp m4 m6).1 ∧ fr M1 M' [3, 4, 12] ∧ frL L14 L' [12] ∧ ((by4 g H Lo B kp m4 m6).1 = 0 → holds (M' 4) 0 (by4 g H Lo B kp m4 m6).2 ∧ M' 3 1 = nI (by4 g H Lo B kp m4 m6).2.length), ?_, ?_⟩
  · rintro _ M16 L17 ⟨rfl, f16, k17, hb16⟩
    generalize hby : by4 g H Lo B kp m4 m6 = by' at h hbyl hby1 hb16 ⊢
    have f16' : fr M M16 [3, 4, 5, 6, 7, 8, 9, 11, 12] := fr_t f1' (fr_s f16 (by decide))
    have k17' : frL L L17 [11, 12] := frL_t k14 (frL_s k17 (by decide))
    have o16 : outC M16 [] := outC_f o1 f16 (by decide) (by decide) (by decide) (by decide) (by decide)
    refine qe by'.1 _ (fun c6 => ?_) (fun c6 => ?_) rfl (by omega) (by omega)
    rotate_left
    · rw [cI_f c6] at h
      exact h M16 L17 f16' k17' o16
    rw [cI_t c6] at h
    obtain ⟨b16, l16⟩ := hb16 c6
    have hp16 : pk4 (M16 11) (L17 11) g 0 n := by rw [f16 11 (by decide), k17 11 (by decide)]; exact hp14
    have hm16 : mapC (M16 10) (L17 10) H Lo B := by rw [f16 10 (by decide), k17 10 (by decide)]; exact hm14
    have e16 : M16 0 = M 0 := (f16 0 (by decide)).trans e0
    have hg16 : at8 (M16 2) 2400 = g := by rw [f16 2 (by decide)]; exact hg1
    have hB16 : ∀ j, isBy (M16 2 j) := by rw [f16 2 (by decide)]; exact hB1
    have h8 := cI_8 (fg4 g 0)
    unfold F4z at h
    have h16 : M16 11 16 = bI (df4 g 0) := hp16.2.2.2.2.2.2.2.2.2.2.2.2.2.2.1
    by_cases c7 : df4 g 0 ∧ m6 < 40 + cI (fg4 g 0) 8 0 + by'.2.length
    · rw [cI_t c7] at h
      refine ⟨False, False.elim, ?_⟩
      rw [h16]
      refine bz (fun z => absurd c7.1 z) (fun _ => ?_)
      refine c_fragmentHeader_11 0 n hgb hp16 ?_
      rw [l16, e16, e6]
      refine pk_le (40 + cI (fg4 g 0) 8 0 + by'.2.length) m6 (fun z => by omega) (fun _ => ?_) (by rw [show (40 : Int32) = nI 40 from rfl, nI_add, nI_add]) rfl (by omega) (by omega)
      exact c_anFour n own 772 (m6 - 20) hg16 hB16 hp16 hf hn o16 (by rw [e16]; exact hw) (by decide) (by omega) (fun M2 f2 o2 => h M2 L17 (fr_t f16' (fr_s f2 (by decide))) k17' o2) rfl (pk_sub (a := m6) (b := 20) (by omega))
    · rw [cI_f c7] at h
      refine ⟨True, fun _ => ?_, ?_⟩
      · exact c_sendSix n by'.2 kp hgb hp16 hm16 (by rw [e16]; exact hk) o16 b16 l16 hbyl c4 (fun M2 f2 o2 => h M2 L17 (fr_t f16' (fr_s f2 (by decide))) k17' o2)
      · rw [h16]
        refine bz (fun _ => trivial) (fun c8 => ?_)
        refine c_fragmentHeader_11 0 n hgb hp16 ?_
        rw [l16, e16, e6]
        exact pk_le (40 + cI (fg4 g 0) 8 0 + by'.2.length) m6 (fun _ => trivial) (fun z => absurd ⟨c8, z⟩ c7) (by rw [show (40 : Int32) = nI 40 from rfl, nI_add, nI_add]) rfl (by omega) (by omega)
  · have hbody : ¬ (g 9 = 1 ∧ er4 (g (hl4 g 0))) → wp_X6_bodyFromFour_0_11 M1 L14 (fun M25 => nI (f4 g lt) = nI (by4 g H Lo B kp m4 m6).1 ∧ fr M1 M25 [3, 4, 12] ∧ frL L14 L14 [12] ∧ ((by4 g H Lo B kp m4 m6).1 = 0 → holds (M25 4) 0 (by4 g H Lo B kp m4 m6).2 ∧ M25 3 1 = nI (by4 g H Lo B kp m4 m6).2.length)) := by
      intro c6
      have eb : by4 g H Lo B kp m4 m6 = (0, bd4 g (iw H Lo B (sr4 g 0) (tg4 g 0))) := cI_f c6
      refine c_bodyFromFour (H := H) (Lo := Lo) (B := B) n lt hg1 hB1 hp14 hf hn c5 k13 (fun M2 f2 b2 l2 => ?_)
      rw [eb]
      exact ⟨by rw [c5], fr_s f2 (by decide), frL_r _ _, fun _ => ⟨b2, by rw [bd4_len c5]; exact l2⟩⟩
    have h3 : M1 11 3 = nI (g 9) := hp.2.2.2.1
    have h7 : M1 11 7 = nI (hl4 g 0) := by rw [hp.2.2.2.2.2.2.2.1, Nat.zero_add]
    rw [h3, h7]
    have hbh := hgb (hl4 g 0)
    have hhl : hl4 g 0 ≤ 60 := hl4_le 0
    by_cases c6 : g 9 = 1 ∧ er4 (g (hl4 g 0))
    · refine ⟨False, False.elim, ?_⟩
      refine qen (g 9) _ (fun _ => ?_) (fun z => absurd c6.1 z) rfl (by omega) (by omega)
      refine c_at (hl4 g 0) hg1 ?_ (by omega) rfl
      refine p_errorFour (g (hl4 g 0)) ?_ hbh rfl
      refine bz (fun z => absurd c6.2 z) (fun _ => ?_)
      have eb : by4 g H Lo B kp m4 m6 = be4 g H Lo B kp m4 m6 := cI_t c6
      rw [eb]
      have h8l := (f4_8 c5 (f4_i c5 c6.1).1 (Or.inr (Or.inl c6.1))).1
      exact c_errorFromFour n m4 m6 kp hg1 hB1 hp14 hf hn h8l hm14 (by rw [e0]; exact hk) l4 l6 (by rw [e0]; exact e4) (by rw [e0]; exact e6) k13 (fun M2 L2 f2 k2 hb2 => ⟨rfl, f2, k2, hb2⟩)
    · refine ⟨True, fun _ => hbody c6, ?_⟩
      refine qen (g 9) _ (fun c7 => ?_) (fun _ => trivial) rfl (by omega) (by omega)
      refine c_at (hl4 g 0) hg1 ?_ (by omega) rfl
      refine p_errorFour (g (hl4 g 0)) ?_ hbh rfl
      exact bz (fun _ => trivial) (fun z => absurd ⟨c7, z⟩ c6)
theorem c_finish {M : cM} {L : cL} {x : Int32} {Z : cM → Prop} (v : Nat) (hv : v ≤ 10) (h : ∀ M', fr M M' [1, 15] → M' 1 1 = 0 → M' 15 = upv (M 15) v → Z M') (hx : x = nI v) : wp_X6_finish_0 M L x Z := by
  subst hx
  unfold wp_X6_finish_0
  rintro _ rfl
  refine ⟨fun c => absurd c (nI_pos (by omega)), fun _ => ?_⟩
  refine qg v _ (fun c => by omega) (fun _ => ?_) rfl (by omega) (by omega)
  rw [nI_clamp (by omega)]
  refine ⟨vp_in_nI (by omega) (by decide), vp_in_nI (by omega) (by decide), ?_⟩
  rintro _ rfl
  refine h _ (fr_t (mu_fr _ _ _ _ (by decide)) (mu_fr _ _ _ _ (by decide))) rfl ?_
  funext k
  unfold upv mu
  by_cases c : k = v
  · subst c; simp
  · simp [c]
theorem c_four {M : cM} {L : cL} {Z : Int32 → cM → cL → Prop} {g : Nat → Nat} {H Lo : Int64} {B : Nat} (n own m4 m6 : Nat) (kp lt : Prop) (hg : at8 (M 2) 2400 = g) (hB : ∀ j, isBy (M 2 j)) (hn : n ≤ 2400) (hn1 : M 1 1 = nI n) (hm : mapC (M 10) (L 10) H Lo B) (hk : M 0 14 = bI kp) (hlt : M 0 15 = bI lt) (hw : M 0 9 = nI own) (l4 : m4 ≤ 2000) (l6 : m6 ≤ 2000) (l6' : 1280 ≤ m6) (e4 : M 0 12 = nI m4) (e6 : M 0 13 = nI m6)
    (h : ∀ M' L', fr M M' [1, 3, 4, 5, 6, 7, 8, 9, 11, 12, 15] → frL L L' [11, 12] → M' 1 1 = 0 → M' 15 = upv (M 15) (F4 g n H Lo B kp lt own m4 m6).1 → outC M' (F4 g n H Lo B kp lt own m4 m6).2 → Z (nI (F4 g n H Lo B kp lt own m4 m6).1) M' L') : wp_X6_four_0 M L Z := by
  unfold wp_X6_four_0 wp_X3_clear_5
  rintro _ rfl _ rfl
  refine c_verdictFour n own m4 m6 kp lt hg hB hn hn1 hm hk hlt hw l4 l6 l6' e4 e6 ⟨rfl, rfl, trivial, fun i hi => absurd hi (Nat.not_lt_zero _), by decide, by decide⟩ (fun M' L' f' k' o' => ?_)
  refine c_finish _ (F4_le _ _ _ _ _ _ _ _ _ _) (fun M2 f2 e1 e15 => ?_) rfl
  have f0 : fr M M' [3, 4, 5, 6, 7, 8, 9, 11, 12] := fr_t (fr_t (mu_fr _ _ _ _ (by decide)) (mu_fr _ _ _ _ (by decide))) f'
  refine h M2 L' (fr_t (fr_s f0 (by decide)) (fr_s f2 (by decide))) k' e1 (by rw [e15, f0 15 (by decide)]) (outC_f o' f2 (by decide) (by decide) (by decide) (by decide) (by decide))
