/-! what came out -/
theorem wr_nar {M : cM} {c a : Nat} {v : Int32} {m : Nat} (ho : oc v = m) : wr M (mu M c a (vp_nar .byte v)) c a [m] :=
  ⟨fun c' hc => mu_ne _ _ _ _ hc, fun j hj => mu_oth _ _ _ _ (by rw [List.length_singleton] at hj; omega), ⟨⟨by rw [mu_at]; exact isBy_nar _, by rw [mu_at, oc_nar]; exact ho⟩, trivial⟩⟩
theorem wr_nar8 {M : cM} {c a : Nat} {v : Int32} {m : Nat} (ho : oc v = m) : wr M (mu M c a (vp_nar .byte (v.toInt8.toInt32))) c a [m] := wr_nar (by rw [oc_byte]; exact ho)
theorem cp_step {M M3 : cM} {c c2 d s i n : Nat} (w : wr M M3 c d (seg (at8 (M c2) n) s i)) (hc : c2 ≠ c) (h : s + i < n) : wr M (mu M3 c (d + i) (vp_nar .byte (M3 c2 (s + i)))) c d (seg (at8 (M c2) n) s (i + 1)) := by
  rw [seg_snoc]
  refine wr_app w (wr_nar ?_) (by rw [seg_len])
  rw [w.1 c2 hc, at8_in h]
def offs (PK : List (List Nat)) (i : Nat) : Nat := (PK.take i).flatten.length
theorem offs_0 (PK : List (List Nat)) : offs PK 0 = 0 := rfl
theorem offs_all (PK : List (List Nat)) : offs PK PK.length = PK.flatten.length := by unfold offs; rw [List.take_length]
theorem offs_app (PK : List (List Nat)) (p : List Nat) {i : Nat} (h : i ≤ PK.length) : offs (PK ++ [p]) i = offs PK i := by
  unfold offs; rw [List.take_append_of_le_length h]
theorem flat_app (PK : List (List Nat)) (p : List Nat) : (PK ++ [p]).flatten = PK.flatten ++ p := by simp
theorem getD_app (PK : List (List Nat)) (p : List Nat) {i : Nat} (h : i < PK.length) : (PK ++ [p]).getD i [] = PK.getD i [] := by
  rw [List.getD_eq_getElem?_getD, List.getD_eq_getElem?_getD, List.getElem?_append_left h]
theorem getD_lst (PK : List (List Nat)) (p : List Nat) : (PK ++ [p]).getD PK.length [] = p := by
  rw [List.getD_eq_getElem?_getD, List.getElem?_append_right (Nat.le_refl _), Nat.sub_self]; rfl
theorem offs_succ (PK : List (List Nat)) {i : Nat} (h : i < PK.length) : offs PK (i + 1) = offs PK i + (PK.getD i []).length := by
  unfold offs
  have e : PK.take (i + 1) = PK.take i ++ [PK[i]] := by rw [List.take_add_one, List.getElem?_eq_getElem h]; rfl
  rw [e, flat_app, List.length_append, List.getD_eq_getElem?_getD, List.getElem?_eq_getElem h]; rfl
theorem offs_le (PK : List (List Nat)) (i : Nat) : offs PK i ≤ PK.flatten.length := by
  unfold offs
  have : PK.flatten.length = (PK.take i).flatten.length + (PK.drop i).flatten.length := by
    rw [← List.length_append, ← List.flatten_append, List.take_append_drop]
  omega
def outC (M : cM) (PK : List (List Nat)) : Prop := M 5 3 = nI PK.length ∧ M 6 1 = nI PK.flatten.length ∧ holds (M 7) 0 PK.flatten ∧ (∀ i, i < PK.length → M 8 i = nI (offs PK i) ∧ M 9 i = nI (PK.getD i []).length) ∧ PK.length ≤ 49 ∧ PK.flatten.length ≤ 3332
def outR (M : cM) (PK : List (List Nat)) : Prop := M 0 22 = nI PK.length ∧ M 0 20 = nI PK.flatten.length ∧ (∀ i, i ≤ PK.length → M 4 i = nI (offs PK i)) ∧ holds (M 3) 0 PK.flatten
theorem outC_f {M M' : cM} {PK : List (List Nat)} {S : List Nat} (h : outC M PK) (f : fr M M' S) (e5 : 5 ∉ S) (e6 : 6 ∉ S) (e7 : 7 ∉ S) (e8 : 8 ∉ S) (e9 : 9 ∉ S) : outC M' PK := by
  unfold outC
  rw [f 5 e5, f 6 e6, f 7 e7, f 8 e8, f 9 e9]
  exact h
theorem outR_f {M M' : cM} {PK : List (List Nat)} {S T : List Nat} (h : outR M PK) (f : fz M M' S T) (e20 : 20 ∉ T) (e22 : 22 ∉ T) (e3 : 3 ∉ S) (e4 : 4 ∉ S) : outR M' PK := by
  unfold outR
  rw [f.2 22 e22, f.2 20 e20, f.1 3 e3, f.1 4 e4]
  exact h
theorem p_open {M : cM} {L : cL} {x : Int32} {Z : Int32 → cM → Prop} (PK : List (List Nat)) (s : Nat) (ho : outC M PK) (hl : PK.length < 49) (h : ∀ M', fr M M' [5, 6, 8, 9] → (∀ M'' p, wr M' M'' 7 PK.flatten.length p → p.length = s → PK.flatten.length + s ≤ 3332 → outC M'' (PK ++ [p])) → Z (nI PK.flatten.length) M') (hx : x = nI s) : wp_X3_open_5 M L x Z := by
  subst hx
  unfold wp_X3_open_5
  rintro _ rfl
  rw [ho.1, ho.2.1]
  refine ⟨fun c => absurd c (nI_pos (by omega)), fun _ => ?_⟩
  refine qg PK.length _ (fun c => by omega) (fun _ => ?_) rfl (by omega) (by omega)
  refine ⟨vp_in_nI hl (by decide), ?_⟩
  rw [nI_clamp (by omega)]
  rintro _ rfl
  have e1 : mu M 8 PK.length (nI PK.flatten.length) 5 3 = nI PK.length := ho.1
  rw [e1, nI_clamp (by omega)]
  refine ⟨vp_in_nI hl (by decide), ?_⟩
  rintro _ rfl
  have e2 : mu (mu M 8 PK.length (nI PK.flatten.length)) 9 PK.length (nI s) 5 3 = nI PK.length := ho.1
  rw [e2, nI_1, nI_add]
  rintro _ rfl _ rfl
  refine h _ ?_ ?_
  · repeat' first | exact fr_r _ _ | refine fr_t ?_ (mu_fr _ _ _ _ (by decide))
  · intro M2 p w hp hroom
    unfold outC
    rw [w.1 5 (by decide), w.1 6 (by decide), w.1 8 (by decide), w.1 9 (by decide), flat_app, List.length_append, List.length_append, List.length_singleton, hp]
    refine ⟨rfl, rfl, holds_app.mpr ⟨wr_keep w ho.2.2.1 (Or.inl (by omega)), by rw [Nat.zero_add]; exact w.2.2⟩, ?_, by omega, hroom⟩
    intro i hi
    by_cases c : i = PK.length
    · subst c
      rw [getD_lst, hp, offs_app _ _ (Nat.le_refl _), offs_all]
      exact ⟨mu_at M 8 PK.length _, mu_at (mu M 8 PK.length (nI PK.flatten.length)) 9 PK.length (nI s)⟩
    · rw [getD_app _ _ (by omega), offs_app _ _ (by omega), ← (ho.2.2.2.1 i (by omega)).1, ← (ho.2.2.2.1 i (by omega)).2]
      exact ⟨mu_oth M 8 PK.length _ c, mu_oth (mu M 8 PK.length (nI PK.flatten.length)) 9 PK.length (nI s) c⟩
theorem r_part {M : cM} {L : cL} {Z : cM → Prop} (PK : List (List Nat)) (p : List Nat) (h22 : M 0 22 = nI PK.length) (h20 : M 0 20 = nI (PK.flatten.length + p.length)) (h4 : ∀ i, i ≤ PK.length → M 4 i = nI (offs PK i)) (hh : holds (M 3) 0 PK.flatten) (hp : holds (M 3) PK.flatten.length p) (hl : PK.length < 100) (h : ∀ M', fz M M' [0, 4] [22] → outR M' (PK ++ [p]) → Z M') : wp_X7_isPart_0 M L Z := by
  unfold wp_X7_isPart_0
  rw [h22, nI_1]
  rintro _ rfl
  have e1 : mu M 0 22 (nI (PK.length + 1)) 0 22 = nI (PK.length + 1) := rfl
  have e2 : mu M 0 22 (nI (PK.length + 1)) 0 20 = nI (PK.flatten.length + p.length) := h20
  rw [e1, e2, nI_clamp (by omega)]
  refine ⟨vp_in_nI (by omega) (by decide), ?_⟩
  rintro _ rfl
  refine h _ (fz_t (mu_fz0 _ _ _ (by decide) (by decide)) (mu_fz _ _ _ _ (by decide) (by decide))) ?_
  unfold outR
  rw [flat_app, List.length_append, List.length_append, List.length_singleton]
  refine ⟨rfl, h20, ?_, holds_app.mpr ⟨hh, by rw [Nat.zero_add]; exact hp⟩⟩
  intro i hi
  by_cases c : i = PK.length + 1
  · subst c
    refine (mu_at _ _ _ _).trans ?_
    congr 1
    unfold offs
    rw [List.take_of_length_le (by rw [List.length_append, List.length_singleton]; omega), flat_app, List.length_append]
  · rw [offs_app _ _ (by omega), ← h4 i (by omega)]
    exact mu_oth _ _ _ _ c
/-- the count of a verdict goes up -/
def upv (r : Nat → Int32) (v : Nat) : Nat → Int32 := fun k => if k = v then r k + 1 else r k
theorem r_tellK {M : cM} {L : cL} {x : Int32} {Z : Int32 → cM → Prop} (v : Nat) (hv : v = 0 ∨ v = 10) (h : ∀ M', fz M M' [2] [] → M' 2 = upv (M 2) v → Z (nI v) M') (hx : x = nI v) : wp_X7_tell_0 M L x Z := by
  subst hx
  have hu : mu M 2 v (M 2 v + 1) 2 = upv (M 2) v := by
    funext k
    unfold upv mu
    by_cases c : k = v
    · subst c; simp
    · simp [c]
  have h' := h _ (mu_fz M 2 v (M 2 v + 1) (by decide) (by decide)) hu
  unfold wp_X7_tell_0
  rw [nI_clamp (by omega)]
  refine ⟨vp_in_nI (by omega) (by decide), vp_in_nI (by omega) (by decide), ?_⟩
  rintro _ rfl
  refine ql v _ (fun c => h') (fun c => ?_) rfl (by omega) (by omega)
  refine qg v _ (fun c => h') (fun c => by omega) rfl (by omega) (by omega)
theorem r_tellD {M : cM} {L : cL} {x : Int32} {Z : Int32 → cM → Prop} (v : Nat) (hv : 0 < v ∧ v < 10) (h0 : M 4 0 = 0) (h : ∀ M', fz M M' [0, 2] [20, 22] → M' 2 = upv (M 2) v → outR M' [] → Z (nI v) M') (hx : x = nI v) : wp_X7_tell_0 M L x Z := by
  subst hx
  have hu : mu M 2 v (M 2 v + 1) 2 = upv (M 2) v := by
    funext k
    unfold upv mu
    by_cases c : k = v
    · subst c; simp
    · simp [c]
  unfold wp_X7_tell_0
  rw [nI_clamp (by omega)]
  refine ⟨vp_in_nI (by omega) (by decide), vp_in_nI (by omega) (by decide), ?_⟩
  rintro _ rfl
  refine ql v _ (fun c => by omega) (fun c => ?_) rfl (by omega) (by omega)
  refine qg v _ (fun c => by omega) (fun c => ?_) rfl (by omega) (by omega)
  rintro _ rfl _ rfl
  refine h _ ?_ hu ⟨rfl, rfl, fun i hi => ?_, trivial⟩
  · exact fz_t (fz_t (mu_fz _ _ _ _ (by decide) (by decide)) (mu_fz0 _ _ _ (by decide) (by decide))) (mu_fz0 _ _ _ (by decide) (by decide))
  · have e : i = 0 := Nat.le_zero.mp hi
    subst e
    exact h0
/-! copies of the class -/
theorem c_copy61 {M : cM} {L : cL} {x y z : Int32} {Z : cM → Prop} {g : Nat → Nat} (sp dp n : Nat) (hg : at8 (M 2) 2400 = g) (hB : ∀ j, isBy (M 2 j)) (h : ∀ M' : cM, wr M M' 7 dp (seg g sp n) → Z M') (h4 : sp + n ≤ 2400 := by omega) (h5 : dp + n ≤ 3332 := by omega) (hx : x = nI sp := by first | rfl | exact nI_add _ _ | assumption) (hy : y = nI dp := by first | rfl | exact nI_add _ _ | assumption) (hz : z = nI n := by first | rfl | exact nI_add _ _ | assumption) : wp_X4_copy_6_1 M L x y z Z := by
  subst hg; exact p_copy_6_1 sp dp n (fun i _ => hB _) h h4 h5 hx hy hz
theorem c_copy31 {M : cM} {L : cL} {x y z : Int32} {Z : cM → Prop} {g : Nat → Nat} (sp dp n : Nat) (hg : at8 (M 2) 2400 = g) (hB : ∀ j, isBy (M 2 j)) (h : ∀ M' : cM, wr M M' 4 dp (seg g sp n) → Z M') (h4 : sp + n ≤ 2400 := by omega) (h5 : dp + n ≤ 2408 := by omega) (hx : x = nI sp := by first | rfl | exact nI_add _ _ | assumption) (hy : y = nI dp := by first | rfl | exact nI_add _ _ | assumption) (hz : z = nI n := by first | rfl | exact nI_add _ _ | assumption) : wp_X4_copy_3_1 M L x y z Z := by
  subst hg; exact p_copy_3_1 sp dp n (fun i _ => hB _) h h4 h5 hx hy hz
theorem c_copy63 {M : cM} {L : cL} {x y z : Int32} {Z : cM → Prop} {b : List Nat} (sp dp n : Nat) (hb : holds (M 4) 0 b) (h : ∀ M' : cM, wr M M' 7 dp ((b.drop sp).take n) → Z M') (h4 : sp + n ≤ b.length) (h6 : b.length ≤ 2408) (h5 : dp + n ≤ 3332 := by omega) (hx : x = nI sp := by first | rfl | exact nI_add _ _ | assumption) (hy : y = nI dp := by first | rfl | exact nI_add _ _ | assumption) (hz : z = nI n := by first | rfl | exact nI_add _ _ | assumption) : wp_X4_copy_6_3 M L x y z Z := by
  refine p_copy_6_3 sp dp n (fun i hi => ?_) (fun M' w => h M' ?_) (by omega) h5 hx hy hz
  · have := holds_by hb (sp + i) (by omega)
    rw [Nat.zero_add] at this; exact this
  · have e := seg_holds hb (n := 2408) (by omega) (i := sp) (k := n) h4
    rw [Nat.zero_add] at e
    rw [← e]; exact w
/-! answers of IPv4 -/
theorem nI_if {a b : Nat} (ha : a < 2 ^ 31) (hb : b < 2 ^ 31) {α : Type} (p q : α) : (if nI a < nI b then p else q) = if a < b then p else q := by
  by_cases c : a < b
  · rw [if_pos c, if_pos ((nI_ltI ha hb).mpr c)]
  · rw [if_neg c, if_neg (fun z => c ((nI_ltI ha hb).mp z))]
theorem nI_ite (P : Prop) [Decidable P] (a b : Nat) : (if P then nI a else nI b) = nI (if P then a else b) := by split <;> rfl
def ck (l : List Nat) : Nat := 65535 - fo (lsm l)
def a4h (own s t : Nat) : List Nat := bys 4 (1157627904 + t) ++ bys 4 0 ++ bys 4 1073807360 ++ bys 4 own ++ bys 4 s
def a4m (g : Nat → Nat) (q k m : Nat) : List Nat := bys 4 (k * 65536) ++ bys 4 m ++ seg g 0 q
def a4p (own s : Nat) (g : Nat → Nat) (q k m : Nat) : List Nat := spl (a4h own s (28 + q)) 10 (bys 2 (ck (a4h own s (28 + q)))) ++ spl (a4m g q k m) 2 (bys 2 (ck (a4m g q k m)))
theorem a4h_len (own s t : Nat) : (a4h own s t).length = 20 := by simp [a4h, bys_len]
theorem a4m_len (g : Nat → Nat) (q k m : Nat) : (a4m g q k m).length = 8 + q := by simp [a4m, bys_len, seg_len]; omega
theorem a4p_len (own s : Nat) (g : Nat → Nat) (q k m : Nat) : (a4p own s g q k m).length = 28 + q := by
  unfold a4p
  rw [List.length_append, spl_len (by rw [bys_len, a4h_len]; omega), spl_len (by rw [bys_len, a4m_len]; omega), a4h_len, a4m_len]; omega
def un4 (g : Nat → Nat) : Prop := of4 g 0 ≠ 0 ∨ (g 9 = 1 ∧ ¬ (0 < tl4 g 0 - hl4 g 0 ∧ ec4 (g (hl4 g 0))))
def q4 (g : Nat → Nat) : Nat := hl4 g 0 + (if tl4 g 0 - hl4 g 0 < 8 then tl4 g 0 - hl4 g 0 else 8)
theorem p_put6 {M : cM} {L : cL} {x y : Int32} {v : Int64} {Z : cM → Prop} (a w m : Nat) (hv : uN v % 256 ^ w = m % 256 ^ w) (h : ∀ M' : cM, wr M M' 7 a (bys w m) → Z M') (hx : x = nI a) (hy : y = nI w) (hw : w ≤ 8 := by omega) (ha : a + w ≤ 3332 := by omega) : wp_X4_put_6 M L x y v Z := p_put_6 a w m hv h hw ha hx hy
theorem p_put3 {M : cM} {L : cL} {x y : Int32} {v : Int64} {Z : cM → Prop} (a w m : Nat) (hv : uN v % 256 ^ w = m % 256 ^ w) (h : ∀ M' : cM, wr M M' 4 a (bys w m) → Z M') (hx : x = nI a) (hy : y = nI w) (hw : w ≤ 8 := by omega) (ha : a + w ≤ 2408 := by omega) : wp_X4_put_3 M L x y v Z := p_put_3 a w m hv h hw ha hx hy
theorem hv_l (w n : Nat) (x : Int64) (h : x = lN n) (hn : n < 18446744073709551616) : uN x % 256 ^ w = n % 256 ^ w := by subst h; exact hv_n w n hn
theorem l_shl16 {k : Nat} (hk : k < 2 ^ 31) : (nI k).toInt64 <<< ((16 : Int32).toInt64 &&& 63) = lN (k * 65536) := by
  rw [nI_l hk]; exact wb_shl k (k := 16) (by decide)
theorem c_answerFour {M : cM} {L : cL} {x y : Int32} {Z : Int32 → cM → Prop} {g : Nat → Nat} (n own k m : Nat) (hg : at8 (M 2) 2400 = g) (hB : ∀ j, isBy (M 2 j)) (hp : pk4 (M 11) (L 11) g 0 n) (hf : form4 g n) (hn : n ≤ 2400) (ho : outC M []) (hw : M 0 9 = nI own) (hk : k < 65536) (hm : m < 65536) (h9 : un4 g → Z 9 M) (h10 : ¬ un4 g → ∀ M', fr M M' [5, 6, 7, 8, 9] → outC M' [a4p own (sr4 g 0) g (q4 g) k m] → Z 10 M') (hx : x = nI k) (hy : y = nI m) : wp_X6_answerFour_0_11 M L x y Z := by
  subst hx hy
  have hgb : ∀ i, g i < 256 := fun i => by rw [← hg]; exact at8_lt _ _ _
  have hhl : hl4 g 0 ≤ 60 := hl4_le 0
  have hh := hf.1.2.2.2.2
  have hn2 := hf.2.1
  have h3 : M 11 3 = nI (g 9) := hp.2.2.2.1
  have h6 : M 11 6 = nI (of4 g 0) := hp.2.2.2.2.2.2.1
  have h7 : M 11 7 = nI (hl4 g 0) := by rw [hp.2.2.2.2.2.2.2.1, Nat.zero_add]
  have h8 : M 11 8 = nI (tl4 g 0 - hl4 g 0) := hp.2.2.2.2.2.2.2.2.1
  have h14 : M 11 14 = nI (hl4 g 0) := hp.2.2.2.2.2.2.2.2.2.2.2.2.1
  have ho4 : of4 g 0 < 8192 := Nat.mod_lt _ (by decide)
  have hb9 := hgb 9
  have hbh := hgb (hl4 g 0)
  unfold wp_X6_answerFour_0_11
  rw [h3, h6, h7, h8, h14]
  refine ⟨fun v => v = bI (0 < tl4 g 0 - hl4 g 0 ∧ ec4 (g (hl4 g 0))), ?_, ?_⟩
  · rintro _ rfl
    refine qen (of4 g 0) _ (fun c1 => ?_) (fun c1 => h9 (Or.inl c1)) rfl (by omega) (by omega)
    by_cases hu : un4 g
    · refine ⟨False, False.elim, ?_⟩
      have hu2 : g 9 = 1 ∧ ¬ (0 < tl4 g 0 - hl4 g 0 ∧ ec4 (g (hl4 g 0))) := hu.resolve_left (fun z => z c1)
      refine qen (g 9) _ (fun c2 => ?_) (fun c2 => absurd hu2.1 c2) rfl (by omega) (by omega)
      exact zb (fun c => h9 hu) (fun c => absurd c hu2.2)
    · refine ⟨True, fun _ => ?_, ?_⟩
      · have eq : nI (hl4 g 0) + (if nI (tl4 g 0 - hl4 g 0) < (8 : Int32) then nI (tl4 g 0 - hl4 g 0) else (8 : Int32)) = nI (q4 g) := by
          rw [show (8 : Int32) = nI 8 from rfl, nI_if (by omega) (by decide), nI_ite, nI_add]
          rfl
        have hq : q4 g ≤ 68 ∧ q4 g ≤ 2400 := by unfold q4; split <;> omega
        have hqt : q4 g ≤ tl4 g 0 := by unfold q4; split <;> omega
        rw [eq]
        rintro _ rfl
        rw [show (28 : Int32) + nI (q4 g) = nI (28 + q4 g) from nI_add 28 _]
        rintro _ rfl
        refine p_open [] (28 + q4 g) ho (by decide) (fun M1 f1 cl => ?_) rfl
        have hg1 : at8 (M1 2) 2400 = g := by rw [f1 2 (by decide)]; exact hg
        have hB1 : ∀ j, isBy (M1 2 j) := by rw [f1 2 (by decide)]; exact hB
        refine p_put6 0 4 (1157627904 + (28 + q4 g)) (hv_i 4 (by decide) _ _ (nI_orN (a := 69) (k := 24) (by omega))) (fun M2 w2 => ?_) rfl rfl
        refine p_put6 4 4 0 (by decide) (fun M3 w3 => ?_) rfl rfl
        have v3 := wr_app w2 w3 (by rw [bys_len])
        refine p_put6 8 4 1073807360 (by decide) (fun M4 w4 => ?_) rfl rfl
        have v4 := wr_app v3 w4 (by rw [List.length_append, bys_len, bys_len])
        refine p_put6 12 4 own (hv_i 4 (by decide) _ _ (by rw [v4.1 0 (by decide), f1 0 (by decide)]; exact hw)) (fun M5 w5 => ?_) rfl rfl
        have v5 := wr_app v4 w5 (by simp [bys_len])
        refine p_put6 16 4 (sr4 g 0) (hv_i 4 (by decide) _ _ (by rw [v5.1 11 (by decide), f1 11 (by decide)]; exact hp.2.2.2.2.2.2.2.2.2.2.1)) (fun M6 w6 => ?_) rfl rfl
        have v6 : wr M1 M6 7 0 (a4h own (sr4 g 0) (28 + q4 g)) := wr_app v5 w6 (by simp [bys_len])
        refine p_sum_6 0 20 ?_ (by omega) (by omega) rfl rfl
        have s6 := sm8_holds v6.2.2 (n := 3332) (by rw [a4h_len]; omega)
        rw [a4h_len] at s6
        rw [show 20 - 0 = 20 from rfl, s6]
        have hs6 := lsm_lt (holds_oct v6.2.2)
        rw [a4h_len] at hs6
        refine p_checksum _ ?_ (by omega) rfl
        refine p_put6 10 2 (ck (a4h own (sr4 g 0) (28 + q4 g))) (hv_i 2 (by decide) _ _ rfl) (fun M7 w7 => ?_) rfl rfl
        have v7 := wr_spl (k := 10) v6 w7 rfl (by rw [bys_len, a4h_len]; omega)
        rintro _ rfl
        refine p_put6 20 4 (k * 65536) (hv_l 4 _ _ (l_shl16 (by omega)) (by omega)) (fun M8 w8 => ?_) rfl rfl
        refine p_put6 24 4 m (hv_i 4 (by decide) _ _ rfl) (fun M9 w9 => ?_) rfl rfl
        have v9 := wr_app w8 w9 (by rw [bys_len])
        have e2 : M9 2 = M1 2 := (v9.1 2 (by decide)).trans (v7.1 2 (by decide))
        refine c_copy61 (g := g) 0 28 (q4 g) (by rw [e2]; exact hg1) (by rw [e2]; exact hB1) (fun M10 w10 => ?_) (by omega) (by omega) rfl rfl rfl
        have v10 : wr M7 M10 7 20 (a4m g (q4 g) k m) := wr_app v9 w10 (by simp [bys_len])
        refine p_sum_6 20 (28 + q4 g) ?_ (by omega) (by omega) rfl (by rw [List.flatten_nil, List.length_nil, nI_add, Nat.zero_add])
        have s10 := sm8_holds v10.2.2 (n := 3332) (by rw [a4m_len]; omega)
        rw [a4m_len] at s10
        rw [show 28 + q4 g - 20 = 8 + q4 g by omega, s10]
        have hs10 := lsm_lt (holds_oct v10.2.2)
        rw [a4m_len] at hs10
        refine p_checksum _ ?_ (by omega) rfl
        refine p_put6 22 2 (ck (a4m g (q4 g) k m)) (hv_i 2 (by decide) _ _ rfl) (fun M11 w11 => ?_) rfl rfl
        have v11 := wr_spl (k := 2) v10 w11 rfl (by rw [bys_len, a4m_len]; omega)
        have v12 : wr M1 M11 7 0 (a4p own (sr4 g 0) g (q4 g) k m) := wr_app v7 v11 (by rw [spl_len (by rw [bys_len, a4h_len]; omega), a4h_len])
        exact h10 hu M11 (fr_t (fr_s f1 (by decide)) (wr_fr v12 (by decide))) (cl M11 _ v12 (a4p_len _ _ _ _ _ _) (by rw [List.flatten_nil, List.length_nil]; omega))
      · refine qen (g 9) _ (fun c2 => ?_) (fun c2 => trivial) rfl (by omega) (by omega)
        exact zb (fun c => absurd (Or.inr ⟨c2, c⟩) hu) (fun c => trivial)
  · by_cases z : 0 < tl4 g 0 - hl4 g 0 ∧ ec4 (g (hl4 g 0))
    · rw [bI_t z]
      refine ⟨False, False.elim, ?_⟩
      refine ql (tl4 g 0 - hl4 g 0) _ (fun c => by omega) (fun c => ?_) rfl (by omega) (by omega)
      refine c_at (hl4 g 0) hg ?_
      refine p_echoFour (g (hl4 g 0)) ?_ hbh rfl
      exact bz (fun c => absurd z.2 c) (fun c => rfl)
    · rw [bI_f z]
      refine ⟨True, fun _ => rfl, ?_⟩
      refine ql (tl4 g 0 - hl4 g 0) _ (fun c => trivial) (fun c => ?_) rfl (by omega) (by omega)
      refine c_at (hl4 g 0) hg ?_
      refine p_echoFour (g (hl4 g 0)) ?_ hbh rfl
      exact bz (fun c => trivial) (fun c5 => absurd ⟨c, c5⟩ z)
