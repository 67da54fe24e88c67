/-! a packet of IPv6, all in all -/
noncomputable def an6 (oH oL : Int64) (g : Nat → Nat) (x i fa k m ct : Nat) : Nat × List (List Nat) × Nat := cI (un6 g x i fa) (9, [], ct) (10, [a6p (uN oH) (uN oL) g (q6 g) k m], ct)
noncomputable def by6 (g : Nat → Nat) (H Lo : Int64) (B : Nat) (kp : Prop) (m4 m6 x i fa : Nat) : Nat × List Nat := cI (x = 58 ∧ er6 (g i)) (be6 g H Lo B kp m4 m6 i) (0, bd6 g x i fa (w2 (ad6 g H Lo B 8) + w2 (ad6 g H Lo B 24)))
noncomputable def F6z (g : Nat → Nat) (H Lo : Int64) (B : Nat) (kp : Prop) (oH oL : Int64) (m4 ct x i fa : Nat) (b : List Nat) : Nat × List (List Nat) × Nat := cI (wh6 fa b.length ∧ m4 < 20 + b.length) (an6 oH oL g x i fa 512 (m4 + 20) ct) (0, sd4 g kp x fa (ad6 g H Lo B 8) (ad6 g H Lo B 24) m4 ct b, ct6 fa b.length ct)
noncomputable def F6a (g : Nat → Nat) (H Lo : Int64) (B : Nat) (kp : Prop) (oH oL : Int64) (m4 m6 ct x i fa sg : Nat) : Nat × List (List Nat) × Nat :=
  cI (ad6 g H Lo B 8 < 4294967296) (cI (ad6 g H Lo B 24 < 4294967296) (cI (sg = NO) (cI (1 < g 7) (cI (f6 g x i fa = 0) (cI ((by6 g H Lo B kp m4 m6 x i fa).1 = 0) (F6z g H Lo B kp oH oL m4 ct x i fa (by6 g H Lo B kp m4 m6 x i fa).2) ((by6 g H Lo B kp m4 m6 x i fa).1, [], ct)) (f6 g x i fa, [], ct)) (an6 oH oL g x i fa 768 0 ct)) (an6 oH oL g x i fa 1024 sg ct)) (3, [], ct)) (2, [], ct)
noncomputable def F6 (g : Nat → Nat) (n : Nat) (H Lo : Int64) (B : Nat) (kp : Prop) (oH oL : Int64) (m4 m6 ct : Nat) : Nat × List (List Nat) × Nat := cI (fm6 g n) ((hdr g 0 (40 + ln6 g 0)).elim (1, [], ct) (fun q => F6a g H Lo B kp oH oL m4 m6 ct q.1 q.2.1 q.2.2.1 q.2.2.2)) (1, [], ct)
def ok6 (ct : Nat) (r : Nat × List (List Nat) × Nat) : Prop := r.1 ≤ 10 ∧ (r.2.2 = ct ∨ r.2.2 < 65536)
theorem an6_ok (oH oL : Int64) (g : Nat → Nat) (x i fa k m ct : Nat) : ok6 ct (an6 oH oL g x i fa k m ct) := cI_P (ok6 ct) ⟨show 9 ≤ 10 by decide, Or.inl rfl⟩ ⟨Nat.le_refl _, Or.inl rfl⟩
theorem f6_le (g : Nat → Nat) (x i fa : Nat) : f6 g x i fa ≤ 10 := cI_le (by decide) (cI_le (by decide) (cI_le (flt_lt _ _ _ _ _ _ _) (cI_le (by decide) (by decide))))
theorem be6_ok (g : Nat → Nat) (H Lo : Int64) (B : Nat) (kp : Prop) (m4 m6 i : Nat) : (be6 g H Lo B kp m4 m6 i).1 ≤ 8 ∧ (be6 g H Lo B kp m4 m6 i).2.length ≤ 556 := by
  unfold be6
  refine cI_P (fun r : Nat × List Nat => r.1 ≤ 8 ∧ r.2.length ≤ 556) ⟨by decide, by decide⟩ (cI_P (fun r : Nat × List Nat => r.1 ≤ 8 ∧ r.2.length ≤ 556) ?_ ⟨by decide, by decide⟩)
  cases hdr g (i + 8) (lm6 g (i + 8) (40 + ln6 g 0)) with
  | none => exact ⟨show 8 ≤ 8 by decide, show 0 ≤ 556 by decide⟩
  | some q =>
    refine cI_P (fun r : Nat × List Nat => r.1 ≤ 8 ∧ r.2.length ≤ 556) ⟨by dsimp only; omega, ?_⟩ ⟨by decide, by decide⟩
    dsimp only
    rw [mg_len (by decide)]
    split <;> omega
theorem by6_le (g : Nat → Nat) (H Lo : Int64) (B : Nat) (kp : Prop) (m4 m6 x i fa : Nat) : (by6 g H Lo B kp m4 m6 x i fa).1 ≤ 8 := cI_P (fun r : Nat × List Nat => r.1 ≤ 8) (be6_ok _ _ _ _ _ _ _ _).1 (Nat.zero_le _)
theorem ct6_lt {fa n ct : Nat} (h : ct < 65536) : ct6 fa n ct < 65536 := by
  unfold ct6
  exact cI_P (fun r : Nat => r < 65536) h (cI_P (fun r : Nat => r < 65536) h (Nat.mod_lt _ (by decide)))
theorem F6_ok (g : Nat → Nat) (n : Nat) (H Lo : Int64) (B : Nat) (kp : Prop) (oH oL : Int64) (m4 m6 ct : Nat) (h : ct < 65536) : (F6 g n H Lo B kp oH oL m4 m6 ct).1 ≤ 10 ∧ (F6 g n H Lo B kp oH oL m4 m6 ct).2.2 < 65536 := by
  have key : ok6 ct (F6 g n H Lo B kp oH oL m4 m6 ct) := by
    unfold F6
    refine cI_P (ok6 ct) ?_ ⟨show 1 ≤ 10 by decide, Or.inl rfl⟩
    cases hdr g 0 (40 + ln6 g 0) with
    | none => exact ⟨show 1 ≤ 10 by decide, Or.inl rfl⟩
    | some q =>
      exact cI_P (ok6 ct) (cI_P (ok6 ct) (cI_P (ok6 ct) (cI_P (ok6 ct) (cI_P (ok6 ct) (cI_P (ok6 ct) (cI_P (ok6 ct) (an6_ok _ _ _ _ _ _ _ _ _) ⟨Nat.zero_le _, Or.inr (ct6_lt h)⟩) ⟨Nat.le_trans (by6_le _ _ _ _ _ _ _ _ _ _) (by decide), Or.inl rfl⟩) ⟨f6_le _ _ _ _, Or.inl rfl⟩) (an6_ok _ _ _ _ _ _ _ _ _)) (an6_ok _ _ _ _ _ _ _ _ _)) ⟨show 3 ≤ 10 by decide, Or.inl rfl⟩) ⟨show 2 ≤ 10 by decide, Or.inl rfl⟩
  refine ⟨key.1, ?_⟩
  rcases key.2 with z | z
  · rw [z]; exact h
  · exact z
theorem by6_len {g : Nat → Nat} {H Lo : Int64} {B : Nat} {kp : Prop} {m4 m6 n x i fa sg : Nat} (hS : hdr g 0 (40 + ln6 g 0) = some (x, i, fa, sg)) (hok : hOk 0 (40 + ln6 g 0) x i fa sg) (hf : fm6 g n) (hn : n ≤ 2400) (h : f6 g x i fa = 0) : (by6 g H Lo B kp m4 m6 x i fa).2.length ≤ 2360 ∧ (fa ≠ NO → (by6 g H Lo B kp m4 m6 x i fa).2.length ≤ 2352) ∧ ofs g fa * 8 + (by6 g H Lo B kp m4 m6 x i fa).2.length ≤ 65535 := by
  have h1 := hf.2.1
  have h2 := (fm6_n hS hf).2
  have h3 := hok.1
  have h4 := (be6_ok g H Lo B kp m4 m6 i).2
  unfold by6
  by_cases c : x = 58 ∧ er6 (g i)
  · have ho := (f6_i h c.1).1
    rw [cI_t c]
    exact ⟨by omega, fun _ => by omega, by omega⟩
  · rw [cI_f c]
    dsimp only
    rw [bd6_len h]
    refine ⟨by omega, fun z => ?_, h2⟩
    have := hok.2.2.2.1.resolve_left z
    omega
theorem lg_m1n {A C : Prop} {v : Nat} {x : Int64} (hv : v < 4294967296 ∨ v = 18446744073709551615) (f : ¬ v < 4294967296 → A) (k : v < 4294967296 → C) (hx : x = lN v) : (¬ lg_cmp x (-1 : Int64) = 0 → C) ∧ (lg_cmp x (-1 : Int64) = 0 → A) := ⟨(lg_m1 hv f k hx).2, (lg_m1 hv f k hx).1⟩
theorem c_verdictSix {M : cM} {L : cL} {Z : Int32 → cM → cL → Prop} {g : Nat → Nat} {H Lo : Int64} {B : Nat} (n m4 m6 ct : Nat) (oH oL : Int64) (kp : Prop) (hg : at8 (M 2) 2400 = g) (hB : ∀ j, isBy (M 2 j)) (hn : n ≤ 2400) (hn1 : M 1 1 = nI n) (hm : mapC (M 10) (L 10) H Lo B) (hk : M 0 14 = bI kp) (hH : L 0 10 = oH) (hL : L 0 11 = oL) (l4 : 68 ≤ m4) (l4' : m4 ≤ 2000) (l6 : m6 ≤ 2000) (l6' : 1280 ≤ m6) (e4 : M 0 12 = nI m4) (e6 : M 0 13 = nI m6) (hct : M 0 16 = nI ct) (lct : ct < 65536) (ho : outC M [])
    (h : ∀ M' L', fr M M' [0, 3, 4, 5, 6, 7, 8, 9, 13, 14] → (∀ j, j ≠ 16 → M' 0 j = M 0 j) → frL L L' [13, 14] → M' 0 16 = nI (F6 g n H Lo B kp oH oL m4 m6 ct).2.2 → outC M' (F6 g n H Lo B kp oH oL m4 m6 ct).2.1 → Z (nI (F6 g n H Lo B kp oH oL m4 m6 ct).1) M' L') : wp_X6_verdictOnSix_0_13 M L Z := by
  have hgb : ∀ i, g i < 256 := fun i => by rw [← hg]; exact at8_lt _ _ _
  have hb7 := hgb 7
  unfold wp_X6_verdictOnSix_0_13
  unfold F6 at h
  refine c_readWhole_13 n hg hn hn1 (fun c M1 L1 f1 k1 => ?_) (fun hf x i fa sg hS hok M1 L1 f1 k1 hp h8 h9 => ?_)
  · rw [cI_f c] at h
    refine ⟨fun z => absurd rfl z, fun _ => ?_⟩
    have e0 : M1 0 = M 0 := f1 0 (by decide)
    exact h M1 L1 (fr_s f1 (by decide)) (fun j _ => by rw [e0]) (frL_s k1 (by decide)) (by rw [e0]; exact hct) (outC_f ho f1 (by decide) (by decide) (by decide) (by decide) (by decide))
  rw [cI_t hf, hS] at h
  dsimp only [Option.elim] at h
  unfold F6a at h
  refine ⟨fun _ => ?_, fun z => absurd z (by decide)⟩
  have hn2 := hf.2.1
  have hil := hok.2.1
  have hi40 := hok.1
  have hx2 := hok.2.2.1
  have e0 : M1 0 = M 0 := f1 0 (by decide)
  have f1' : fr M M1 [0, 3, 4, 5, 6, 7, 8, 9, 13, 14] := fr_s f1 (by decide)
  have k1' : frL L L1 [13, 14] := frL_s k1 (by decide)
  have o1 : outC M1 [] := outC_f ho f1 (by decide) (by decide) (by decide) (by decide) (by decide)
  have hm1 : mapC (M1 10) (L1 10) H Lo B := by rw [f1 10 (by decide), k1 10 (by decide)]; exact hm
  have hg1 : at8 (M1 2) 2400 = g := by rw [f1 2 (by decide)]; exact hg
  have hB1 : ∀ j, isBy (M1 2 j) := by rw [f1 2 (by decide)]; exact hB
  refine c_number 8 8 hg1 ?_ (by omega) (by omega) rfl rfl
  refine c_number 16 8 hg1 ?_ (by omega) (by omega) rfl rfl
  refine p_fourOf H Lo B ?_ hm1.2.2.2 hm1.1 hm1.2.1 hm1.2.2.1
  refine lg_m1n (ad6_or g H Lo B 8) (fun c => ?_) (fun c1 => ?_) rfl
  · rw [cI_f c] at h
    exact h M1 L1 f1' (fun j _ => by rw [e0]) k1' (by rw [e0]; exact hct) o1
  rw [cI_t c1] at h
  refine c_number 24 8 hg1 ?_ (by omega) (by omega) rfl rfl
  refine c_number 32 8 hg1 ?_ (by omega) (by omega) rfl rfl
  refine p_fourOf H Lo B ?_ hm1.2.2.2 hm1.1 hm1.2.1 hm1.2.2.1
  refine lg_m1n (ad6_or g H Lo B 24) (fun c => ?_) (fun c2 => ?_) rfl
  · rw [cI_f c] at h
    exact h M1 L1 f1' (fun j _ => by rw [e0]) k1' (by rw [e0]; exact hct) o1
  rw [cI_t c2] at h
  refine c_setFour_13 (ad6 g H Lo B 8) (ad6 g H Lo B 24) c1 c2 ?_ rfl rfl
  have f2 : fr M (mu (mu M1 13 10 (nI (ad6 g H Lo B 8))) 13 11 (nI (ad6 g H Lo B 24))) [13] := fr_t f1 (fr_t (mu_fr _ _ _ _ (by decide)) (mu_fr _ _ _ _ (by decide)))
  have k2 : frL L (ml L1 13 12 (lN (w2 (ad6 g H Lo B 8) + w2 (ad6 g H Lo B 24)))) [13] := frL_t k1 (ml_frL _ _ _ _ (by decide))
  have hp2 : p6 (mu (mu M1 13 10 (nI (ad6 g H Lo B 8))) 13 11 (nI (ad6 g H Lo B 24)) 13) (ml L1 13 12 (lN (w2 (ad6 g H Lo B 8) + w2 (ad6 g H Lo B 24))) 13) g 0 n x i fa sg := hp
  have d8 : mu (mu M1 13 10 (nI (ad6 g H Lo B 8))) 13 11 (nI (ad6 g H Lo B 24)) 13 8 = nI (40 + ln6 g 0 - i) := h8
  have d9 : mu (mu M1 13 10 (nI (ad6 g H Lo B 8))) 13 11 (nI (ad6 g H Lo B 24)) 13 9 = nI (40 + ln6 g 0 - i) := h9
  have d10 : mu (mu M1 13 10 (nI (ad6 g H Lo B 8))) 13 11 (nI (ad6 g H Lo B 24)) 13 10 = nI (ad6 g H Lo B 8) := rfl
  have d11 : mu (mu M1 13 10 (nI (ad6 g H Lo B 8))) 13 11 (nI (ad6 g H Lo B 24)) 13 11 = nI (ad6 g H Lo B 24) := rfl
  have d12 : ml L1 13 12 (lN (w2 (ad6 g H Lo B 8) + w2 (ad6 g H Lo B 24))) 13 12 = lN (w2 (ad6 g H Lo B 8) + w2 (ad6 g H Lo B 24)) := rfl
  generalize mu (mu M1 13 10 (nI (ad6 g H Lo B 8))) 13 11 (nI (ad6 g H Lo B 24)) = M2 at f2 hp2 d8 d9 d10 d11 ⊢
  generalize ml L1 13 12 (lN (w2 (ad6 g H Lo B 8) + w2 (ad6 g H Lo B 24))) = L2 at k2 hp2 d12 ⊢
  have e02 : M2 0 = M 0 := f2 0 (by decide)
  have f2' : fr M M2 [0, 3, 4, 5, 6, 7, 8, 9, 13, 14] := fr_s f2 (by decide)
  have k2' : frL L L2 [13, 14] := frL_s k2 (by decide)
  have o2 : outC M2 [] := outC_f ho f2 (by decide) (by decide) (by decide) (by decide) (by decide)
  have hm2 : mapC (M2 10) (L2 10) H Lo B := by rw [f2 10 (by decide), k2 10 (by decide)]; exact hm
  have hg2 : at8 (M2 2) 2400 = g := by rw [f2 2 (by decide)]; exact hg
  have hB2 : ∀ j, isBy (M2 2 j) := by rw [f2 2 (by decide)]; exact hB
  -- an answer, from any state that keeps the packet
  have answ : ∀ k m, k < 65536 → m < 65536 → ∀ M3 L3, fr M2 M3 [3, 4, 14] → frL L2 L3 [14] → (∀ M' L', fr M M' [0, 3, 4, 5, 6, 7, 8, 9, 13, 14] → (∀ j, j ≠ 16 → M' 0 j = M 0 j) → frL L L' [13, 14] → M' 0 16 = nI (an6 oH oL g x i fa k m ct).2.2 → outC M' (an6 oH oL g x i fa k m ct).2.1 → Z (nI (an6 oH oL g x i fa k m ct).1) M' L') → wp_X6_answerSix_0_13 M3 L3 (nI k) (nI m) (fun r M4 => Z r M4 L3) := by
    intro k m lk lm M3 L3 f3 k3 hz
    have e03 : M3 0 = M 0 := (f3 0 (by decide)).trans e02
    have g3 : fr M M3 [0, 3, 4, 5, 6, 7, 8, 9, 13, 14] := fr_t f2' (fr_s f3 (by decide))
    have o3 : outC M3 [] := outC_f o2 f3 (by decide) (by decide) (by decide) (by decide) (by decide)
    unfold an6 at hz
    refine c_answerSix n x i fa sg k m oH oL (by rw [f3 2 (by decide)]; exact hg2) (by rw [f3 2 (by decide)]; exact hB2) (by rw [f3 13 (by decide), k3 13 (by decide)]; exact hp2) (by rw [f3 13 (by decide)]; exact d8) hok (by omega) o3 (by rw [k3 0 (by decide), k2 0 (by decide)]; exact hH) (by rw [k3 0 (by decide), k2 0 (by decide)]; exact hL) lk lm (fun hu => ?_) (fun hu M' f' o' => ?_) rfl rfl
    · rw [cI_t hu] at hz
      exact hz M3 L3 g3 (fun j _ => by rw [e03]) (frL_t k2' (frL_s k3 (by decide))) (by rw [e03]; exact hct) o3
    · rw [cI_f hu] at hz
      have e0' : M' 0 = M 0 := (f' 0 (by decide)).trans e03
      exact hz M' L3 (fr_t g3 (fr_s f' (by decide))) (fun j _ => by rw [e0']) (frL_t k2' (frL_s k3 (by decide))) (by rw [e0']; exact hct) o'
  have hr := hp2.2.2.2.2.1
  rw [hr.2.2.2.2]
  have hsg : (nI (sgr 0 sg) = (-1 : Int32)) ↔ sg = NO := by
    unfold sgr
    by_cases z : sg = NO
    · rw [if_pos z]; exact ⟨fun _ => z, fun _ => nI_m1⟩
    · rw [if_neg z]
      have y := hok.2.2.2.2.resolve_left z
      rw [nI_NO (by omega)]
      exact ⟨fun w => absurd w (NO_ne (by omega)), fun w => absurd w z⟩
  refine ⟨fun cs => ?_, fun cs => ?_⟩
  rotate_left
  · have csg : sg ≠ NO := fun z => cs (hsg.mpr z)
    have y := hok.2.2.2.2.resolve_left csg
    rw [cI_f csg] at h
    rw [show nI (sgr 0 sg) = nI sg from by unfold sgr; rw [if_neg csg, Nat.sub_zero]]
    exact answ 1024 sg (by decide) (by omega) M2 L2 (fr_r _ _) (frL_r _ _) h
  rw [cI_t (hsg.mp cs)] at h
  refine qb (g 7) _ (fun c4 => ?_) (fun c4 => ?_) hp2.2.2.1 (by omega) (by omega)
  rotate_left
  · rw [cI_f (by omega)] at h
    exact answ 768 0 (by decide) (by decide) M2 L2 (fr_r _ _) (frL_r _ _) h
  rw [cI_t c4] at h
  have hfl := f6_le g x i fa
  refine c_faultOfSix n x i fa sg hg2 hp2 d8 hok (by omega) ?_
  refine qe (f6 g x i fa) _ (fun c5 => ?_) (fun c5 => ?_) rfl (by omega) (by omega)
  rotate_left
  · rw [cI_f c5] at h
    exact h M2 L2 f2' (fun j _ => by rw [e02]) k2' (by rw [e02]; exact hct) o2
  rw [cI_t c5] at h
  obtain ⟨bl1, bl2, bl3⟩ := by6_len (H := H) (Lo := Lo) (B := B) (kp := kp) (m4 := m4) (m6 := m6) hS hok hf hn c5
  have hby1 := by6_le g H Lo B kp m4 m6 x i fa
  refine ⟨fun y M' L' => y = nI (by6 g H Lo B kp m4 m6 x i fa).1 ∧ fr M2 M' [3, 4, 14] ∧ frL L2 L' [14] ∧ ((by6 g H Lo B kp m4 m6 x i fa).1 = 0 → holds (M' 4) 0 (by6 g H Lo B kp m4 m6 x i fa).2 ∧ M' 3 1 = nI (by6 g H Lo B kp m4 m6 x i fa).2.length), ?_, ?_⟩
  · rintro _ M16 L17 ⟨rfl, f16, k17, hb16⟩
    generalize hby : by6 g H Lo B kp m4 m6 x i fa = by' at h bl1 bl2 bl3 hby1 hb16 ⊢
    have f16' : fr M M16 [0, 3, 4, 5, 6, 7, 8, 9, 13, 14] := fr_t f2' (fr_s f16 (by decide))
    have k17' : frL L L17 [13, 14] := frL_t k2' (frL_s k17 (by decide))
    have o16 : outC M16 [] := outC_f o2 f16 (by decide) (by decide) (by decide) (by decide) (by decide)
    have e16 : M16 0 = M 0 := (f16 0 (by decide)).trans e02
    refine qe by'.1 _ (fun c6 => ?_) (fun c6 => ?_) rfl (by omega) (by omega)
    rotate_left
    · rw [cI_f c6] at h
      exact h M16 L17 f16' (fun j _ => by rw [e16]) k17' (by rw [e16]; exact hct) o16
    rw [cI_t c6] at h
    obtain ⟨b16, l16⟩ := hb16 c6
    have hp16 : p6 (M16 13) (L17 13) g 0 n x i fa sg := by rw [f16 13 (by decide), k17 13 (by decide)]; exact hp2
    have hr16 := hp16.2.2.2.2.1
    rw [l16, show (20 : Int32) + nI by'.2.length = nI (20 + by'.2.length) from nI_add 20 _]
    rintro _ rfl
    refine ql (20 + by'.2.length) _ (fun _ => ?_) (fun z => by omega) rfl (by omega) (by omega)
    unfold F6z at h
    rw [hr16.2.2.2.1, e16, e4]
    by_cases c7 : wh6 fa by'.2.length ∧ m4 < 20 + by'.2.length
    · rw [cI_t c7] at h
      refine ⟨False, False.elim, ?_⟩
      refine zb (fun _ => ?_) (fun z => z c7.1.1)
      refine ql (20 + by'.2.length) _ (fun z => by have := c7.1.2; omega) (fun _ => ?_) rfl (by omega) (by omega)
      refine pk_le (20 + by'.2.length) m4 (fun z => by omega) (fun _ => ?_) rfl rfl (by omega) (by omega)
      rw [show nI m4 + (20 : Int32) = nI (m4 + 20) from nI_add _ 20]
      exact answ 512 (m4 + 20) (by decide) (by omega) M16 L17 f16 k17 h
    · rw [cI_f c7] at h
      refine ⟨True, fun _ => ?_, ?_⟩
      · have hbl : by'.2.length ≤ 2352 := by
          by_cases z : fa = NO
          · by_cases y : 1260 < 20 + by'.2.length
            · have : ¬ m4 < 20 + by'.2.length := fun w => c7 ⟨⟨z, y⟩, w⟩
              omega
            · omega
          · exact bl2 z
        refine c_sendFour n x i fa sg (ad6 g H Lo B 8) (ad6 g H Lo B 24) m4 ct by'.2 kp hgb hp16 hx2 (by rw [f16 13 (by decide)]; exact d10) (by rw [f16 13 (by decide)]; exact d11) (by rw [e16]; exact hk) o16 b16 l16 hbl c4 (by rw [e16]; exact e4) l4 l4' (by rw [e16]; exact hct) lct (fun z => Nat.le_of_not_lt (fun w => c7 ⟨z, w⟩)) bl3 (fun M' f' s' c' o' => ?_)
        exact h M' L17 (fr_t f16' (fr_s f' (by decide))) (fun j hj => by rw [s' j hj, e16]) k17' c' o'
      · refine zb (fun c8 => ?_) (fun _ => trivial)
        have c8' : fa = NO := Classical.byContradiction c8
        refine ql (20 + by'.2.length) _ (fun _ => trivial) (fun c9 => ?_) rfl (by omega) (by omega)
        exact pk_le (20 + by'.2.length) m4 (fun _ => trivial) (fun z => absurd ⟨⟨c8', c9⟩, z⟩ c7) rfl rfl (by omega) (by omega)
  · have h3 : M2 13 3 = nI x := hp2.2.2.2.1
    have h7 : M2 13 7 = nI i := hp2.2.2.2.2.2.1
    rw [h3, h7]
    have hbh := hgb i
    by_cases c6 : x = 58 ∧ er6 (g i)
    · refine ⟨False, False.elim, ?_⟩
      refine qen x _ (fun _ => ?_) (fun z => absurd c6.1 z) rfl (by omega) (by omega)
      refine c_at i hg2 ?_ (by omega) rfl
      refine p_errorSix (g i) ?_ hbh rfl
      refine bz (fun z => absurd c6.2 z) (fun _ => ?_)
      have eb : by6 g H Lo B kp m4 m6 x i fa = be6 g H Lo B kp m4 m6 i := cI_t c6
      rw [eb]
      have h8l := (f6_8 c5 (f6_i c5 c6.1).1 (Or.inr (Or.inl c6.1))).1
      exact c_errorFromSix n x i fa sg m4 m6 kp hg2 hB2 hp2 d8 hok (by omega) h8l hm2 (by rw [e02]; exact hk) l4' l6 l6' (by rw [e02]; exact e4) (by rw [e02]; exact e6) (fun M3 L3 f3 k3 hb3 => ⟨rfl, f3, k3, hb3⟩)
    · have eb : by6 g H Lo B kp m4 m6 x i fa = (0, bd6 g x i fa (w2 (ad6 g H Lo B 8) + w2 (ad6 g H Lo B 24))) := cI_f c6
      refine ⟨True, fun _ => ?_, ?_⟩
      · refine c_bodyFromSix n x i fa sg (ad6 g H Lo B 8) (ad6 g H Lo B 24) hg2 hB2 hp2 d8 d9 hok (by omega) c5 c1 c2 d12 (fun M3 f3 b3 l3 => ?_)
        rw [eb]
        exact ⟨by rw [c5], fr_s f3 (by decide), frL_r _ _, fun _ => ⟨b3, by rw [bd6_len c5]; exact l3⟩⟩
      · refine qen x _ (fun c7 => ?_) (fun _ => trivial) rfl (by omega) (by omega)
        refine c_at i hg2 ?_ (by omega) rfl
        refine p_errorSix (g i) ?_ hbh rfl
        exact bz (fun _ => trivial) (fun z => absurd ⟨c7, z⟩ c6)
theorem c_six {M : cM} {L : cL} {Z : Int32 → cM → cL → Prop} {g : Nat → Nat} {H Lo : Int64} {B : Nat} (n m4 m6 ct : Nat) (oH oL : Int64) (kp : Prop) (hg : at8 (M 2) 2400 = g) (hB : ∀ j, isBy (M 2 j)) (hn : n ≤ 2400) (hn1 : M 1 1 = nI n) (hm : mapC (M 10) (L 10) H Lo B) (hk : M 0 14 = bI kp) (hH : L 0 10 = oH) (hL : L 0 11 = oL) (l4 : 68 ≤ m4) (l4' : m4 ≤ 2000) (l6 : m6 ≤ 2000) (l6' : 1280 ≤ m6) (e4 : M 0 12 = nI m4) (e6 : M 0 13 = nI m6) (hct : M 0 16 = nI ct) (lct : ct < 65536)
    (h : ∀ M' L', fr M M' [0, 1, 3, 4, 5, 6, 7, 8, 9, 13, 14, 15] → (∀ j, j ≠ 16 → M' 0 j = M 0 j) → frL L L' [13, 14] → M' 1 1 = 0 → M' 15 = upv (M 15) (F6 g n H Lo B kp oH oL m4 m6 ct).1 → M' 0 16 = nI (F6 g n H Lo B kp oH oL m4 m6 ct).2.2 → outC M' (F6 g n H Lo B kp oH oL m4 m6 ct).2.1 → Z (nI (F6 g n H Lo B kp oH oL m4 m6 ct).1) M' L') : wp_X6_six_0 M L Z := by
  unfold wp_X6_six_0 wp_X3_clear_5
  rintro _ rfl _ rfl
  refine c_verdictSix n m4 m6 ct oH oL kp hg hB hn hn1 hm hk hH hL l4 l4' l6 l6' e4 e6 hct lct ⟨rfl, rfl, trivial, fun i hi => absurd hi (Nat.not_lt_zero _), by decide, by decide⟩ (fun M' L' f' s' k' c' o' => ?_)
  refine c_finish _ (F6_ok _ _ _ _ _ _ _ _ _ _ _ lct).1 (fun M2 f2 e1 e15 => ?_) rfl
  have f0 : fr M M' [0, 3, 4, 5, 6, 7, 8, 9, 13, 14] := fr_t (fr_t (mu_fr _ _ _ _ (by decide)) (mu_fr _ _ _ _ (by decide))) f'
  have e20 : M2 0 = M' 0 := f2 0 (by decide)
  exact h M2 L' (fr_t (fr_s f0 (by decide)) (fr_s f2 (by decide))) (fun j hj => by rw [e20]; exact s' j hj) k' e1 (by rw [e15, f0 15 (by decide)]) (by rw [e20]; exact c') (outC_f o' f2 (by decide) (by decide) (by decide) (by decide) (by decide))
