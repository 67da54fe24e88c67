/-! the reference takes a packet of IPv6 -/
theorem d_six {M : cM} {L : cL} {Z : Int32 → cM → cL → Prop} {g : Nat → Nat} {H Lo : Int64} {B : Nat} (n m4 m6 ct : Nat) (oH oL : Int64) (kp : Prop) (hg : at8 (M 1) 2400 = g) (hB : ∀ j, isBy (M 1 j)) (hn : n ≤ 2400) (hn1 : M 0 2 = nI n) (hm : mapR M L H Lo B) (hk : M 0 11 = bI kp) (hH : L 0 7 = oH) (hL : L 0 8 = oL) (l4 : 68 ≤ m4) (l4' : m4 ≤ 2000) (l6 : m6 ≤ 2000) (l6' : 1280 ≤ m6) (e4 : M 0 9 = nI m4) (e6 : M 0 10 = nI m6) (hct : M 0 14 = nI ct) (lct : ct < 65536)
    (h : ∀ M' L', fz M M' [0, 2, 3, 4, 5] [0, 2, 14, 17, 20, 22, 24, 25, 26, 33, 34, 35, 37, 38, 39, 40, 41, 42, 43] → fL L L' [15, 16, 18, 27, 28, 29, 30] → M' 0 2 = 0 → M' 2 = upv (M 2) (F6 g n H Lo B kp oH oL m4 m6 ct).1 → M' 0 14 = nI (F6 g n H Lo B kp oH oL m4 m6 ct).2.2 → outR M' (F6 g n H Lo B kp oH oL m4 m6 ct).2.1 → Z (nI (F6 g n H Lo B kp oH oL m4 m6 ct).1) M' L') : wp_X7_six_0 M L Z := by
  have hgb : ∀ i, g i < 256 := fun i => by rw [← hg]; exact at8_lt _ _ _
  have hb7 := hgb 7
  unfold wp_X7_six_0 wp_X7_begin_0
  rintro _ rfl _ rfl _ rfl
  refine ⟨vp_in_nI (n := 0) (by decide) (by decide), ?_⟩
  rintro _ rfl
  intro x2 hx2
  have ex2 : x2 = nI n := hx2.trans hn1
  subst ex2
  rintro _ rfl
  have f3 : fz M (mu (mu (mu (mu (mu M 0 0 (0 : Int32)) 0 22 (0 : Int32)) 0 20 (0 : Int32)) 4 (0 : Int32).toNatClampNeg (0 : Int32)) 0 2 (0 : Int32)) [0, 4] [0, 2, 20, 22] := fz_t (fz_t (fz_t (fz_t (mu_fz0 _ _ _ (by decide) (by decide)) (mu_fz0 _ _ _ (by decide) (by decide))) (mu_fz0 _ _ _ (by decide) (by decide))) (mu_fz _ _ _ _ (by decide) (by decide))) (mu_fz0 _ _ _ (by decide) (by decide))
  have o3 : outR (mu (mu (mu (mu (mu M 0 0 (0 : Int32)) 0 22 (0 : Int32)) 0 20 (0 : Int32)) 4 (0 : Int32).toNatClampNeg (0 : Int32)) 0 2 (0 : Int32)) [] := ⟨rfl, rfl, fun i hi => by have e : i = 0 := Nat.le_zero.mp hi; subst e; rfl, trivial⟩
  have t3 : mu (mu (mu (mu (mu M 0 0 (0 : Int32)) 0 22 (0 : Int32)) 0 20 (0 : Int32)) 4 (0 : Int32).toNatClampNeg (0 : Int32)) 0 2 (0 : Int32) 0 2 = 0 := rfl
  clear hx2
  generalize mu (mu (mu (mu (mu M 0 0 (0 : Int32)) 0 22 (0 : Int32)) 0 20 (0 : Int32)) 4 (0 : Int32).toNatClampNeg (0 : Int32)) 0 2 (0 : Int32) = M3 at f3 o3 t3 ⊢
  have hg3 : at8 (M3 1) 2400 = g := by rw [f3.1 1 (by decide)]; exact hg
  have hB3 : ∀ j, isBy (M3 1 j) := by rw [f3.1 1 (by decide)]; exact hB
  have e32 : M3 2 = M 2 := f3.1 2 (by decide)
  unfold F6 at h
  refine d_formed6 n hg3 hB3 hn (fun c M5 f5 => ?_) (fun hf x i fa sg hS hok M5 f5 r5 e35 e40 e43 => ?_) rfl
  · rw [cI_f c] at h
    refine ⟨fun z => absurd rfl z, fun _ => ?_⟩
    refine r_tellD 1 (by decide) (by rw [f5.1 4 (by decide)]; exact o3.2.2.1 0 (Nat.le_refl _)) (fun M6 f6 e6' o6 => ?_) rfl
    refine h M6 L (fz_t (fz_t (fz_s f3 (by decide) (by decide)) (fz_s f5 (by decide) (by decide))) (fz_s f6 (by decide) (by decide))) (fL_r _ _) ?_ ?_ ?_ o6
    · rw [f6.2 2 (by decide), f5.2 2 (by decide)]; exact t3
    · rw [e6', f5.1 2 (by decide), e32]
    · rw [f6.2 14 (by decide), f5.2 14 (by decide), f3.2 14 (by decide)]; exact hct
  rw [cI_t hf, hS] at h
  dsimp only [Option.elim] at h
  unfold F6a at h
  refine ⟨fun _ => ?_, fun z => absurd z (by decide)⟩
  have hn2 := hf.2.1
  have h6 := hf.2.2.1
  have hil := hok.2.1
  have hi40 := hok.1
  have hx2 := hok.2.2.1
  have hof := ofs_lt hgb fa
  have hbi := hgb i
  have hfa3 : fa = NO ∨ fa < 3000 := by rcases hok.2.2.2.1 with z | z; exact Or.inl z; exact Or.inr (by omega)
  have hsg3 : sg = NO ∨ sg < 3000 := by rcases hok.2.2.2.2 with z | z; exact Or.inl z; exact Or.inr (by omega)
  have hg5 : at8 (M5 1) 2400 = g := by rw [f5.1 1 (by decide)]; exact hg3
  have hm5 : mapR M5 L H Lo B := mapR_f (mapR_f hm f3 (fL_r L []) (by decide) (by decide) (by decide)) f5 (fL_r L []) (by decide) (by decide) (by decide)
  refine d_addressesOf (H := H) (Lo := Lo) (B := B) 0 hg5 (by omega) hm5 (fun M8 L9 f8 k9 q27 q28 q29 q30 q25 q26 => ?_) rfl
  have hm8 : mapR M8 L9 H Lo B := mapR_f hm5 f8 k9 (by decide) (by decide) (by decide)
  rw [q27, q28]
  refine r_isImage H Lo B (fun L12 a1 a2 => ?_) hm8.2.2.2 hm8.2.1 hm8.2.2.1 hm8.1
  have k12 : fL L L12 [15, 16, 18, 27, 28, 29, 30] := fL_t (fL_s k9 (by decide)) ⟨a1, fun j hj => a2 j (fun z => hj (by rw [z]; decide)) (fun z => hj (by rw [z]; decide))⟩
  have k27 : L12 0 27 = lN (num8 g 8 8) := (a2 27 (by decide) (by decide)).trans q27
  have k28 : L12 0 28 = lN (num8 g 16 8) := (a2 28 (by decide) (by decide)).trans q28
  have k29 : L12 0 29 = lN (num8 g 24 8) := (a2 29 (by decide) (by decide)).trans q29
  have k30 : L12 0 30 = lN (num8 g 32 8) := (a2 30 (by decide) (by decide)).trans q30
  have kH : L12 0 7 = oH := (k12.2 7 (by decide)).trans hH
  have kL : L12 0 8 = oL := (k12.2 8 (by decide)).trans hL
  have f11 : fz M (mu M8 0 17 (nI (rdv (lN (num8 g (0 + 8) 8)) (lN (num8 g (0 + 16) 8)) B 32))) [0, 4] [0, 2, 17, 20, 22, 25, 26, 33, 34, 35, 40, 41, 42, 43] := fz_t (fz_t (fz_t (fz_s f3 (by decide) (by decide)) (fz_s f5 (by decide) (by decide))) (fz_s f8 (by decide) (by decide))) (mu_fz0 _ _ _ (by decide) (by decide))
  have g11 : fz M3 (mu M8 0 17 (nI (rdv (lN (num8 g (0 + 8) 8)) (lN (num8 g (0 + 16) 8)) B 32))) [0] [17, 25, 26, 33, 34, 35, 40, 41, 42, 43] := fz_t (fz_t (fz_s f5 (by decide) (by decide)) (fz_s f8 (by decide) (by decide))) (mu_fz0 _ _ _ (by decide) (by decide))
  have g5 : fz M5 (mu M8 0 17 (nI (rdv (lN (num8 g (0 + 8) 8)) (lN (num8 g (0 + 16) 8)) B 32))) [0] [17, 25, 26] := fz_t f8 (mu_fz0 _ _ _ (by decide) (by decide))
  have p25 : mu M8 0 17 (nI (rdv (lN (num8 g (0 + 8) 8)) (lN (num8 g (0 + 16) 8)) B 32)) 0 25 = nI (rv6 g B 8) := q25
  have p26 : mu M8 0 17 (nI (rdv (lN (num8 g (0 + 8) 8)) (lN (num8 g (0 + 16) 8)) B 32)) 0 26 = nI (rv6 g B 24) := q26
  generalize mu M8 0 17 (nI (rdv (lN (num8 g (0 + 8) 8)) (lN (num8 g (0 + 16) 8)) B 32)) = M11 at f11 g11 g5 p25 p26 ⊢
  have p33 : M11 0 33 = nI (ofs g fa * 8) := (g5.2 33 (by decide)).trans r5.1
  have p34 : M11 0 34 = bI (mfs g fa) := (g5.2 34 (by decide)).trans r5.2.1
  have p41 : M11 0 41 = nI fa := (g5.2 41 (by decide)).trans r5.2.2.1
  have p42 : M11 0 42 = nI sg := (g5.2 42 (by decide)).trans r5.2.2.2
  have p35 : M11 0 35 = nI x := (g5.2 35 (by decide)).trans e35
  have p40 : M11 0 40 = nI i := (g5.2 40 (by decide)).trans e40
  have p43 : M11 0 43 = nI (ln6 g 0) := (g5.2 43 (by decide)).trans e43
  have o11 : outR M11 [] := outR_f o3 g11 (by decide) (by decide) (by decide) (by decide)
  have t11 : M11 0 2 = 0 := (g11.2 2 (by decide)).trans t3
  have u11 : M11 2 = M 2 := (g11.1 2 (by decide)).trans e32
  have ct11 : M11 0 14 = nI ct := (f11.2 14 (by decide)).trans hct
  have hg11 : at8 (M11 1) 2400 = g := by rw [f11.1 1 (by decide)]; exact hg
  have hB11 : ∀ j, isBy (M11 1 j) := by rw [f11.1 1 (by decide)]; exact hB
  have hm11 : mapR M11 L12 H Lo B := mapR_f hm f11 k12 (by decide) (by decide) (by decide)
  have kp11 : M11 0 11 = bI kp := (f11.2 11 (by decide)).trans hk
  have z11 : M11 4 0 = 0 := o11.2.2.1 0 (Nat.le_refl _)
  have drop : ∀ v, 0 < v → v < 10 → ∀ M1 L1, fz M11 M1 [0, 3, 5] [17, 20, 24, 25, 26, 33, 34, 35, 37, 38, 39, 40, 41, 42] → fL L12 L1 [15, 16, 18, 27, 28, 29, 30] → (∀ M' L', fz M M' [0, 2, 3, 4, 5] [0, 2, 14, 17, 20, 22, 24, 25, 26, 33, 34, 35, 37, 38, 39, 40, 41, 42, 43] → fL L L' [15, 16, 18, 27, 28, 29, 30] → M' 0 2 = 0 → M' 2 = upv (M 2) v → M' 0 14 = nI ct → outR M' [] → Z (nI v) M' L') → wp_X7_tell_0 M1 L1 (nI v) (fun r M2 => Z r M2 L1) := by
    intro v hv0 hv M1 L1 f1 k1 hz
    refine r_tellD v ⟨hv0, hv⟩ (by rw [f1.1 4 (by decide)]; exact z11) (fun M2 f2 e2 o2 => ?_) rfl
    refine hz M2 L1 (fz_t (fz_t (fz_s f11 (by decide) (by decide)) (fz_s f1 (by decide) (by decide))) (fz_s f2 (by decide) (by decide))) (fL_t k12 k1) ?_ ?_ ?_ o2
    · rw [f2.2 2 (by decide), f1.2 2 (by decide)]; exact t11
    · rw [e2, f1.1 2 (by decide), u11]
    · rw [f2.2 14 (by decide), f1.2 14 (by decide)]; exact ct11
  have answ : ∀ t c m, t < 256 → c < 256 → m < 65536 → ∀ M1 L1, fz M11 M1 [0, 3, 5] [17, 20, 24, 25, 26, 33, 34, 35, 37, 38, 39, 40, 41, 42] → fL L12 L1 [15, 16, 18, 27, 28, 29, 30] → M1 0 33 = nI (ofs g fa * 8) → M1 0 35 = nI x → M1 0 40 = nI i → outR M1 [] → (∀ M' L', fz M M' [0, 2, 3, 4, 5] [0, 2, 14, 17, 20, 22, 24, 25, 26, 33, 34, 35, 37, 38, 39, 40, 41, 42, 43] → fL L L' [15, 16, 18, 27, 28, 29, 30] → M' 0 2 = 0 → M' 2 = upv (M 2) (an6 oH oL g x i fa (t * 256 + c) m ct).1 → M' 0 14 = nI (an6 oH oL g x i fa (t * 256 + c) m ct).2.2 → outR M' (an6 oH oL g x i fa (t * 256 + c) m ct).2.1 → Z (nI (an6 oH oL g x i fa (t * 256 + c) m ct).1) M' L') → wp_X7_answer6_0 M1 L1 (nI t) (nI c) (nI m) Z := by
    intro t c m ht hc hm M1 L1 f1 k1 q33 q35 q40 o1 hz
    unfold an6 at hz
    refine d_answer6 x i fa sg t c m oH oL (by rw [f1.1 1 (by decide)]; exact hg11) q33 q35 q40 ((f1.2 43 (by decide)).trans p43) hok (by omega) o1 ((k1.2 7 (by decide)).trans kH) ((k1.2 8 (by decide)).trans kL) ht hc hm (fun hu M2 f2 e2 o2 => ?_) (fun hu M2 L2 f2 k2 e2 o2 => ?_) rfl rfl rfl
    · rw [cI_t hu] at hz
      refine hz M2 L1 (fz_t (fz_t (fz_s f11 (by decide) (by decide)) (fz_s f1 (by decide) (by decide))) (fz_s f2 (by decide) (by decide))) (fL_t k12 k1) ?_ ?_ ?_ o2
      · rw [f2.2 2 (by decide), f1.2 2 (by decide)]; exact t11
      · rw [e2, f1.1 2 (by decide), u11]
      · rw [f2.2 14 (by decide), f1.2 14 (by decide)]; exact ct11
    · rw [cI_f hu] at hz
      refine hz M2 L2 (fz_t (fz_t (fz_s f11 (by decide) (by decide)) (fz_s f1 (by decide) (by decide))) (fz_s f2 (by decide) (by decide))) (fL_t (fL_t k12 k1) (fL_s k2 (by decide))) ?_ ?_ ?_ o2
      · rw [f2.2 2 (by decide), f1.2 2 (by decide)]; exact t11
      · rw [e2, f1.1 2 (by decide), u11]
      · rw [f2.2 14 (by decide), f1.2 14 (by decide)]; exact ct11
  refine zb (fun c => ?_) (fun c1 => ?_)
  · have c' : ¬ ad6 g H Lo B 8 < 4294967296 := fun z => c (fr4_lt.mp z)
    rw [cI_f c'] at h
    exact drop 2 (by decide) (by decide) M11 L12 (fz_r _ _ _) (fL_r _ _) h
  have c1' : ad6 g H Lo B 8 < 4294967296 := fr4_lt.mpr c1
  rw [cI_t c1'] at h
  refine zb (fun c => ?_) (fun c2 => ?_)
  · rw [cI_f (fun z => c ⟨c1', z⟩)] at h
    exact drop 3 (by decide) (by decide) M11 L12 (fz_r _ _ _) (fL_r _ _) h
  have c2' : ad6 g H Lo B 24 < 4294967296 := c2.2
  rw [cI_t c2'] at h
  rw [ad6_v c1'] at p25
  rw [ad6_v c2'] at p26
  rw [p42]
  refine nI_neg hsg3 (fun c3 => ?_) (fun c3 => ?_)
  rotate_left
  · rw [cI_f c3] at h
    have := hok.2.2.2.2.resolve_left c3
    exact answ 4 0 sg (by decide) (by decide) (by omega) M11 L12 (fz_r _ _ _) (fL_r _ _) p33 p35 p40 o11 h
  rw [cI_t c3] at h
  refine d_oct 7 hg11 ?_ (by omega) rfl
  refine qg (g 7) _ (fun c4 => ?_) (fun c4 => ?_) rfl (by omega) (by omega)
  rotate_left
  · rw [cI_f (by omega)] at h
    exact answ 3 0 0 (by decide) (by decide) (by decide) M11 L12 (fz_r _ _ _) (fL_r _ _) p33 p35 p40 o11 h
  rw [cI_t (show 1 < g 7 from c4)] at h
  rw [p33, p34, p35, p40, p43]
  refine r_barred6 x ?_ hx2 rfl
  refine bz (fun c5 => ?_) (fun c5 => ?_)
  rotate_left
  · have e : f6 g x i fa = 6 := cI_t c5
    rw [e, cI_f (by decide)] at h
    exact drop 6 (by decide) (by decide) M11 L12 (fz_r _ _ _) (fL_r _ _) h
  by_cases c6 : x = 58 ∧ fg6 g fa
  · have e : f6 g x i fa = 5 := by unfold f6; rw [cI_f c5, cI_t c6]
    rw [e, cI_f (by decide)] at h
    refine ⟨False, False.elim, ?_⟩
    refine qen x _ (fun _ => ?_) (fun z => absurd c6.1 z) rfl (by omega) (by omega)
    refine ⟨True, fun _ => drop 5 (by decide) (by decide) M11 L12 (fz_r _ _ _) (fL_r _ _) h, ?_⟩
    refine zb (fun c7 => ?_) (fun _ => trivial)
    exact ql (ofs g fa * 8) _ (fun z => absurd c6.2 (fun y => y.elim c7 (fun w => w (by omega)))) (fun _ => trivial) rfl (by omega) (by omega)
  refine ⟨True, fun _ => ?_, ?_⟩
  rotate_left
  · refine qen x _ (fun c7 => ?_) (fun _ => trivial) rfl (by omega) (by omega)
    refine ⟨False, False.elim, ?_⟩
    refine zb (fun c8 => ?_) (fun z => c6 ⟨c7, Or.inl z⟩)
    exact ql (ofs g fa * 8) _ (fun _ => trivial) (fun z => c6 ⟨c7, Or.inr (by omega)⟩) rfl (by omega) (by omega)
  have ef : f6 g x i fa = cI (ft6 g x i fa ≠ 0) (ft6 g x i fa) (cI (x = 58 ∧ ¬ (ec6 (g i) ∨ er6 (g i))) 6 0) := by unfold f6; rw [cI_f c5, cI_f c6]
  have eft : ft6 g x i fa = cI (cI (ofs g fa = 0) (crd g x (40 + ln6 g 0 - i) i 58 (mfs g fa)) 0 ≠ 0) (cI (ofs g fa = 0) (crd g x (40 + ln6 g 0 - i) i 58 (mfs g fa)) 0) (cI ((x = 17 ∧ ofs g fa = 0 ∧ wd8 g (i + 6) = 0) ∧ ¬ False) 7 0) := flt_crd g x (ofs g fa) (40 + ln6 g 0 - i) i 58 (mfs g fa) False (fun z => z.elim (fun y => absurd (show bar6 x by unfold bar6; omega) c5) id) (Or.inr rfl)
  rw [show (40 : Int32) + nI (ln6 g 0) - nI i = nI (40 + ln6 g 0 - i) from by rw [show (40 : Int32) = nI 40 from rfl, nI_add]; exact pk_sub hil]
  rintro _ rfl
  have hcl := crd_le g x (40 + ln6 g 0 - i) i 58 (mfs g fa)
  have hdl : cI (ofs g fa = 0) (crd g x (40 + ln6 g 0 - i) i 58 (mfs g fa)) 0 ≤ 4 := cI_le hcl (by decide)
  refine ⟨fun v => v = nI (cI (ofs g fa = 0) (crd g x (40 + ln6 g 0 - i) i 58 (mfs g fa)) 0), ?_, ?_⟩
  rotate_left
  · refine qen (ofs g fa * 8) _ (fun c7 => ?_) (fun c7 => by rw [cI_f (by omega)]; rfl) rfl (by omega) (by omega)
    rw [cI_t (show ofs g fa = 0 by omega)]
    exact d_carried x (40 + ln6 g 0 - i) i 58 (mfs g fa) hg11 p35 hx2 (by decide) (by omega) rfl rfl rfl rfl rfl
  rintro _ rfl
  refine ql (cI (ofs g fa = 0) (crd g x (40 + ln6 g 0 - i) i 58 (mfs g fa)) 0) _ (fun c7 => ?_) (fun c7 => ?_) rfl (by omega) (by omega)
  rotate_left
  · have hne : cI (ofs g fa = 0) (crd g x (40 + ln6 g 0 - i) i 58 (mfs g fa)) 0 ≠ 0 := by omega
    rw [cI_t hne] at eft
    rw [eft, cI_t hne] at ef
    rw [ef, cI_f hne] at h
    exact drop _ c7 (by omega) M11 L12 (fz_r _ _ _) (fL_r _ _) h
  rw [cI_f (fun z => z (Nat.le_zero.mp c7))] at eft
  have h8 : ofs g fa = 0 → (x = 17 ∨ x = 58 ∨ x = 6) → 8 ≤ 40 + ln6 g 0 - i := by
    intro z1 z2
    rw [cI_t z1] at c7
    unfold crd at c7
    rw [cI_t (by omega)] at c7
    by_cases z3 : 40 + ln6 g 0 - i < 8 ∨ (x = 6 ∧ 40 + ln6 g 0 - i < 20)
    · rw [cI_t z3] at c7; omega
    · omega
  have hw6 : wd8 g (i + 6) < 65536 := wd8_lt hgb _
  by_cases c8 : x = 17 ∧ ofs g fa = 0 ∧ wd8 g (i + 6) = 0
  · have h8l := h8 c8.2.1 (Or.inl c8.1)
    rw [cI_t ⟨c8, id⟩] at eft
    rw [eft, cI_t (by decide)] at ef
    rw [ef, cI_f (by decide)] at h
    refine ⟨False, False.elim, ?_⟩
    refine qen x _ (fun _ => ?_) (fun z => absurd c8.1 z) rfl (by omega) (by omega)
    refine qen (ofs g fa * 8) _ (fun _ => ?_) (fun z => absurd c8.2.1 (by omega)) rfl (by omega) (by omega)
    refine d_two (i + 6) hg11 ?_ (by omega) (nI_add _ 6)
    exact qen _ _ (fun _ => drop 7 (by decide) (by decide) M11 L12 (fz_r _ _ _) (fL_r _ _) h) (fun z => absurd c8.2.2 z) rfl (by omega) (by omega)
  rw [cI_f (fun z => c8 z.1)] at eft
  rw [eft, cI_f (by decide)] at ef
  refine ⟨True, fun _ => ?_, ?_⟩
  rotate_left
  · refine qen x _ (fun c9 => ?_) (fun _ => trivial) rfl (by omega) (by omega)
    refine qen (ofs g fa * 8) _ (fun c10 => ?_) (fun _ => trivial) rfl (by omega) (by omega)
    have := h8 (by omega) (Or.inl c9)
    refine d_two (i + 6) hg11 ?_ (by omega) (nI_add _ 6)
    exact qen _ _ (fun z => absurd ⟨c9, by omega, z⟩ c8) (fun _ => trivial) rfl (by omega) (by omega)
  refine r_carry i (40 + ln6 g 0 - i) (fun M22 w22 => ?_) (by omega) rfl rfl
  rw [hg11] at w22
  have f23 : fz M11 (mu M22 0 24 (nI (40 + ln6 g 0 - i))) [0, 3, 5] [17, 20, 24, 25, 26, 33, 34, 35, 37, 38, 39, 40, 41, 42] := fz_t (wr_fz w22 (by decide) (by decide)) (mu_fz0 _ _ _ (by decide) (by decide))
  have g23 : fz M11 (mu M22 0 24 (nI (40 + ln6 g 0 - i))) [0, 5] [24] := fz_t (wr_fz w22 (by decide) (by decide)) (mu_fz0 _ _ _ (by decide) (by decide))
  have b23 : holds (mu M22 0 24 (nI (40 + ln6 g 0 - i)) 5) 0 (seg g i (40 + ln6 g 0 - i)) := w22.2.2
  have q24 : mu M22 0 24 (nI (40 + ln6 g 0 - i)) 0 24 = nI (40 + ln6 g 0 - i) := rfl
  generalize mu M22 0 24 (nI (40 + ln6 g 0 - i)) = M23 at f23 g23 b23 q24 ⊢
  have q33 : M23 0 33 = nI (ofs g fa * 8) := (g23.2 33 (by decide)).trans p33
  have q34 : M23 0 34 = bI (mfs g fa) := (g23.2 34 (by decide)).trans p34
  have q35 : M23 0 35 = nI x := (g23.2 35 (by decide)).trans p35
  have q40 : M23 0 40 = nI i := (g23.2 40 (by decide)).trans p40
  have q25 : M23 0 25 = nI (ad6 g H Lo B 8) := (g23.2 25 (by decide)).trans p25
  have q26 : M23 0 26 = nI (ad6 g H Lo B 24) := (g23.2 26 (by decide)).trans p26
  have o23 : outR M23 [] := outR_f o11 g23 (by decide) (by decide) (by decide) (by decide)
  have hsl : (seg g i (40 + ln6 g 0 - i)).length = 40 + ln6 g 0 - i := seg_len _ _ _
  rw [show M23 0 41 = nI fa from (g23.2 41 (by decide)).trans p41]
  rintro _ rfl
  rw [q35, q33]
  refine ⟨fun M' L' => f6 g x i fa = 0 ∧ (by6 g H Lo B kp m4 m6 x i fa).1 = 0 ∧ fz M11 M' [0, 3, 5] [17, 20, 24, 25, 26, 33, 34, 35, 37, 38, 39, 40, 41, 42] ∧ fL L12 L' [15, 16, 18, 27, 28, 29, 30] ∧ outR M' [] ∧ holds (M' 5) 0 (by6 g H Lo B kp m4 m6 x i fa).2 ∧ M' 0 24 = nI (by6 g H Lo B kp m4 m6 x i fa).2.length ∧ M' 0 25 = nI (ad6 g H Lo B 8) ∧ M' 0 26 = nI (ad6 g H Lo B 24) ∧ M' 0 33 = nI (ofs g fa * 8) ∧ M' 0 34 = bI (mfs g fa) ∧ M' 0 35 = nI x ∧ M' 0 40 = nI i, ?_, ?_⟩
  · rintro M25 L26 ⟨hf0, hb0, f25, k26, o25, b25, r24, r25, r26, r33, r34, r35, r40⟩
    rw [cI_t hf0, cI_t hb0] at h
    obtain ⟨bl1, bl2, bl3⟩ := by6_len (H := H) (Lo := Lo) (B := B) (kp := kp) (m4 := m4) (m6 := m6) hS hok hf hn hf0
    generalize (by6 g H Lo B kp m4 m6 x i fa).2 = b at h bl1 bl2 bl3 b25 r24
    unfold F6z at h
    have hg25 : at8 (M25 1) 2400 = g := by rw [f25.1 1 (by decide)]; exact hg11
    rw [r24, show (20 : Int32) + nI b.length = nI (20 + b.length) from nI_add 20 _]
    rintro _ rfl
    refine ql (20 + b.length) _ (fun _ => ?_) (fun z => by omega) rfl (by omega) (by omega)
    have nneg : ∀ {A C : Prop}, (fa ≠ NO → A) → (fa = NO → C) → (0 ≤ nI fa → A) ∧ (¬ 0 ≤ nI fa → C) := by
      intro A C f1 f2
      rcases hfa3 with q | q
      · rw [q]; exact ⟨fun z => absurd z (by decide), fun _ => f2 q⟩
      · exact ⟨fun _ => f1 (NO_ne q), fun z => absurd (nI_pos' (by omega)) z⟩
    refine ⟨fun v => v = bI (wh6 fa b.length), ?_, ?_⟩
    rotate_left
    · by_cases c : wh6 fa b.length
      · rw [bI_t c]
        refine ⟨False, False.elim, ?_⟩
        refine nneg (fun q => q c.1) (fun q => ?_)
        exact ql (20 + b.length) _ (fun z => by have := c.2; omega) (fun _ => rfl) rfl (by omega) (by omega)
      · rw [bI_f c]
        refine ⟨True, fun _ => rfl, ?_⟩
        refine nneg (fun q => trivial) (fun q => ?_)
        exact ql (20 + b.length) _ (fun _ => trivial) (fun z => (c ⟨q, z⟩).elim) rfl (by omega) (by omega)
    rintro _ rfl
    have e94 : M25 0 9 = nI m4 := (f25.2 9 (by decide)).trans ((f11.2 9 (by decide)).trans e4)
    rw [e94]
    by_cases c9 : wh6 fa b.length ∧ m4 < 20 + b.length
    · rw [cI_t c9] at h
      refine ⟨False, False.elim, ?_⟩
      refine bz (fun z => absurd c9.1 z) (fun _ => ?_)
      refine pk_le (20 + b.length) m4 (fun z => by omega) (fun _ => ?_) rfl rfl (by omega) (by omega)
      rw [show nI m4 + (20 : Int32) = nI (m4 + 20) from nI_add _ 20]
      exact answ 2 0 (m4 + 20) (by decide) (by decide) (by omega) M25 L26 f25 k26 r33 r35 r40 o25 h
    rw [cI_f c9] at h
    refine ⟨True, fun _ => ?_, ?_⟩
    rotate_left
    · refine bz (fun _ => trivial) (fun c10 => ?_)
      exact pk_le (20 + b.length) m4 (fun _ => trivial) (fun z => absurd ⟨c10, z⟩ c9) rfl rfl (by omega) (by omega)
    have hbl : b.length ≤ 2352 := by
      by_cases z : fa = NO
      · by_cases y : 1260 < 20 + b.length
        · have : ¬ m4 < 20 + b.length := fun w => c9 ⟨⟨z, y⟩, w⟩
          omega
        · omega
      · exact bl2 z
    have ct25 : M25 0 14 = nI ct := (f25.2 14 (by decide)).trans ct11
    refine ⟨fun y M31 => y = nI (id6 g fa b.length ct) ∧ fz M25 M31 [0] [14] ∧ M31 0 14 = nI (ct6 fa b.length ct), ?_, ?_⟩
    · rintro _ M31 ⟨rfl, f31, c31⟩
      have s24 : M31 0 24 = nI b.length := (f31.2 24 (by decide)).trans r24
      have s9 : M31 0 9 = nI m4 := (f31.2 9 (by decide)).trans e94
      rw [s24, s9]
      refine ⟨fun v => v = nI (cI (¬ wh6 fa b.length ∧ m4 < 20 + b.length) (m4 - 20) b.length), ?_, ?_⟩
      rotate_left
      · by_cases c : ¬ wh6 fa b.length ∧ m4 < 20 + b.length
        · rw [cI_t c]
          refine ⟨False, False.elim, ?_⟩
          refine zb (fun _ => ?_) (fun z => c.1 z)
          exact pk_le (20 + b.length) m4 (fun z => by omega) (fun _ => pk_sub (b := 20) (by omega)) rfl rfl (by omega) (by omega)
        · rw [cI_f c]
          refine ⟨True, fun _ => rfl, ?_⟩
          refine zb (fun c10 => ?_) (fun _ => trivial)
          exact pk_le (20 + b.length) m4 (fun _ => trivial) (fun z => absurd ⟨c10, z⟩ c) rfl rfl (by omega) (by omega)
      rintro _ rfl
      have e31 : M31 5 = M25 5 := f31.1 5 (by decide)
      refine (d_loop4 x fa (ad6 g H Lo B 8) (ad6 g H Lo B 24) m4 ct (id6 g fa b.length ct) b kp (by rw [f31.1 1 (by decide)]; exact hg25) h6 ((f31.2 11 (by decide)).trans ((f25.2 11 (by decide)).trans kp11)) ((f31.2 33 (by decide)).trans r33) ((f31.2 34 (by decide)).trans r34) ((f31.2 35 (by decide)).trans r35) hx2 ((f31.2 25 (by decide)).trans r25) ((f31.2 26 (by decide)).trans r26) (outR_f o25 f31 (by decide) (by decide) (by decide) (by decide)) (by rw [e31]; exact b25) s24 hbl c4 l4 l4' (fun z => Nat.le_of_not_lt (fun w => c9 ⟨z, w⟩)) bl3 rfl (fun M' L' f' k' e' o' => ?_) rfl rfl rfl rfl : wp_loop4 M31 L26 (nI (g 7)) (nI (id6 g fa b.length ct)) (bI (wh6 fa b.length)) (nI (cI (¬ wh6 fa b.length ∧ m4 < 20 + b.length) (m4 - 20) b.length)) Z)
      refine h M' L' (fz_t (fz_t (fz_t (fz_s f11 (by decide) (by decide)) (fz_s f25 (by decide) (by decide))) (fz_s f31 (by decide) (by decide))) (fz_s f' (by decide) (by decide))) (fL_t (fL_t k12 k26) (fL_s k' (by decide))) ?_ ?_ ?_ o'
      · rw [f'.2 2 (by decide), f31.2 2 (by decide), f25.2 2 (by decide)]; exact t11
      · rw [e', f31.1 2 (by decide), f25.1 2 (by decide), u11]
      · rw [f'.2 14 (by decide)]; exact c31
    · refine nI_neg hfa3 (fun q => ?_) (fun q => ?_)
      · have eI : id6 g fa b.length ct = cI (1260 < 20 + b.length) 0 ((ct + 1) % 65536) := cI_f (fun z => z q)
        have eC : ct6 fa b.length ct = cI (1260 < 20 + b.length) ct ((ct + 1) % 65536) := cI_f (fun z => z q)
        rw [eI, eC]
        refine zb (fun q2 => ?_) (fun q2 => ?_)
        · have q3 : ¬ 1260 < 20 + b.length := fun z => q2 ⟨q, z⟩
          rw [ct25, show (nI ct + (1 : Int32)) &&& (65535 : Int32) = nI ((ct + 1) % 65536) from by rw [nI_1]; exact nx_mod _]
          rintro _ rfl _ rfl
          rw [cI_f q3, cI_f q3]
          exact ⟨rfl, mu_fz0 _ _ _ (by decide) (by decide), rfl⟩
        · rw [cI_t q2.2, cI_t q2.2]
          exact ⟨rfl, fz_r _ _ _, ct25⟩
      · have eI : id6 g fa b.length ct = ids g fa := cI_t q
        have eC : ct6 fa b.length ct = ct := cI_t q
        have := hok.2.2.2.1.resolve_left q
        rw [eI, eC]
        refine d_two (fa + 6) hg25 ?_ (by omega) (nI_add _ 6)
        refine ⟨?_, fz_r _ _ _, ct25⟩
        unfold ids; rw [if_neg q]
  · refine qen x _ (fun c9 => ?_) (fun c9 => ?_) rfl (by omega) (by omega)
    · have hi0 : ofs g fa = 0 ∧ ¬ mfs g fa := ⟨Classical.byContradiction (fun z => c6 ⟨c9, Or.inr z⟩), fun z => c6 ⟨c9, Or.inl z⟩⟩
      have h8l := h8 hi0.1 (Or.inr (Or.inl c9))
      refine d_toFour (H := H) (Lo := Lo) (B := B) x i fa sg (ad6 g H Lo B 8) (ad6 g H Lo B 24) m4 m6 kp (by rw [g23.1 1 (by decide)]; exact hg11) (by rw [g23.1 1 (by decide)]; exact hB11) hok (by omega) h8l c9 hi0 (mapR_f hm11 g23 (fL_r L12 []) (by decide) (by decide) (by decide)) ((g23.2 11 (by decide)).trans kp11) o23 l4' l6 l6' ((g23.2 9 (by decide)).trans ((f11.2 9 (by decide)).trans e4)) ((g23.2 10 (by decide)).trans ((f11.2 10 (by decide)).trans e6)) b23 q24 q25 q26 q33 q34 q35 q40 k27 k28 k29 k30 (fun ce M' L' f' k' o' b' s24 s25 s26 s33 s34 s35 s40 => ?_) (fun ce cr => ?_) (fun cr hb0 M' L' f' k' o' b' s24 s25 s26 s33 s34 s35 s40 => ?_) (fun cr hb0 M' L' f' k' => ?_) rfl
      · have hne : ¬ (x = 58 ∧ er6 (g i)) := fun z => by have h1 := z.2; unfold er6 at h1; unfold ec6 at ce; omega
        have eb : by6 g H Lo B kp m4 m6 x i fa = (0, bd6 g x i fa (w2 (ad6 g H Lo B 8) + w2 (ad6 g H Lo B 24))) := cI_f hne
        have hf0 : f6 g x i fa = 0 := by rw [ef, cI_f (fun z => z.2 (Or.inl ce))]
        have ebd : bd6 g x i fa (w2 (ad6 g H Lo B 8) + w2 (ad6 g H Lo B 24)) = fxE4 (seg g i (40 + ln6 g 0 - i)) 0 (40 + ln6 g 0 - i) (sm8 g 8 32) := cI_t c9
        exact ⟨fun _ => ⟨hf0, by rw [eb], fz_t f23 f', k', o', by rw [eb, ebd]; exact b', by rw [eb, bd6_len hf0]; exact s24, s25, s26, s33, s34, s35, s40⟩, fun z => absurd (by decide) z⟩
      · have e : f6 g x i fa = 6 := by rw [ef, cI_t ⟨c9, fun z => z.elim ce cr⟩]
        rw [e, cI_f (by decide)] at h
        exact ⟨fun z => absurd z (by decide), fun _ => drop 6 (by decide) (by decide) M23 L12 f23 (fL_r _ _) h⟩
      · have eb : by6 g H Lo B kp m4 m6 x i fa = be6 g H Lo B kp m4 m6 i := cI_t ⟨c9, cr⟩
        have hf0 : f6 g x i fa = 0 := by rw [ef, cI_f (fun z => z.2 (Or.inr cr))]
        exact ⟨fun _ => ⟨hf0, by rw [eb]; exact hb0, fz_t f23 f', k', o', by rw [eb]; exact b', by rw [eb]; exact s24, s25, s26, s33, s34, s35, s40⟩, fun z => absurd (by decide) z⟩
      · have eb : by6 g H Lo B kp m4 m6 x i fa = be6 g H Lo B kp m4 m6 i := cI_t ⟨c9, cr⟩
        have hf0 : f6 g x i fa = 0 := by rw [ef, cI_f (fun z => z.2 (Or.inr cr))]
        have hbl := (be6_ok g H Lo B kp m4 m6 i).1
        rw [cI_t hf0, eb, cI_f hb0] at h
        refine ql (be6 g H Lo B kp m4 m6 i).1 _ (fun z => absurd (Nat.le_zero.mp z) hb0) (fun z => ?_) rfl (by omega) (by omega)
        exact drop _ z (by omega) M' L' (fz_t f23 f') k' h
    · have hf0 : f6 g x i fa = 0 := by rw [ef, cI_f (fun y => c9 y.1)]
      have eb : by6 g H Lo B kp m4 m6 x i fa = (0, bd6 g x i fa (w2 (ad6 g H Lo B 8) + w2 (ad6 g H Lo B 24))) := cI_f (fun y => c9 y.1)
      have ebd : bd6 g x i fa (w2 (ad6 g H Lo B 8) + w2 (ad6 g H Lo B 24)) = fxT (seg g i (40 + ln6 g 0 - i)) x (ofs g fa) (40 + ln6 g 0 - i) 0 (sm8 g 8 32) 16 (w2 (ad6 g H Lo B 8) + w2 (ad6 g H Lo B 24)) := cI_f c9
      have hbdl := bd6_len (F := w2 (ad6 g H Lo B 8) + w2 (ad6 g H Lo B 24)) hf0
      have next : ∀ M' L', fr M23 M' [5] → fL L12 L' [18] → holds (M' 5) 0 (bd6 g x i fa (w2 (ad6 g H Lo B 8) + w2 (ad6 g H Lo B 24))) → f6 g x i fa = 0 ∧ (by6 g H Lo B kp m4 m6 x i fa).1 = 0 ∧ fz M11 M' [0, 3, 5] [17, 20, 24, 25, 26, 33, 34, 35, 37, 38, 39, 40, 41, 42] ∧ fL L12 L' [15, 16, 18, 27, 28, 29, 30] ∧ outR M' [] ∧ holds (M' 5) 0 (by6 g H Lo B kp m4 m6 x i fa).2 ∧ M' 0 24 = nI (by6 g H Lo B kp m4 m6 x i fa).2.length ∧ M' 0 25 = nI (ad6 g H Lo B 8) ∧ M' 0 26 = nI (ad6 g H Lo B 24) ∧ M' 0 33 = nI (ofs g fa * 8) ∧ M' 0 34 = bI (mfs g fa) ∧ M' 0 35 = nI x ∧ M' 0 40 = nI i := by
        intro M' L' f' k' b'
        have e0 : M' 0 = M23 0 := f' 0 (by decide)
        have fz' : fz M23 M' [5] [] := ⟨f', fun j _ => by rw [e0]⟩
        exact ⟨hf0, by rw [eb], fz_t f23 (fz_s fz' (by decide) (by decide)), fL_s k' (by decide), outR_f o23 fz' (by decide) (by decide) (by decide) (by decide), by rw [eb]; exact b', by rw [eb, hbdl, e0]; exact q24, by rw [e0]; exact q25, by rw [e0]; exact q26, by rw [e0]; exact q33, by rw [e0]; exact q34, by rw [e0]; exact q35, by rw [e0]; exact q40⟩
      have same := fun e : bd6 g x i fa (w2 (ad6 g H Lo B 8) + w2 (ad6 g H Lo B 24)) = seg g i (40 + ln6 g 0 - i) => next M23 L12 (fr_r _ _) (fL_r _ _) (by rw [e]; exact b23)
      refine qen (ofs g fa * 8) _ (fun c10 => ?_) (fun c10 => same ?_) rfl (by omega) (by omega)
      rotate_left
      · rw [ebd]
        exact cI_f (fun z => by have := z.2.1; omega)
      have of0 : ofs g fa = 0 := by omega
      by_cases c11 : x = 17 ∨ x = 6
      rotate_left
      · refine ⟨False, False.elim, ?_⟩
        refine qe x _ (fun z => by omega) (fun _ => ?_) rfl (by omega) (by omega)
        refine qen x _ (fun z => by omega) (fun _ => same ?_) rfl (by omega) (by omega)
        rw [ebd]
        exact cI_f (fun z => c11 z.1)
      have h8l := f6_8 hf0 of0 (by omega)
      refine ⟨True, fun _ => ?_, ?_⟩
      rotate_left
      · refine qe x _ (fun _ => trivial) (fun _ => ?_) rfl (by omega) (by omega)
        exact qen x _ (fun _ => trivial) (fun z => by omega) rfl (by omega) (by omega)
      refine d_sumAt x ?_ hx2 rfl
      have hfp : fxp x + 2 ≤ 40 + ln6 g 0 - i := by
        unfold fxp
        rcases c11 with z | z
        · rw [if_pos z]; omega
        · rw [if_neg (by omega)]; have := h8l.2 z; omega
      have hlw : lw (seg g i (40 + ln6 g 0 - i)) (fxp x) = wd8 g (i + fxp x) := seg_lw (by omega)
      have hnz : ¬ (x = 17 ∧ lw (seg g i (40 + ln6 g 0 - i)) (0 + fxp x) = 0) := by
        intro z
        have hz := z.2
        rw [Nat.zero_add, hlw, show fxp x = 6 from if_pos z.1] at hz
        exact c8 ⟨z.1, of0, hz⟩
      have ebd2 : bd6 g x i fa (w2 (ad6 g H Lo B 8) + w2 (ad6 g H Lo B 24)) = spl (seg g i (40 + ln6 g 0 - i)) (fxp x) (bys 2 (fxv x (adj (lw (seg g i (40 + ln6 g 0 - i)) (fxp x)) (sm8 g 8 32) 16 (w2 (ad6 g H Lo B 8) + w2 (ad6 g H Lo B 24))))) := by
        rw [ebd]
        unfold fxT
        rw [cI_t ⟨c11, of0, hfp, hnz⟩, Nat.zero_add]
      exact r_adjust 0 x (fxp x) (ad6 g H Lo B 8) (ad6 g H Lo B 24) (num8 g 8 8) (num8 g 16 8) (num8 g 24 8) (num8 g 32 8) (sm8 g 8 32) 16 (w2 (ad6 g H Lo B 8) + w2 (ad6 g H Lo B 24)) False b23 (by rw [hsl]; omega) (by rw [hsl]; omega) hx2 q25 q26 c1' c2' (by rw [k27, num8_u64 hgb]) (by rw [k28, num8_u64 hgb]) (by rw [k29, num8_u64 hgb]) (by rw [k30, num8_u64 hgb]) (Or.inr ⟨id, rfl, rfl, sm8_32 hgb 8⟩) (fun M' L' f' k' b' => next M' L' f' k' (by rw [ebd2]; exact b')) (by rw [Nat.zero_add]) rfl (bI_f id).symm
