/-! the reference takes a packet of IPv4 -/
noncomputable def crd (g : Nat → Nat) (pr len pa msg : Nat) (mo : Prop) : Nat := cI (pr = 17 ∨ pr = 6 ∨ pr = msg) (cI (len < 8 ∨ (pr = 6 ∧ len < 20)) 4 (cI (pr = 17 ∧ ¬ mo ∧ wd8 g (pa + 4) ≠ len) 4 0)) 0
theorem crd_le (g : Nat → Nat) (pr len pa msg : Nat) (mo : Prop) : crd g pr len pa msg mo ≤ 4 := cI_le (cI_le (by decide) (cI_le (by decide) (by decide))) (by decide)
theorem d_carried {M : cM} {L : cL} {x y z w : Int32} {Z : Int32 → Prop} {g : Nat → Nat} (pr len pa msg : Nat) (mo : Prop) (hg : at8 (M 1) 2400 = g) (h35 : M 0 35 = nI pr) (l3 : pr < 256) (lm : msg < 256) (l8 : pa + len ≤ 2400) (h : Z (nI (crd g pr len pa msg mo))) (hx : x = nI pa) (hy : y = nI len) (hz : z = bI mo) (hw : w = nI msg) : wp_X7_carried_0 M L x y z w Z := by
  subst hx hy hz hw
  have hgb : ∀ i, g i < 256 := fun i => by rw [← hg]; exact at8_lt _ _ _
  have hw4 : wd8 g (pa + 4) < 65536 := wd8_lt hgb _
  unfold wp_X7_carried_0
  rw [h35]
  unfold crd at h
  refine ⟨fun v => v = bI (pr = 17 ∨ pr = 6 ∨ pr = msg), ?_, ?_⟩
  · rintro _ rfl
    refine zb (fun c => by rw [cI_f c] at h; exact h) (fun c => ?_)
    rw [cI_t c] at h
    refine qs len _ (fun c1 => by rw [cI_t (Or.inl c1)] at h; exact h) (fun c1 => ?_) rfl (by omega) (by omega)
    by_cases c2 : pr = 6 ∧ len < 20
    · rw [cI_t (Or.inr c2)] at h
      refine ⟨False, False.elim, ?_⟩
      refine qen pr _ (fun _ => ?_) (fun z => absurd c2.1 z) rfl (by omega) (by omega)
      exact qg len _ (fun z => by omega) (fun _ => h) rfl (by omega) (by omega)
    · rw [cI_f (by omega)] at h
      refine ⟨True, fun _ => ?_, ?_⟩
      · refine qen pr _ (fun c3 => ?_) (fun c3 => by rw [cI_f (fun z => c3 z.1)] at h; exact h) rfl (by omega) (by omega)
        refine zb (fun c4 => ?_) (fun c4 => by rw [cI_f (fun z => z.2.1 c4)] at h; exact h)
        refine d_two (pa + 4) hg ?_ (by omega) (nI_add _ 4)
        exact pk_eq (wd8 g (pa + 4)) len (fun c5 => by rw [cI_f (fun z => z.2.2 c5)] at h; exact h) (fun c5 => by rw [cI_t ⟨c3, c4, c5⟩] at h; exact h) rfl rfl (by omega) (by omega)
      · refine qen pr _ (fun c3 => ?_) (fun _ => trivial) rfl (by omega) (by omega)
        exact qg len _ (fun _ => trivial) (fun z => by omega) rfl (by omega) (by omega)
  · by_cases c : pr = 17 ∨ pr = 6 ∨ pr = msg
    · rw [bI_t c]
      refine ⟨True, fun _ => rfl, ?_⟩
      refine qe pr _ (fun _ => trivial) (fun c1 => ?_) rfl (by omega) (by omega)
      refine qe pr _ (fun _ => trivial) (fun c2 => ?_) rfl (by omega) (by omega)
      exact pn_eq pr msg (fun _ => trivial) (fun c3 => by omega) rfl rfl (by omega) (by omega)
    · rw [bI_f c]
      refine ⟨False, False.elim, ?_⟩
      refine qe pr _ (fun z => by omega) (fun c1 => ?_) rfl (by omega) (by omega)
      refine qe pr _ (fun z => by omega) (fun c2 => ?_) rfl (by omega) (by omega)
      exact pn_eq pr msg (fun z => by omega) (fun c3 => rfl) rfl rfl (by omega) (by omega)
theorem flt_crd (g : Nat → Nat) (pr off len pa msg : Nat) (mo zl : Prop) (hm : pr = 1 ∨ pr = 58 → pr = msg) (hm2 : msg = 1 ∨ msg = 58) : flt g pr off len pa mo zl = cI (cI (off = 0) (crd g pr len pa msg mo) 0 ≠ 0) (cI (off = 0) (crd g pr len pa msg mo) 0) (cI ((pr = 17 ∧ off = 0 ∧ wd8 g (pa + 6) = 0) ∧ ¬ zl) 7 0) := by
  unfold flt
  by_cases c0 : off = 0
  · rw [cI_t c0]
    unfold crd
    by_cases c1 : pr = 17 ∨ pr = 6 ∨ pr = msg
    · rw [cI_f (show ¬ (off ≠ 0 ∨ ¬ (pr = 17 ∨ pr = 1 ∨ pr = 58 ∨ pr = 6)) by omega), cI_t c1]
      by_cases c2 : len < 8 ∨ (pr = 6 ∧ len < 20)
      · rw [cI_t (P := len < 8 ∨ (pr = 6 ∧ len < 20)) c2, cI_t (show (4 : Nat) ≠ 0 by decide)]
        by_cases c3 : pr = 6
        · rw [cI_t (P := pr = 6) c3, cI_t (by omega)]
        · rw [cI_f (P := pr = 6) c3, cI_t (by omega)]
      · rw [cI_f (P := len < 8 ∨ (pr = 6 ∧ len < 20)) c2]
        have e : cI (len < cI (pr = 6) 20 8) 4 (cI (pr = 17 ∧ ¬ mo ∧ wd8 g (pa + 4) ≠ len) 4 (cI (pr = 17 ∧ ¬ zl ∧ wd8 g (pa + 6) = 0) 7 0)) = cI (pr = 17 ∧ ¬ mo ∧ wd8 g (pa + 4) ≠ len) 4 (cI (pr = 17 ∧ ¬ zl ∧ wd8 g (pa + 6) = 0) 7 0) := by
          by_cases c3 : pr = 6
          · rw [cI_t (P := pr = 6) c3, cI_f (by omega)]
          · rw [cI_f (P := pr = 6) c3, cI_f (by omega)]
        rw [e]
        by_cases c4 : pr = 17 ∧ ¬ mo ∧ wd8 g (pa + 4) ≠ len
        · rw [cI_t c4, cI_t c4, cI_t (show (4 : Nat) ≠ 0 by decide)]
        · rw [cI_f c4, cI_f c4, cI_f (show ¬ (0 : Nat) ≠ 0 by decide)]
          exact cI_iff ⟨fun z => ⟨⟨z.1, c0, z.2.2⟩, z.2.1⟩, fun z => ⟨z.1.1, z.2, z.1.2.2⟩⟩
    · rw [cI_t (show off ≠ 0 ∨ ¬ (pr = 17 ∨ pr = 1 ∨ pr = 58 ∨ pr = 6) by omega), cI_f (P := pr = 17 ∨ pr = 6 ∨ pr = msg) c1, cI_f (show ¬ (0 : Nat) ≠ 0 by decide), cI_f (fun z => by have := z.1.1; omega)]
  · rw [cI_t (show off ≠ 0 ∨ ¬ (pr = 17 ∨ pr = 1 ∨ pr = 58 ∨ pr = 6) from Or.inl c0), cI_f (P := off = 0) c0, cI_f (show ¬ (0 : Nat) ≠ 0 by decide), cI_f (fun z => c0 z.1.2.1)]
theorem d_anFour {M : cM} {L : cL} {x y z : Int32} {Z : Int32 → cM → cL → Prop} {g : Nat → Nat} (n own t c m : Nat) (hg : at8 (M 1) 2400 = g) (hB : ∀ j, isBy (M 1 j)) (hf : form4 g n) (hn : n ≤ 2400) (h31 : M 0 31 = nI (hl4 g 0)) (h32 : M 0 32 = nI (tl4 g 0)) (h33 : M 0 33 = nI (of4 g 0 * 8)) (h35 : M 0 35 = nI (g 9)) (ho : outR M []) (hw : M 0 6 = nI own) (ht : t < 256) (hc : c < 256) (hm : m < 65536)
    (h : ∀ M' L', fz M M' [0, 2, 3, 4] [20, 22] → fL L L' [18] → M' 2 = upv (M 2) (an4 own g (t * 256 + c) m).1 → outR M' (an4 own g (t * 256 + c) m).2 → Z (nI (an4 own g (t * 256 + c) m).1) M' L') (hx : x = nI t) (hy : y = nI c) (hz : z = nI m) : wp_X7_answer4_0 M L x y z Z := by
  unfold an4 at h
  refine d_answer4 n own t c m hg hB hf hn h31 h32 h33 h35 ho hw ht hc hm (fun hu M' f e o => ?_) (fun hu M' L' f k e o => ?_) hx hy hz
  · rw [cI_t hu] at h
    exact h M' L (fz_s f (by decide) (by decide)) (fL_r _ _) e o
  · rw [cI_f hu] at h
    exact h M' L' f k e o
theorem d_four {M : cM} {L : cL} {Z : Int32 → cM → cL → Prop} {g : Nat → Nat} {H Lo : Int64} {B : Nat} (n own m4 m6 : Nat) (kp lt : Prop) (hg : at8 (M 1) 2400 = g) (hB : ∀ j, isBy (M 1 j)) (hn : n ≤ 2400) (hn1 : M 0 2 = nI n) (hm : mapR M L H Lo B) (hk : M 0 11 = bI kp) (hlt : M 0 12 = bI lt) (hw : M 0 6 = nI own) (l4 : m4 ≤ 2000) (l6 : m6 ≤ 2000) (l6' : 1280 ≤ m6) (e4 : M 0 9 = nI m4) (e6 : M 0 10 = nI m6)
    (h : ∀ M' L', fz M M' [0, 2, 3, 4, 5] [0, 2, 20, 22, 24, 25, 26, 31, 32, 33, 34, 35, 36, 37, 38, 39] → fL L L' [15, 16, 18, 27, 28, 29, 30] → M' 0 2 = 0 → M' 2 = upv (M 2) (F4 g n H Lo B kp lt own m4 m6).1 → outR M' (F4 g n H Lo B kp lt own m4 m6).2 → Z (nI (F4 g n H Lo B kp lt own m4 m6).1) M' L') : wp_X7_four__0 M L Z := by
  have hgb : ∀ i, g i < 256 := fun i => by rw [← hg]; exact at8_lt _ _ _
  have hBl := pfx_lt hm.2.2.2
  have hb8 := hgb 8
  have hb9 := hgb 9
  have hhl : hl4 g 0 ≤ 60 := hl4_le 0
  have htl : tl4 g 0 < 65536 := wd8_lt hgb _
  have ho4 : of4 g 0 < 8192 := Nat.mod_lt _ (by decide)
  have hs : sr4 g 0 < 4294967296 := num4_lt hgb _
  have ht : tg4 g 0 < 4294967296 := num4_lt hgb _
  have hbh := hgb (hl4 g 0)
  unfold wp_X7_four__0 wp_X7_begin_0
  rintro _ rfl _ rfl _ rfl
  refine ⟨vp_in_nI (n := 0) (by decide) (by decide), ?_⟩
  rintro _ rfl
  intro x2 hx2
  have ex2 : x2 = nI n := hx2.trans hn1
  subst ex2
  rintro _ rfl
  have f3 : fz M (mu (mu (mu (mu (mu M 0 0 (0 : Int32)) 0 22 (0 : Int32)) 0 20 (0 : Int32)) 4 (0 : Int32).toNatClampNeg (0 : Int32)) 0 2 (0 : Int32)) [0, 4] [0, 2, 20, 22] := fz_t (fz_t (fz_t (fz_t (mu_fz0 _ _ _ (by decide) (by decide)) (mu_fz0 _ _ _ (by decide) (by decide))) (mu_fz0 _ _ _ (by decide) (by decide))) (mu_fz _ _ _ _ (by decide) (by decide))) (mu_fz0 _ _ _ (by decide) (by decide))
  have o3 : outR (mu (mu (mu (mu (mu M 0 0 (0 : Int32)) 0 22 (0 : Int32)) 0 20 (0 : Int32)) 4 (0 : Int32).toNatClampNeg (0 : Int32)) 0 2 (0 : Int32)) [] := ⟨rfl, rfl, fun i hi => by have e : i = 0 := Nat.le_zero.mp hi; subst e; rfl, trivial⟩
  have t3 : mu (mu (mu (mu (mu M 0 0 (0 : Int32)) 0 22 (0 : Int32)) 0 20 (0 : Int32)) 4 (0 : Int32).toNatClampNeg (0 : Int32)) 0 2 (0 : Int32) 0 2 = 0 := rfl
  clear hx2
  generalize mu (mu (mu (mu (mu M 0 0 (0 : Int32)) 0 22 (0 : Int32)) 0 20 (0 : Int32)) 4 (0 : Int32).toNatClampNeg (0 : Int32)) 0 2 (0 : Int32) = M3 at f3 o3 t3 ⊢
  have hg3 : at8 (M3 1) 2400 = g := by rw [f3.1 1 (by decide)]; exact hg
  have hB3 : ∀ j, isBy (M3 1 j) := by rw [f3.1 1 (by decide)]; exact hB
  have e32 : M3 2 = M 2 := f3.1 2 (by decide)
  unfold F4 at h
  refine d_formed4 n hg3 hB3 hn (fun M5 L6 f5 k6 c => ?_) (fun M5 L6 f5 k6 hf e31 e32' e33 e34 e35 e36 => ?_) rfl
  · rw [cI_f c] at h
    refine ⟨fun z => absurd rfl z, fun _ => ?_⟩
    refine r_tellD 1 (by decide) (by rw [f5.1 4 (by decide)]; exact o3.2.2.1 0 (Nat.le_refl _)) (fun M6 f6 e6' o6 => ?_) rfl
    refine h M6 L6 (fz_t (fz_t (fz_s f3 (by decide) (by decide)) (fz_s f5 (by decide) (by decide))) (fz_s f6 (by decide) (by decide))) (fL_s k6 (by decide)) ?_ ?_ o6
    · rw [f6.2 2 (by decide), f5.2 2 (by decide)]; exact t3
    · rw [e6', f5.1 2 (by decide), e32]
  rw [cI_t hf] at h
  refine ⟨fun _ => ?_, fun z => absurd z (by decide)⟩
  have hg5 : at8 (M5 1) 2400 = g := by rw [f5.1 1 (by decide)]; exact hg3
  have hn2 := hf.2.1
  have hh := hf.1.2.2.2.2
  have h20 := hf.1.2.2.2.1
  refine d_int 12 hg5 ?_ (by omega) rfl
  refine d_int 16 hg5 ?_ (by omega) rfl
  refine d_imagesOf (H := H) (Lo := Lo) (B := B) (sr4 g 0) (tg4 g 0) hs ht (mapR_f (mapR_f hm f3 (fL_r L []) (by decide) (by decide) (by decide)) f5 k6 (by decide) (by decide) (by decide)) (fun L12 k12 k27 k28 k29 k30 => ?_) rfl rfl
  have f11 : fz M (mu (mu M5 0 25 (nI (sr4 g 0))) 0 26 (nI (tg4 g 0))) [0, 4] [0, 2, 20, 22, 25, 26, 31, 32, 33, 34, 35, 36] := fz_t (fz_t (fz_t (fz_s f3 (by decide) (by decide)) (fz_s f5 (by decide) (by decide))) (mu_fz0 _ _ _ (by decide) (by decide))) (mu_fz0 _ _ _ (by decide) (by decide))
  have g11 : fz M3 (mu (mu M5 0 25 (nI (sr4 g 0))) 0 26 (nI (tg4 g 0))) [0] [25, 26, 31, 32, 33, 34, 35, 36] := fz_t (fz_t (fz_s f5 (by decide) (by decide)) (mu_fz0 _ _ _ (by decide) (by decide))) (mu_fz0 _ _ _ (by decide) (by decide))
  have p25 : mu (mu M5 0 25 (nI (sr4 g 0))) 0 26 (nI (tg4 g 0)) 0 25 = nI (sr4 g 0) := rfl
  have p26 : mu (mu M5 0 25 (nI (sr4 g 0))) 0 26 (nI (tg4 g 0)) 0 26 = nI (tg4 g 0) := rfl
  have p31 : mu (mu M5 0 25 (nI (sr4 g 0))) 0 26 (nI (tg4 g 0)) 0 31 = nI (hl4 g 0) := e31
  have p32 : mu (mu M5 0 25 (nI (sr4 g 0))) 0 26 (nI (tg4 g 0)) 0 32 = nI (tl4 g 0) := e32'
  have p33 : mu (mu M5 0 25 (nI (sr4 g 0))) 0 26 (nI (tg4 g 0)) 0 33 = nI (of4 g 0 * 8) := e33
  have p34 : mu (mu M5 0 25 (nI (sr4 g 0))) 0 26 (nI (tg4 g 0)) 0 34 = bI (mf4 g 0) := e34
  have p35 : mu (mu M5 0 25 (nI (sr4 g 0))) 0 26 (nI (tg4 g 0)) 0 35 = nI (g 9) := e35
  have p36 : mu (mu M5 0 25 (nI (sr4 g 0))) 0 26 (nI (tg4 g 0)) 0 36 = bI (opr g = 2) := e36
  generalize mu (mu M5 0 25 (nI (sr4 g 0))) 0 26 (nI (tg4 g 0)) = M11 at f11 g11 p25 p26 p31 p32 p33 p34 p35 p36 ⊢
  have k12' : fL L L12 [15, 16, 18, 27, 28, 29, 30] := fL_t (fL_s k6 (by decide)) (fL_s k12 (by decide))
  have o11 : outR M11 [] := outR_f o3 g11 (by decide) (by decide) (by decide) (by decide)
  have t11 : M11 0 2 = 0 := (g11.2 2 (by decide)).trans t3
  have u11 : M11 2 = M 2 := (g11.1 2 (by decide)).trans e32
  have hg11 : at8 (M11 1) 2400 = g := by rw [f11.1 1 (by decide)]; exact hg
  have hB11 : ∀ j, isBy (M11 1 j) := by rw [f11.1 1 (by decide)]; exact hB
  have hm11 : mapR M11 L12 H Lo B := mapR_f hm f11 k12' (by decide) (by decide) (by decide)
  have w11 : M11 0 6 = nI own := (f11.2 6 (by decide)).trans hw
  have kp11 : M11 0 11 = bI kp := (f11.2 11 (by decide)).trans hk
  have z11 : M11 4 0 = 0 := o11.2.2.1 0 (Nat.le_refl _)
  clear k6 k12 f5 f3 hm
  -- a packet dropped from here
  have drop : ∀ v, 0 < v → v < 10 → ∀ M1 L1, fz M11 M1 [0, 3, 5] [20, 24, 25, 26, 31, 32, 33, 34, 35, 37, 38, 39] → fL L12 L1 [15, 16, 18, 27, 28, 29, 30] → (∀ M' L', fz M M' [0, 2, 3, 4, 5] [0, 2, 20, 22, 24, 25, 26, 31, 32, 33, 34, 35, 36, 37, 38, 39] → fL L L' [15, 16, 18, 27, 28, 29, 30] → M' 0 2 = 0 → M' 2 = upv (M 2) v → outR M' [] → Z (nI v) M' L') → wp_X7_tell_0 M1 L1 (nI v) (fun r M2 => Z r M2 L1) := by
    intro v hv0 hv M1 L1 f1 k1 hz
    refine r_tellD v ⟨hv0, hv⟩ (by rw [f1.1 4 (by decide)]; exact z11) (fun M2 f2 e2 o2 => ?_) rfl
    refine hz M2 L1 (fz_t (fz_t (fz_s f11 (by decide) (by decide)) (fz_s f1 (by decide) (by decide))) (fz_s f2 (by decide) (by decide))) (fL_t k12' k1) ?_ ?_ o2
    · rw [f2.2 2 (by decide), f1.2 2 (by decide)]; exact t11
    · rw [e2, f1.1 2 (by decide), u11]
  -- an answer from here
  have answ : ∀ t c m, t < 256 → c < 256 → m < 65536 → ∀ M1 L1, fz M11 M1 [0, 3, 5] [20, 24, 25, 26, 31, 32, 33, 34, 35, 37, 38, 39] → fL L12 L1 [15, 16, 18, 27, 28, 29, 30] → M1 0 31 = nI (hl4 g 0) → M1 0 32 = nI (tl4 g 0) → M1 0 33 = nI (of4 g 0 * 8) → M1 0 35 = nI (g 9) → outR M1 [] → (∀ M' L', fz M M' [0, 2, 3, 4, 5] [0, 2, 20, 22, 24, 25, 26, 31, 32, 33, 34, 35, 36, 37, 38, 39] → fL L L' [15, 16, 18, 27, 28, 29, 30] → M' 0 2 = 0 → M' 2 = upv (M 2) (an4 own g (t * 256 + c) m).1 → outR M' (an4 own g (t * 256 + c) m).2 → Z (nI (an4 own g (t * 256 + c) m).1) M' L') → wp_X7_answer4_0 M1 L1 (nI t) (nI c) (nI m) Z := by
    intro t c m ht hc hm M1 L1 f1 k1 q31 q32 q33 q35 o1 hz
    refine d_anFour n own t c m (by rw [f1.1 1 (by decide)]; exact hg11) (by rw [f1.1 1 (by decide)]; exact hB11) hf hn q31 q32 q33 q35 o1 ((f1.2 6 (by decide)).trans w11) ht hc hm (fun M2 L2 f2 k2 e2 o2 => ?_) rfl rfl rfl
    refine hz M2 L2 (fz_t (fz_t (fz_s f11 (by decide) (by decide)) (fz_s f1 (by decide) (by decide))) (fz_s f2 (by decide) (by decide))) (fL_t (fL_t k12' k1) (fL_s k2 (by decide))) ?_ ?_ o2
    · rw [f2.2 2 (by decide), f1.2 2 (by decide)]; exact t11
    · rw [e2, f1.1 2 (by decide), u11]
  refine r_mappable H Lo B (sr4 g 0) ?_ hs hBl hm11.2.1 hm11.2.2.1 hm11.1 p25
  refine zb (fun c => ?_) (fun c1 => ?_)
  · rw [cI_f c] at h
    exact drop 2 (by decide) (by decide) M11 L12 (fz_r _ _ _) (fL_r _ _) h
  rw [cI_t c1] at h
  refine zb (fun c => ?_) (fun c2 => ?_)
  · rw [cI_f (fun z => c ⟨c1, z⟩)] at h
    exact drop 3 (by decide) (by decide) M11 L12 (fz_r _ _ _) (fL_r _ _) h
  rw [cI_t c2.2] at h
  rw [p36]
  refine bz (fun c3 => ?_) (fun c3 => ?_)
  rotate_left
  · rw [cI_t c3] at h
    exact answ 3 5 0 (by decide) (by decide) (by decide) M11 L12 (fz_r _ _ _) (fL_r _ _) p31 p32 p33 p35 o11 h
  rw [cI_f c3] at h
  refine d_oct 8 hg11 ?_ (by omega) rfl
  refine qg (g 8) _ (fun c4 => ?_) (fun c4 => ?_) rfl (by omega) (by omega)
  rotate_left
  · rw [cI_f (by omega)] at h
    exact answ 11 0 0 (by decide) (by decide) (by decide) M11 L12 (fz_r _ _ _) (fL_r _ _) p31 p32 p33 p35 o11 h
  rw [cI_t (show 1 < g 8 from c4)] at h
  rw [p31, p32, p33, p34, p35]
  refine r_barred4 (g 9) ?_ hb9 rfl
  refine bz (fun c5 => ?_) (fun c5 => ?_)
  rotate_left
  · have e : f4 g lt = 6 := cI_t c5
    rw [e, cI_f (by decide)] at h
    exact drop 6 (by decide) (by decide) M11 L12 (fz_r _ _ _) (fL_r _ _) h
  by_cases c6 : g 9 = 1 ∧ fg4 g 0
  · have e : f4 g lt = 5 := by unfold f4; rw [cI_f c5, cI_t c6]
    rw [e, cI_f (by decide)] at h
    refine ⟨False, False.elim, ?_⟩
    refine qen (g 9) _ (fun _ => ?_) (fun z => absurd c6.1 z) rfl (by omega) (by omega)
    refine ⟨True, fun _ => drop 5 (by decide) (by decide) M11 L12 (fz_r _ _ _) (fL_r _ _) h, ?_⟩
    refine zb (fun c7 => ?_) (fun _ => trivial)
    exact ql (of4 g 0 * 8) _ (fun z => absurd c6.2 (fun y => y.elim c7 (fun w => w (by omega)))) (fun _ => trivial) rfl (by omega) (by omega)
  refine ⟨True, fun _ => ?_, ?_⟩
  rotate_left
  · refine qen (g 9) _ (fun c7 => ?_) (fun _ => trivial) rfl (by omega) (by omega)
    refine ⟨False, False.elim, ?_⟩
    refine zb (fun c8 => ?_) (fun z => c6 ⟨c7, Or.inl z⟩)
    exact ql (of4 g 0 * 8) _ (fun _ => trivial) (fun z => c6 ⟨c7, Or.inr (by omega)⟩) rfl (by omega) (by omega)
  have ef : f4 g lt = cI (ft4 g lt ≠ 0) (ft4 g lt) (cI (g 9 = 1 ∧ ¬ (ec4 (g (hl4 g 0)) ∨ er4 (g (hl4 g 0)))) 6 0) := by unfold f4; rw [cI_f c5, cI_f c6]
  have eft : ft4 g lt = cI (cI (of4 g 0 = 0) (crd g (g 9) (tl4 g 0 - hl4 g 0) (hl4 g 0) 1 (mf4 g 0)) 0 ≠ 0) (cI (of4 g 0 = 0) (crd g (g 9) (tl4 g 0 - hl4 g 0) (hl4 g 0) 1 (mf4 g 0)) 0) (cI ((g 9 = 17 ∧ of4 g 0 = 0 ∧ wd8 g (hl4 g 0 + 6) = 0) ∧ ¬ (lt ∧ ¬ mf4 g 0)) 7 0) := flt_crd g (g 9) (of4 g 0) (tl4 g 0 - hl4 g 0) (hl4 g 0) 1 (mf4 g 0) (lt ∧ ¬ mf4 g 0) (fun z => z.elim id (fun y => absurd (show bar4 (g 9) by unfold bar4; omega) c5)) (Or.inl rfl)
  rw [show nI (tl4 g 0) - nI (hl4 g 0) = nI (tl4 g 0 - hl4 g 0) from pk_sub hh]
  rintro _ rfl
  have hcl := crd_le g (g 9) (tl4 g 0 - hl4 g 0) (hl4 g 0) 1 (mf4 g 0)
  have hdl : cI (of4 g 0 = 0) (crd g (g 9) (tl4 g 0 - hl4 g 0) (hl4 g 0) 1 (mf4 g 0)) 0 ≤ 4 := cI_le hcl (by decide)
  refine ⟨fun v => v = nI (cI (of4 g 0 = 0) (crd g (g 9) (tl4 g 0 - hl4 g 0) (hl4 g 0) 1 (mf4 g 0)) 0), ?_, ?_⟩
  rotate_left
  · refine qen (of4 g 0 * 8) _ (fun c7 => ?_) (fun c7 => by rw [cI_f (by omega)]; rfl) rfl (by omega) (by omega)
    rw [cI_t (show of4 g 0 = 0 by omega)]
    exact d_carried (g 9) (tl4 g 0 - hl4 g 0) (hl4 g 0) 1 (mf4 g 0) hg11 p35 hb9 (by decide) (by omega) rfl rfl rfl rfl rfl
  rintro _ rfl
  refine ql (cI (of4 g 0 = 0) (crd g (g 9) (tl4 g 0 - hl4 g 0) (hl4 g 0) 1 (mf4 g 0)) 0) _ (fun c7 => ?_) (fun c7 => ?_) rfl (by omega) (by omega)
  rotate_left
  · have hne : cI (of4 g 0 = 0) (crd g (g 9) (tl4 g 0 - hl4 g 0) (hl4 g 0) 1 (mf4 g 0)) 0 ≠ 0 := by omega
    rw [cI_t hne] at eft
    rw [eft, cI_t hne] at ef
    rw [ef, cI_f hne] at h
    exact drop _ c7 (by omega) M11 L12 (fz_r _ _ _) (fL_r _ _) h
  rw [cI_f (fun z => z (Nat.le_zero.mp c7))] at eft
  have h8 : of4 g 0 = 0 → (g 9 = 17 ∨ g 9 = 1 ∨ g 9 = 6) → 8 ≤ tl4 g 0 - hl4 g 0 := by
    intro z1 z2
    rw [cI_t z1] at c7
    unfold crd at c7
    rw [cI_t (by omega)] at c7
    by_cases z3 : tl4 g 0 - hl4 g 0 < 8 ∨ (g 9 = 6 ∧ tl4 g 0 - hl4 g 0 < 20)
    · rw [cI_t z3] at c7; omega
    · omega
  refine ⟨fun v => v = bI (g 9 = 17 ∧ of4 g 0 = 0 ∧ wd8 g (hl4 g 0 + 6) = 0), ?_, ?_⟩
  rotate_left
  · have hw6 : wd8 g (hl4 g 0 + 6) < 65536 := wd8_lt hgb _
    by_cases c8 : g 9 = 17 ∧ of4 g 0 = 0 ∧ wd8 g (hl4 g 0 + 6) = 0
    · have := h8 c8.2.1 (Or.inl c8.1)
      rw [bI_t c8]
      refine ⟨False, False.elim, ?_⟩
      refine qen (g 9) _ (fun _ => ?_) (fun z => absurd c8.1 z) rfl (by omega) (by omega)
      refine qen (of4 g 0 * 8) _ (fun _ => ?_) (fun z => absurd c8.2.1 (by omega)) rfl (by omega) (by omega)
      refine d_two (hl4 g 0 + 6) hg11 ?_ (by omega) (nI_add _ 6)
      exact qen _ _ (fun _ => rfl) (fun z => absurd c8.2.2 z) rfl (by omega) (by omega)
    · rw [bI_f c8]
      refine ⟨True, fun _ => rfl, ?_⟩
      refine qen (g 9) _ (fun c9 => ?_) (fun _ => trivial) rfl (by omega) (by omega)
      refine qen (of4 g 0 * 8) _ (fun c10 => ?_) (fun _ => trivial) rfl (by omega) (by omega)
      have := h8 (by omega) (Or.inl c9)
      refine d_two (hl4 g 0 + 6) hg11 ?_ (by omega) (nI_add _ 6)
      exact qen _ _ (fun z => absurd ⟨c9, by omega, z⟩ c8) (fun z => trivial) rfl (by omega) (by omega)
  rintro _ rfl
  by_cases c8 : (g 9 = 17 ∧ of4 g 0 = 0 ∧ wd8 g (hl4 g 0 + 6) = 0) ∧ ¬ (lt ∧ ¬ mf4 g 0)
  · rw [cI_t c8] at eft
    rw [eft, cI_t (by decide)] at ef
    rw [ef, cI_f (by decide)] at h
    refine ⟨False, False.elim, ?_⟩
    refine bz (fun z => absurd c8.1 z) (fun _ => ?_)
    refine ⟨True, fun _ => drop 7 (by decide) (by decide) M11 L12 (fz_r _ _ _) (fL_r _ _) h, ?_⟩
    refine zb (fun c9 => ?_) (fun _ => trivial)
    rw [(f11.2 12 (by decide)).trans hlt]
    exact zb (fun _ => trivial) (fun c10 => absurd ⟨c10, c9⟩ c8.2)
  rw [cI_f c8] at eft
  rw [eft, cI_f (by decide)] at ef
  refine ⟨True, fun _ => ?_, ?_⟩
  rotate_left
  · refine bz (fun _ => trivial) (fun c9 => ?_)
    refine ⟨False, False.elim, ?_⟩
    rw [(f11.2 12 (by decide)).trans hlt]
    refine zb (fun c10 => ?_) (fun c10 => c8 ⟨c9, fun z => z.2 c10⟩)
    exact zb (fun c11 => c8 ⟨c9, fun z => c11 z.1⟩) (fun _ => trivial)
  refine r_carry (hl4 g 0) (tl4 g 0 - hl4 g 0) (fun M24 w24 => ?_) (by omega) rfl rfl
  rw [hg11] at w24
  have f25 : fz M11 (mu M24 0 24 (nI (tl4 g 0 - hl4 g 0))) [0, 3, 5] [20, 24, 25, 26, 31, 32, 33, 34, 35, 37, 38, 39] := fz_t (wr_fz w24 (by decide) (by decide)) (mu_fz0 _ _ _ (by decide) (by decide))
  have g25 : fz M11 (mu M24 0 24 (nI (tl4 g 0 - hl4 g 0))) [0, 5] [24] := fz_t (wr_fz w24 (by decide) (by decide)) (mu_fz0 _ _ _ (by decide) (by decide))
  have b25 : holds (mu M24 0 24 (nI (tl4 g 0 - hl4 g 0)) 5) 0 (seg g (hl4 g 0) (tl4 g 0 - hl4 g 0)) := w24.2.2
  have q24 : mu M24 0 24 (nI (tl4 g 0 - hl4 g 0)) 0 24 = nI (tl4 g 0 - hl4 g 0) := rfl
  generalize mu M24 0 24 (nI (tl4 g 0 - hl4 g 0)) = M25 at f25 g25 b25 q24 ⊢
  have q31 : M25 0 31 = nI (hl4 g 0) := (g25.2 31 (by decide)).trans p31
  have q32 : M25 0 32 = nI (tl4 g 0) := (g25.2 32 (by decide)).trans p32
  have q33 : M25 0 33 = nI (of4 g 0 * 8) := (g25.2 33 (by decide)).trans p33
  have q34 : M25 0 34 = bI (mf4 g 0) := (g25.2 34 (by decide)).trans p34
  have q35 : M25 0 35 = nI (g 9) := (g25.2 35 (by decide)).trans p35
  have q25 : M25 0 25 = nI (sr4 g 0) := (g25.2 25 (by decide)).trans p25
  have q26 : M25 0 26 = nI (tg4 g 0) := (g25.2 26 (by decide)).trans p26
  have o25 : outR M25 [] := outR_f o11 g25 (by decide) (by decide) (by decide) (by decide)
  have hsl : (seg g (hl4 g 0) (tl4 g 0 - hl4 g 0)).length = tl4 g 0 - hl4 g 0 := seg_len _ _ _
  have hW := iw_le H Lo B (sr4 g 0) (tg4 g 0)
  rw [q35, q33]
  refine ⟨fun M' L' => f4 g lt = 0 ∧ (by4 g H Lo B kp m4 m6).1 = 0 ∧ fz M11 M' [0, 3, 5] [20, 24, 25, 26, 31, 32, 33, 34, 35, 37, 38, 39] ∧ fL L12 L' [15, 16, 18, 27, 28, 29, 30] ∧ outR M' [] ∧ holds (M' 5) 0 (by4 g H Lo B kp m4 m6).2 ∧ M' 0 24 = nI (by4 g H Lo B kp m4 m6).2.length ∧ M' 0 31 = nI (hl4 g 0) ∧ M' 0 32 = nI (tl4 g 0) ∧ M' 0 33 = nI (of4 g 0 * 8) ∧ M' 0 34 = bI (mf4 g 0) ∧ M' 0 35 = nI (g 9) ∧ L' 0 27 = upA H B (sr4 g 0) ∧ L' 0 28 = loA Lo B (sr4 g 0) ∧ L' 0 29 = upA H B (tg4 g 0) ∧ L' 0 30 = loA Lo B (tg4 g 0), ?_, ?_⟩
  · rintro M26 L27 ⟨hf0, hb0, f26, k26, o26, b26, r24, r31, r32, r33, r34, r35, r27, r28, r29, r30⟩
    rw [cI_t hf0, cI_t hb0] at h
    have hbl := by4_len (H := H) (Lo := Lo) (B := B) (kp := kp) (m4 := m4) (m6 := m6) hf0 (by omega)
    generalize (by4 g H Lo B kp m4 m6).2 = b at h hbl b26 r24
    unfold F4z at h
    have h8f := cI_8 (fg4 g 0)
    have hg26 : at8 (M26 1) 2400 = g := by rw [f26.1 1 (by decide)]; exact hg11
    rw [r34, r33, r24]
    refine ⟨fun v => v = bI (fg4 g 0), ?_, ?_⟩
    rotate_left
    · by_cases c : fg4 g 0
      · rw [bI_t c]
        refine ⟨True, fun _ => rfl, ?_⟩
        refine zb (fun c9 => ?_) (fun _ => trivial)
        exact ql (of4 g 0 * 8) _ (fun z => absurd c (fun y => y.elim c9 (fun w => w (by omega)))) (fun _ => trivial) rfl (by omega) (by omega)
      · rw [bI_f c]
        refine ⟨False, False.elim, ?_⟩
        refine zb (fun c9 => ?_) (fun z => c (Or.inl z))
        exact ql (of4 g 0 * 8) _ (fun _ => rfl) (fun z => (c (Or.inr (by omega))).elim) rfl (by omega) (by omega)
    rintro _ rfl
    refine ⟨fun v => v = nI (cI (fg4 g 0) 8 0), ?_, ?_⟩
    rotate_left
    · exact bz (fun c => by rw [cI_f c]; rfl) (fun c => by rw [cI_t c]; rfl)
    rintro _ rfl
    rw [show (40 : Int32) + nI (cI (fg4 g 0) 8 0) + nI b.length = nI (40 + cI (fg4 g 0) 8 0 + b.length) from by rw [show (40 : Int32) = nI 40 from rfl, nI_add, nI_add]]
    rintro _ rfl
    refine ⟨vp_in_nI (n := 6) (by decide) (by decide), ?_⟩
    refine ⟨fun v => v = bI (df4 g 0), ?_, ?_⟩
    rotate_left
    · have e : oc (M26 1 6) / 2 ^ 6 % 2 = 1 ↔ df4 g 0 := by
        have o6 : oc (M26 1 6) = g 6 := by rw [← hg26, at8_in (by decide)]
        rw [o6]
        unfold df4 fl4 wd8
        have := hgb (6 + 1)
        rw [Nat.zero_add]
        omega
      exact kfl ((b_fl (M26 1 6) 6 64 (by decide) rfl).trans (not_congr e))
    rintro _ rfl
    rw [(f26.2 10 (by decide)).trans ((f11.2 10 (by decide)).trans e6)]
    by_cases c9 : df4 g 0 ∧ m6 < 40 + cI (fg4 g 0) 8 0 + b.length
    · rw [cI_t c9] at h
      refine ⟨False, False.elim, ?_⟩
      refine bz (fun z => absurd c9.1 z) (fun _ => ?_)
      refine pk_le (40 + cI (fg4 g 0) 8 0 + b.length) m6 (fun z => by omega) (fun _ => ?_) rfl rfl (by omega) (by omega)
      rw [show nI m6 - (20 : Int32) = nI (m6 - 20) from pk_sub (b := 20) (by omega)]
      exact answ 3 4 (m6 - 20) (by decide) (by decide) (by omega) M26 L27 f26 k26 r31 r32 r33 r35 o26 h
    · rw [cI_f c9] at h
      refine ⟨True, fun _ => ?_, ?_⟩
      rotate_left
      · refine bz (fun _ => trivial) (fun c10 => ?_)
        exact pk_le (40 + cI (fg4 g 0) 8 0 + b.length) m6 (fun _ => trivial) (fun z => absurd ⟨c10, z⟩ c9) rfl rfl (by omega) (by omega)
      refine ⟨fun v => v = bI (sp6 g b.length), ?_, ?_⟩
      rotate_left
      · by_cases c : sp6 g b.length
        · rw [bI_t c]
          refine ⟨False, False.elim, ?_⟩
          refine zb (fun _ => ?_) (fun z => c.1 z)
          exact ql (40 + cI (fg4 g 0) 8 0 + b.length) _ (fun z => by have := c.2; omega) (fun _ => rfl) rfl (by omega) (by omega)
        · rw [bI_f c]
          refine ⟨True, fun _ => rfl, ?_⟩
          refine zb (fun c10 => ?_) (fun _ => trivial)
          exact ql (40 + cI (fg4 g 0) 8 0 + b.length) _ (fun _ => trivial) (fun z => (c ⟨c10, z⟩).elim) rfl (by omega) (by omega)
      rintro _ rfl
      refine ⟨fun v => v = nI (cI (sp6 g b.length) 1232 b.length), ?_, ?_⟩
      rotate_left
      · exact bz (fun c => by rw [cI_f c]) (fun c => by rw [cI_t c]; rfl)
      rintro _ rfl
      refine (d_loop6 (H := H) (Lo := Lo) (B := B) b kp hg26 ((f26.2 11 (by decide)).trans kp11) r33 r34 r35 r27 r28 r29 r30 o26 b26 r24 hbl c4 (fun M' f' e' o' => ?_) rfl rfl rfl rfl : wp_loop6 M26 L27 (nI (g 8)) (bI (fg4 g 0)) (bI (sp6 g b.length)) (nI (cI (sp6 g b.length) 1232 b.length)) Z)
      refine h M' L27 (fz_t (fz_t (fz_s f11 (by decide) (by decide)) (fz_s f26 (by decide) (by decide))) (fz_s f' (by decide) (by decide))) (fL_t k12' k26) ?_ ?_ o'
      · rw [f'.2 2 (by decide), f26.2 2 (by decide)]; exact t11
      · rw [e', f26.1 2 (by decide), u11]
  · have hbody : ¬ g 9 = 1 → f4 g lt = 0 ∧ by4 g H Lo B kp m4 m6 = (0, bd4 g (iw H Lo B (sr4 g 0) (tg4 g 0))) := fun z => ⟨by rw [ef, cI_f (fun y => z y.1)], cI_f (fun y => z y.1)⟩
    refine qen (g 9) _ (fun c9 => ?_) (fun c9 => ?_) rfl (by omega) (by omega)
    · have hi0 : of4 g 0 = 0 ∧ ¬ mf4 g 0 := ⟨Classical.byContradiction (fun z => c6 ⟨c9, Or.inr z⟩), fun z => c6 ⟨c9, Or.inl z⟩⟩
      have h8l := h8 hi0.1 (Or.inr (Or.inl c9))
      refine d_toSix n m4 m6 kp (by rw [g25.1 1 (by decide)]; exact hg11) (by rw [g25.1 1 (by decide)]; exact hB11) hf hn h8l c9 hi0 (mapR_f hm11 g25 (fL_r L12 []) (by decide) (by decide) (by decide)) ((g25.2 11 (by decide)).trans kp11) o25 l4 l6 ((g25.2 9 (by decide)).trans ((f11.2 9 (by decide)).trans e4)) ((g25.2 10 (by decide)).trans ((f11.2 10 (by decide)).trans e6)) b25 q24 q31 q32 q33 q34 q35 k27 k28 k29 k30 (fun ce M' L' f' k' o' b' s24 s31 s32 s33 s34 s35 s27 s28 s29 s30 => ?_) (fun ce cr => ?_) (fun cr hb0 M' L' f' k' o' b' s24 s31 s32 s33 s34 s35 s27 s28 s29 s30 => ?_) (fun cr hb0 M' L' f' k' => ?_) rfl
      · have hne : ¬ (g 9 = 1 ∧ er4 (g (hl4 g 0))) := fun z => by have h1 := z.2; unfold er4 at h1; unfold ec4 at ce; omega
        have eb : by4 g H Lo B kp m4 m6 = (0, bd4 g (iw H Lo B (sr4 g 0) (tg4 g 0))) := cI_f hne
        have hf0 : f4 g lt = 0 := by rw [ef, cI_f (fun z => z.2 (Or.inl ce))]
        have ebd : bd4 g (iw H Lo B (sr4 g 0) (tg4 g 0)) = fxE6 (seg g (hl4 g 0) (tl4 g 0 - hl4 g 0)) 0 (tl4 g 0 - hl4 g 0) (iw H Lo B (sr4 g 0) (tg4 g 0)) := cI_t c9
        refine ⟨fun _ => ⟨hf0, by rw [eb], fz_t f25 f', k', o', by rw [eb, ebd]; exact b', by rw [eb, bd4_len hf0]; exact s24, s31, s32, s33, s34, s35, s27, s28, s29, s30⟩, fun z => absurd (by decide) z⟩
      · have e : f4 g lt = 6 := by rw [ef, cI_t ⟨c9, fun z => z.elim ce cr⟩]
        rw [e, cI_f (by decide)] at h
        exact ⟨fun z => absurd z (by decide), fun _ => drop 6 (by decide) (by decide) M25 L12 f25 (fL_r _ _) h⟩
      · have eb : by4 g H Lo B kp m4 m6 = be4 g H Lo B kp m4 m6 := cI_t ⟨c9, cr⟩
        have hf0 : f4 g lt = 0 := by rw [ef, cI_f (fun z => z.2 (Or.inr cr))]
        refine ⟨fun _ => ⟨hf0, by rw [eb]; exact hb0, fz_t f25 f', k', o', by rw [eb]; exact b', by rw [eb]; exact s24, s31, s32, s33, s34, s35, s27, s28, s29, s30⟩, fun z => absurd (by decide) z⟩
      · have eb : by4 g H Lo B kp m4 m6 = be4 g H Lo B kp m4 m6 := cI_t ⟨c9, cr⟩
        have hf0 : f4 g lt = 0 := by rw [ef, cI_f (fun z => z.2 (Or.inr cr))]
        have hbl := be4_le g H Lo B kp m4 m6
        rw [cI_t hf0, eb, cI_f hb0] at h
        refine ql (be4 g H Lo B kp m4 m6).1 _ (fun z => absurd (Nat.le_zero.mp z) hb0) (fun z => ?_) rfl (by omega) (by omega)
        exact drop _ z (by omega) M' L' (fz_t f25 f') k' h
    · obtain ⟨hf0, eb⟩ := hbody c9
      have ebd : bd4 g (iw H Lo B (sr4 g 0) (tg4 g 0)) = cI (g 9 = 17 ∧ of4 g 0 = 0 ∧ wd8 g (hl4 g 0 + 6) = 0) (spl (seg g (hl4 g 0) (tl4 g 0 - hl4 g 0)) 6 (bys 2 (fxv 17 (65535 - fo (iw H Lo B (sr4 g 0) (tg4 g 0) + (tl4 g 0 - hl4 g 0) + 17 + sm8 g (hl4 g 0) (tl4 g 0 - hl4 g 0)))))) (fxT (seg g (hl4 g 0) (tl4 g 0 - hl4 g 0)) (g 9) (of4 g 0) (tl4 g 0 - hl4 g 0) 0 (sm8 g 12 8) 4 (iw H Lo B (sr4 g 0) (tg4 g 0))) := cI_f c9
      have hbdl := bd4_len (W := iw H Lo B (sr4 g 0) (tg4 g 0)) hf0
      have same : bd4 g (iw H Lo B (sr4 g 0) (tg4 g 0)) = seg g (hl4 g 0) (tl4 g 0 - hl4 g 0) → f4 g lt = 0 ∧ (by4 g H Lo B kp m4 m6).1 = 0 ∧ fz M11 M25 [0, 3, 5] [20, 24, 25, 26, 31, 32, 33, 34, 35, 37, 38, 39] ∧ fL L12 L12 [15, 16, 18, 27, 28, 29, 30] ∧ outR M25 [] ∧ holds (M25 5) 0 (by4 g H Lo B kp m4 m6).2 ∧ M25 0 24 = nI (by4 g H Lo B kp m4 m6).2.length ∧ M25 0 31 = nI (hl4 g 0) ∧ M25 0 32 = nI (tl4 g 0) ∧ M25 0 33 = nI (of4 g 0 * 8) ∧ M25 0 34 = bI (mf4 g 0) ∧ M25 0 35 = nI (g 9) ∧ L12 0 27 = upA H B (sr4 g 0) ∧ L12 0 28 = loA Lo B (sr4 g 0) ∧ L12 0 29 = upA H B (tg4 g 0) ∧ L12 0 30 = loA Lo B (tg4 g 0) := fun e => ⟨hf0, by rw [eb], f25, fL_r _ _, o25, by rw [eb, e]; exact b25, by rw [eb, hbdl]; exact q24, q31, q32, q33, q34, q35, k27, k28, k29, k30⟩
      have next : ∀ M' L', fr M25 M' [5] → fL L12 L' [18] → holds (M' 5) 0 (bd4 g (iw H Lo B (sr4 g 0) (tg4 g 0))) → f4 g lt = 0 ∧ (by4 g H Lo B kp m4 m6).1 = 0 ∧ fz M11 M' [0, 3, 5] [20, 24, 25, 26, 31, 32, 33, 34, 35, 37, 38, 39] ∧ fL L12 L' [15, 16, 18, 27, 28, 29, 30] ∧ outR M' [] ∧ holds (M' 5) 0 (by4 g H Lo B kp m4 m6).2 ∧ M' 0 24 = nI (by4 g H Lo B kp m4 m6).2.length ∧ M' 0 31 = nI (hl4 g 0) ∧ M' 0 32 = nI (tl4 g 0) ∧ M' 0 33 = nI (of4 g 0 * 8) ∧ M' 0 34 = bI (mf4 g 0) ∧ M' 0 35 = nI (g 9) ∧ L' 0 27 = upA H B (sr4 g 0) ∧ L' 0 28 = loA Lo B (sr4 g 0) ∧ L' 0 29 = upA H B (tg4 g 0) ∧ L' 0 30 = loA Lo B (tg4 g 0) := by
        intro M' L' f' k' b'
        have e0 : M' 0 = M25 0 := f' 0 (by decide)
        have fz' : fz M25 M' [5] [] := ⟨f', fun j _ => by rw [e0]⟩
        exact ⟨hf0, by rw [eb], fz_t f25 (fz_s fz' (by decide) (by decide)), fL_s k' (by decide), outR_f o25 fz' (by decide) (by decide) (by decide) (by decide), by rw [eb]; exact b', by rw [eb, hbdl, e0]; exact q24, by rw [e0]; exact q31, by rw [e0]; exact q32, by rw [e0]; exact q33, by rw [e0]; exact q34, by rw [e0]; exact q35, (k'.2 27 (by decide)).trans k27, (k'.2 28 (by decide)).trans k28, (k'.2 29 (by decide)).trans k29, (k'.2 30 (by decide)).trans k30⟩
      refine qen (of4 g 0 * 8) _ (fun c10 => ?_) (fun c10 => same ?_) rfl (by omega) (by omega)
      rotate_left
      · rw [ebd, cI_f (fun z => by have := z.2.1; omega)]
        exact cI_f (fun z => by have := z.2.1; omega)
      have of0 : of4 g 0 = 0 := by omega
      by_cases c11 : g 9 = 17 ∨ g 9 = 6
      rotate_left
      · refine ⟨False, False.elim, ?_⟩
        refine qe (g 9) _ (fun z => by omega) (fun _ => ?_) rfl (by omega) (by omega)
        refine qen (g 9) _ (fun z => by omega) (fun _ => same ?_) rfl (by omega) (by omega)
        rw [ebd, cI_f (fun z => by have := z.1; omega)]
        exact cI_f (fun z => c11 z.1)
      have h8l := f4_8 hf0 of0 (by omega)
      refine ⟨True, fun _ => ?_, ?_⟩
      rotate_left
      · refine qe (g 9) _ (fun _ => trivial) (fun _ => ?_) rfl (by omega) (by omega)
        exact qen (g 9) _ (fun _ => trivial) (fun z => by omega) rfl (by omega) (by omega)
      refine zb (fun c12 => ?_) (fun c12 => ?_)
      · refine d_sumAt (g 9) ?_ hb9 rfl
        have hfp : fxp (g 9) + 2 ≤ tl4 g 0 - hl4 g 0 := by
          unfold fxp
          rcases c11 with z | z
          · rw [if_pos z]; omega
          · rw [if_neg (by omega)]; have := h8l.2 z; omega
        have hlw : lw (seg g (hl4 g 0) (tl4 g 0 - hl4 g 0)) (fxp (g 9)) = wd8 g (hl4 g 0 + fxp (g 9)) := seg_lw (by omega)
        have hnz : ¬ (g 9 = 17 ∧ lw (seg g (hl4 g 0) (tl4 g 0 - hl4 g 0)) (0 + fxp (g 9)) = 0) := by
          intro z
          have hz := z.2
          rw [Nat.zero_add, hlw, show fxp (g 9) = 6 from if_pos z.1] at hz
          exact c12 ⟨z.1, of0, hz⟩
        have ebd2 : bd4 g (iw H Lo B (sr4 g 0) (tg4 g 0)) = spl (seg g (hl4 g 0) (tl4 g 0 - hl4 g 0)) (fxp (g 9)) (bys 2 (fxv (g 9) (adj (lw (seg g (hl4 g 0) (tl4 g 0 - hl4 g 0)) (fxp (g 9))) (sm8 g 12 8) 4 (iw H Lo B (sr4 g 0) (tg4 g 0))))) := by
          rw [ebd, cI_f c12]
          unfold fxT
          rw [cI_t ⟨c11, of0, hfp, hnz⟩, Nat.zero_add]
        refine r_adjust 0 (g 9) (fxp (g 9)) (sr4 g 0) (tg4 g 0) (uN (upA H B (sr4 g 0))) (uN (loA Lo B (sr4 g 0))) (uN (upA H B (tg4 g 0))) (uN (loA Lo B (tg4 g 0))) (sm8 g 12 8) 4 (iw H Lo B (sr4 g 0) (tg4 g 0)) True b25 (by rw [hsl]; omega) (by rw [hsl]; omega) hb9 q25 q26 hs ht (by rw [k27]) (by rw [k28]) (by rw [k29]) (by rw [k30]) (Or.inl ⟨trivial, sm8_w2 hgb 12, rfl, rfl⟩) (fun M' L' f' k' b' => next M' L' f' k' (by rw [ebd2]; exact b')) (by rw [Nat.zero_add]) rfl (bI_t trivial).symm
      · rintro _ rfl
        refine r_pseudo0 0 (uN (upA H B (sr4 g 0))) (uN (loA Lo B (sr4 g 0))) (uN (upA H B (tg4 g 0))) (uN (loA Lo B (tg4 g 0))) (tl4 g 0 - hl4 g 0) 17 (fun L78 s78 e78 => ?_) rfl (by rw [← k27]; rfl) (by rw [← k28]; rfl) (by rw [← k29]; rfl) (by rw [← k30]; rfl) (by omega) (by omega) rfl rfl rfl
        refine r_words_5 0 (tl4 g 0 - hl4 g 0) _ (fun L79 s79 e79 => ?_) e78 (by omega) (by omega) rfl q24
        have s1 := sm8_holds b25 (n := 5000) (by rw [hsl]; omega)
        rw [hsl, seg_lsm] at s1
        rw [Nat.sub_zero, s1, w2_sm (show tl4 g 0 - hl4 g 0 < 65536 by omega), w2_sm (show 17 < 65536 by decide), Nat.zero_add] at e79
        refine r_checksum _ ?_ e79
        have hcl : 65535 - fo (iw H Lo B (sr4 g 0) (tg4 g 0) + (tl4 g 0 - hl4 g 0) + 17 + sm8 g (hl4 g 0) (tl4 g 0 - hl4 g 0)) < 65536 := by omega
        rw [cI_t c12] at ebd
        change ∃ K428 : Int32 → Prop, _
        have ecc : (w4 (uN (upA H B (sr4 g 0))) + w4 (uN (loA Lo B (sr4 g 0))) + w4 (uN (upA H B (tg4 g 0))) + w4 (uN (loA Lo B (tg4 g 0))) + (tl4 g 0 - hl4 g 0) + 17 + sm8 g (hl4 g 0) (tl4 g 0 - hl4 g 0)) = iw H Lo B (sr4 g 0) (tg4 g 0) + (tl4 g 0 - hl4 g 0) + 17 + sm8 g (hl4 g 0) (tl4 g 0 - hl4 g 0) := rfl
        rw [ecc]
        generalize 65535 - fo (iw H Lo B (sr4 g 0) (tg4 g 0) + (tl4 g 0 - hl4 g 0) + 17 + sm8 g (hl4 g 0) (tl4 g 0 - hl4 g 0)) = cc at ebd hcl ⊢
        refine ⟨fun v => v = nI (fxv 17 cc), ?_, ?_⟩
        · rintro _ rfl
          refine r_putTwo_5 6 (fxv 17 cc) (fun M82 w82 => ?_) rfl (by omega) rfl
          have w82' : wr M25 M82 5 (0 + 6) (bys 2 (fxv 17 cc)) := w82
          refine next M82 L79 (wr_fr w82 (by decide)) (sF_fL (sF_t (sF_0 _ _) (sF_t s78 s79)) (by decide)) ?_
          rw [ebd]
          exact holds_put b25 w82' (by rw [hsl]; omega)
        · refine qen cc _ (fun c13 => ?_) (fun c13 => ?_) rfl (by omega) (by omega)
          · rw [show fxv 17 cc = 65535 from cI_t ⟨rfl, c13⟩]; rfl
          · rw [show fxv 17 cc = cc from cI_f (fun z => c13 z.2)]
