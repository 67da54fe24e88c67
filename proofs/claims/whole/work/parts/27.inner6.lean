/-! the reference carries an inner packet of IPv4 over -/
theorem w2_num {g : Nat → Nat} (hg : ∀ i, g i < 256) (k : Nat) : w2 (num8 g k 4) = wd8 g k + wd8 g (k + 2) := by
  have h1 := wd8_lt hg k
  have h2 := wd8_lt hg (k + 2)
  rw [num8_4]
  unfold w2
  omega
theorem sm8_w2 {g : Nat → Nat} (hg : ∀ i, g i < 256) (k : Nat) : sm8 g k 8 = w2 (num8 g k 4) + w2 (num8 g (k + 4) 4) := by
  rw [w2_num hg, w2_num hg]
  simp [sm8, wd8, Nat.add_assoc]
theorem seg_all {f : Nat → Int32} {l : List Nat} {a n k : Nat} (h : holds f a l) (hn : a + l.length ≤ n) (hk : k = l.length) : seg (at8 f n) a k = l := by
  have := seg_holds h hn (i := 0) (k := k) (by omega)
  rw [Nat.add_zero, List.drop_zero, hk, List.take_length] at this
  rw [hk]; exact this
theorem outR_nil {M M' : cM} {S T : List Nat} (h : outR M []) (f : fz M M' S T) (e4 : 4 ∉ S) (e22 : 22 ∉ T) (e20 : M' 0 20 = 0) : outR M' [] := by
  refine ⟨(f.2 22 e22).trans h.1, e20, fun i hi => ?_, trivial⟩
  rw [f.1 4 e4]; exact h.2.2.1 i hi
theorem d_innerToSix {M : cM} {L : cL} {x y : Int32} {Z : Int32 → cM → cL → Prop} {g : Nat → Nat} {H Lo : Int64} {B : Nat} (a e : Nat) (kp : Prop) (hg : at8 (M 1) 2400 = g) (hBy : ∀ j, isBy (M 1 j)) (ha : 28 ≤ a) (hae : a ≤ e) (he : e ≤ 2400) (hm : mapR M L H Lo B) (hk : M 0 11 = bI kp) (ho : outR M [])
    (h0 : ¬ (rd4 g a e ∧ in4 g H Lo B a e) → ∀ M' L', fz M M' [0, 3, 5] [20, 24, 25, 26, 31, 32, 33, 34, 35] → fL L L' [15, 16, 18, 27, 28, 29, 30] → outR M' [] → Z 0 M' L')
    (h1 : rd4 g a e → in4 g H Lo B a e → ∀ M' L', fz M M' [0, 3, 5] [20, 24, 25, 26, 31, 32, 33, 34, 35] → fL L L' [15, 16, 18, 27, 28, 29, 30] → outR M' [] → holds (M' 5) 8 (il6 g H Lo B kp a e) → M' 0 24 = nI (8 + (40 + cI (fg4 g a) 8 0 + th4 g a e)) → Z 1 M' L') (hx : x = nI a) (hy : y = nI (e - a)) : wp_X7_innerToSix_0 M L x y Z := by
  subst hx hy
  have hgb : ∀ i, g i < 256 := fun i => by rw [← hg]; exact at8_lt _ _ _
  have hhl : hl4 g a ≤ 60 := hl4_le a
  have htl : tl4 g a < 65536 := wd8_lt hgb _
  have ho4 : of4 g a < 8192 := Nat.mod_lt _ (by decide)
  have hs : sr4 g a < 4294967296 := num4_lt hgb _
  have ht : tg4 g a < 4294967296 := num4_lt hgb _
  have hb9 := hgb (a + 9)
  have hb0 := hgb a
  have o20 : M 0 20 = nI 0 := ho.2.1
  unfold wp_X7_innerToSix_0
  refine qs (e - a) _ (fun c => h0 (fun z => by have := z.1.1; omega) _ _ (fz_r _ _ _) (fL_r _ _) ho) (fun c1 => ?_) rfl (by omega) (by omega)
  refine d_oct a hg ?_ (by omega) rfl
  rw [nI_sr4 (by omega)]
  refine qe (g a / 16) _ (fun c2 => ?_) (fun c => h0 (fun z => c z.1.2.2.1) _ _ (fz_r _ _ _) (fL_r _ _) ho) rfl (by omega) (by omega)
  refine d_header4 a hg (fun M4 f4 e31 e32 e33 e34 e35 => ?_) (by omega) rfl
  have f4' : fz M M4 [0, 3, 5] [20, 24, 25, 26, 31, 32, 33, 34, 35] := fz_s f4 (by decide) (by decide)
  have q20 : M4 0 20 = nI 0 := (f4.2 20 (by decide)).trans o20
  have o4 : outR M4 [] := outR_nil ho f4 (by decide) (by decide) q20
  refine qs (hl4 g a) _ (fun c => h0 (fun z => by have := z.1.2.2.2.1; omega) _ _ f4' (fL_r _ _) o4) (fun c3 => ?_) e31 (by omega) (by omega)
  refine pk_lt (e - a) (hl4 g a) (fun c => h0 (fun z => by have := z.1.2.1; omega) _ _ f4' (fL_r _ _) o4) (fun c4 => ?_) rfl e31 (by omega) (by omega)
  refine pk_lt (tl4 g a) (hl4 g a) (fun c => h0 (fun z => by have := z.1.2.2.2.2; omega) _ _ f4' (fL_r _ _) o4) (fun c5 => ?_) e32 e31 (by omega) (by omega)
  have hrd : rd4 g a e := ⟨by omega, by omega, c2, c3, c5⟩
  have hg4 : at8 (M4 1) 2400 = g := by rw [f4.1 1 (by decide)]; exact hg
  refine d_int (a + 12) hg4 ?_ (by omega) (nI_add _ 12)
  refine d_int (a + 16) hg4 ?_ (by omega) (nI_add _ 16)
  refine d_imagesOf (H := H) (Lo := Lo) (B := B) (sr4 g a) (tg4 g a) hs ht (mapR_f hm f4 (fL_r L []) (by decide) (by decide) (by decide)) (fun L12 k12 e27 e28 e29 e30 => ?_) rfl rfl
  have k12' : fL L L12 [15, 16, 18, 27, 28, 29, 30] := fL_s k12 (by decide)
  have f11 : fz M (mu (mu M4 0 25 (nI (sr4 g a))) 0 26 (nI (tg4 g a))) [0, 3, 5] [20, 24, 25, 26, 31, 32, 33, 34, 35] := fz_t (fz_t f4' (mu_fz0 _ _ _ (by decide) (by decide))) (mu_fz0 _ _ _ (by decide) (by decide))
  have p20 : mu (mu M4 0 25 (nI (sr4 g a))) 0 26 (nI (tg4 g a)) 0 20 = nI 0 := q20
  have p25 : mu (mu M4 0 25 (nI (sr4 g a))) 0 26 (nI (tg4 g a)) 0 25 = nI (sr4 g a) := rfl
  have p26 : mu (mu M4 0 25 (nI (sr4 g a))) 0 26 (nI (tg4 g a)) 0 26 = nI (tg4 g a) := rfl
  have p31 : mu (mu M4 0 25 (nI (sr4 g a))) 0 26 (nI (tg4 g a)) 0 31 = nI (hl4 g a) := e31
  have p32 : mu (mu M4 0 25 (nI (sr4 g a))) 0 26 (nI (tg4 g a)) 0 32 = nI (tl4 g a) := e32
  have p33 : mu (mu M4 0 25 (nI (sr4 g a))) 0 26 (nI (tg4 g a)) 0 33 = nI (of4 g a * 8) := e33
  have p34 : mu (mu M4 0 25 (nI (sr4 g a))) 0 26 (nI (tg4 g a)) 0 34 = bI (mf4 g a) := e34
  have p35 : mu (mu M4 0 25 (nI (sr4 g a))) 0 26 (nI (tg4 g a)) 0 35 = nI (g (a + 9)) := e35
  generalize mu (mu M4 0 25 (nI (sr4 g a))) 0 26 (nI (tg4 g a)) = M11 at f11 p20 p25 p26 p31 p32 p33 p34 p35 ⊢
  have o11 : outR M11 [] := outR_nil ho f11 (by decide) (by decide) p20
  have hg11 : at8 (M11 1) 2400 = g := by rw [f11.1 1 (by decide)]; exact hg
  have hB11 : ∀ j, isBy (M11 1 j) := by rw [f11.1 1 (by decide)]; exact hBy
  refine bz (fun c => h0 (fun z => c ⟨z.2.1, z.2.2.1⟩) _ _ f11 k12' o11) (fun c6 => ?_)
  rw [p35]
  refine r_barred4 (g (a + 9)) ?_ hb9 rfl
  refine bz (fun c7 => ?_) (fun c => h0 (fun z => z.2.2.2.1 c) _ _ f11 k12' o11)
  have hth := th4_le hrd.2.1
  refine ⟨fun v => v = nI (hl4 g a + th4 g a e), ?_, ?_⟩
  · rintro _ rfl
    rw [p31, show nI (hl4 g a + th4 g a e) - nI (hl4 g a) = nI (th4 g a e) from by rw [pk_sub (by omega)]; congr 1; omega]
    rintro _ rfl
    refine ⟨fun v => v = bI (fg4 g a), ?_, ?_⟩
    · rintro _ rfl
      by_cases hi : g (a + 9) = 1 → ¬ fg4 g a ∧ 4 ≤ th4 g a e ∧ ec4 (g (a + hl4 g a))
      · have hin : in4 g H Lo B a e := ⟨c6.1, c6.2, c7, hi⟩
        refine ⟨True, fun _ => ?_, ?_⟩
        · have h8 := cI_8 (fg4 g a)
          refine ⟨fun v => v = nI (40 + cI (fg4 g a) 8 0), ?_, ?_⟩
          · rintro _ rfl
            rw [p20]
            rintro _ rfl
            refine r_more 0 (40 + cI (fg4 g a) 8 0) (fun M21 w21 => ?_) p20 (by omega) rfl
            rw [Nat.zero_add]
            have f22 : fz M (mu M21 0 20 (nI (40 + cI (fg4 g a) 8 0))) [0, 3, 5] [20, 24, 25, 26, 31, 32, 33, 34, 35] := fz_t (fz_t f11 (wr_fz w21 (by decide) (by decide))) (mu_fz0 _ _ _ (by decide) (by decide))
            have z22 : holds (mu M21 0 20 (nI (40 + cI (fg4 g a) 8 0)) 3) 0 (zs (40 + cI (fg4 g a) 8 0 + 0)) := w21.2.2
            have g22 : fz M11 (mu M21 0 20 (nI (40 + cI (fg4 g a) 8 0))) [0, 3] [20] := fz_t (wr_fz w21 (by decide) (by decide)) (mu_fz0 _ _ _ (by decide) (by decide))
            generalize mu M21 0 20 (nI (40 + cI (fg4 g a) 8 0)) = M22 at f22 z22 g22 ⊢
            have hg22 : at8 (M22 1) 2400 = g := by rw [f22.1 1 (by decide)]; exact hg
            refine d_oct (a + 1) hg22 ?_ (by omega) (nI_add _ 1)
            refine d_oct (a + 8) hg22 ?_ (by omega) (nI_add _ 8)
            refine d_two (a + 4) hg22 ?_ (by omega) (nI_add _ 4)
            rw [(g22.2 31 (by decide)).trans p31, (g22.2 32 (by decide)).trans p32, (g22.2 33 (by decide)).trans p33, (g22.2 34 (by decide)).trans p34]
            refine d_head6 0 (g (a + 1)) (cI (fg4 g a) 8 0 + (tl4 g a - hl4 g a)) (g (a + 9)) (g (a + 8)) (uN (upA H B (sr4 g a))) (uN (loA Lo B (sr4 g a))) (uN (upA H B (tg4 g a))) (uN (loA Lo B (tg4 g a))) (of4 g a) (wd8 g (a + 4)) 0 kp (fg4 g a) (mf4 g a) (by rw [f22.2 11 (by decide)]; exact hk) ((g22.2 35 (by decide)).trans p35) hb9 (hgb _) (by omega) (hgb _) (by rw [e27]) (by rw [e28]) (by rw [e29]) (by rw [e30]) z22 (by omega) (fun M26 w26 => ?_) rfl rfl (by rw [show (40 : Int32) = nI 40 from rfl, pk_sub (by omega), nI_add, pk_sub (by omega)]; congr 1; omega) rfl rfl rfl rfl rfl
            rw [show zs 0 = [] from rfl, List.append_nil] at w26
            have w26' : wr M22 M26 3 0 (ih6 g H Lo B kp a e) := w26
            have ihl := ih6_len g H Lo B kp a e
            refine ⟨fun x M28 => ∃ i, i ≤ 40 + cI (fg4 g a) 8 0 ∧ x = nI i ∧ wr M26 M28 5 8 (seg (at8 (M26 3) 16000) 0 i), fun x _ => 40 + cI (fg4 g a) 8 0 - x.toNatClampNeg, ⟨0, Nat.zero_le _, rfl, wr_nil _ _ _⟩, ?_⟩
            rintro _ M28 ⟨i, hi', rfl, w28⟩
            refine pk_le (40 + cI (fg4 g a) 8 0) i (fun ci => ?_) (fun ci => ?_) rfl rfl (by omega) (by omega)
            · have ei : i = 40 + cI (fg4 g a) 8 0 := by omega
              subst ei
              rw [seg_all w26'.2.2 (by rw [ihl]; omega) ihl.symm] at w28
              rintro _ rfl
              have b28 : holds (mu M28 0 20 (nI 0) 5) 8 (ih6 g H Lo B kp a e) := w28.2.2
              have f30 : fz M (mu M28 0 20 (nI 0)) [0, 3, 5] [20, 24, 25, 26, 31, 32, 33, 34, 35] := fz_t (fz_t (fz_t f22 (wr_fz w26' (by decide) (by decide))) (wr_fz w28 (by decide) (by decide))) (mu_fz0 _ _ _ (by decide) (by decide))
              have g30 : fz M11 (mu M28 0 20 (nI 0)) [0, 3, 5] [20] := fz_t (fz_t (fz_t (fz_s g22 (by decide) (by decide)) (wr_fz w26' (by decide) (by decide))) (wr_fz w28 (by decide) (by decide))) (mu_fz0 _ _ _ (by decide) (by decide))
              have s20 : mu M28 0 20 (nI 0) 0 20 = 0 := rfl
              generalize mu M28 0 20 (nI 0) = M30 at b28 f30 g30 s20 ⊢
              have hg30 : at8 (M30 1) 2400 = g := by rw [f30.1 1 (by decide)]; exact hg
              refine ⟨fun x M32 => ∃ i, i ≤ th4 g a e ∧ x = nI i ∧ wr M30 M32 5 (48 + cI (fg4 g a) 8 0) (seg (at8 (M30 1) 2400) (a + hl4 g a) i), fun x _ => th4 g a e - x.toNatClampNeg, ⟨0, Nat.zero_le _, rfl, wr_nil _ _ _⟩, ?_⟩
              rintro _ M32 ⟨j, hj, rfl, w32⟩
              have r31 : M32 0 31 = nI (hl4 g a) := by rw [w32.1 0 (by decide)]; exact (g30.2 31 (by decide)).trans p31
              refine pk_le (th4 g a e) j (fun cj => ?_) (fun cj => ?_) rfl rfl (by omega) (by omega)
              · have ej : j = th4 g a e := by omega
                subst ej
                rw [hg30] at w32
                have e24 : (8 : Int32) + nI (40 + cI (fg4 g a) 8 0) + nI (th4 g a e) = nI (8 + (40 + cI (fg4 g a) 8 0 + th4 g a e)) := by
                  rw [show (8 : Int32) = nI 8 from rfl, nI_add, nI_add, Nat.add_assoc]
                rw [e24]
                rintro _ rfl
                have b32 : holds (mu M32 0 24 (nI (8 + (40 + cI (fg4 g a) 8 0 + th4 g a e))) 5) 8 (i06 g H Lo B kp a e) := by
                  show holds (M32 5) 8 (ih6 g H Lo B kp a e ++ seg g (a + hl4 g a) (th4 g a e))
                  rw [holds_app, ihl]
                  refine ⟨wr_keep w32 b28 (Or.inl (by rw [ihl]; omega)), ?_⟩
                  rw [show 8 + (40 + cI (fg4 g a) 8 0) = 48 + cI (fg4 g a) 8 0 by omega]
                  exact w32.2.2
                have f34 : fz M (mu M32 0 24 (nI (8 + (40 + cI (fg4 g a) 8 0 + th4 g a e)))) [0, 3, 5] [20, 24, 25, 26, 31, 32, 33, 34, 35] := fz_t (fz_t f30 (wr_fz w32 (by decide) (by decide))) (mu_fz0 _ _ _ (by decide) (by decide))
                have g34 : fz M11 (mu M32 0 24 (nI (8 + (40 + cI (fg4 g a) 8 0 + th4 g a e)))) [0, 3, 5] [20, 24] := fz_t (fz_t (fz_s g30 (by decide) (by decide)) (wr_fz w32 (by decide) (by decide))) (mu_fz0 _ _ _ (by decide) (by decide))
                have s24 : mu M32 0 24 (nI (8 + (40 + cI (fg4 g a) 8 0 + th4 g a e))) 0 24 = nI (8 + (40 + cI (fg4 g a) 8 0 + th4 g a e)) := rfl
                have t20 : mu M32 0 24 (nI (8 + (40 + cI (fg4 g a) 8 0 + th4 g a e))) 0 20 = 0 := (by rw [w32.1 0 (by decide)]; exact s20 : M32 0 20 = 0)
                generalize mu M32 0 24 (nI (8 + (40 + cI (fg4 g a) 8 0 + th4 g a e))) = M34 at b32 f34 g34 s24 t20 ⊢
                have i0l := i06_len g H Lo B kp a e
                rw [(g34.2 31 (by decide)).trans p31, (g34.2 32 (by decide)).trans p32, (g34.2 33 (by decide)).trans p33]
                refine d_mend6 (g (a + 9)) (of4 g a) (th4 g a e) (tl4 g a - hl4 g a) 8 (40 + cI (fg4 g a) 8 0) (sr4 g a) (tg4 g a) (uN (upA H B (sr4 g a))) (uN (loA Lo B (sr4 g a))) (uN (upA H B (tg4 g a))) (uN (loA Lo B (tg4 g a))) (iw H Lo B (sr4 g a) (tg4 g a)) (sm8 g (a + 12) 8) b32 (by rw [i0l]; omega) (by rw [i0l]; omega) ((g34.2 35 (by decide)).trans p35) hb9 ho4 (by omega) ((g34.2 25 (by decide)).trans p25) ((g34.2 26 (by decide)).trans p26) hs ht (by rw [e27]) (by rw [e28]) (by rw [e29]) (by rw [e30]) rfl (sm8_w2 hgb _) (fun z => ⟨(hi z).2.1, Classical.byContradiction (fun y => (hi z).1 (Or.inr y))⟩) (fun M35 L36 f35 k36 b35 => ?_) (by rw [show (8 : Int32) = nI 8 from rfl, nI_add]) rfl (pk_sub c5) rfl rfl
                have f36 : fz M34 M35 [0, 3, 5] [] := ⟨fr_s f35 (by decide), fun j _ => by rw [f35 0 (by decide)]⟩
                have f37 : fz M M35 [0, 3, 5] [20, 24, 25, 26, 31, 32, 33, 34, 35] := fz_t f34 (fz_s f36 (by decide) (by decide))
                refine h1 hrd hin M35 L36 f37 (fL_t k12' (fL_s k36 (by decide))) (outR_nil ho f37 (by decide) (by decide) ?_) b35 ?_
                · rw [f35 0 (by decide)]; exact t20
                · rw [f35 0 (by decide)]; exact s24
              · rw [r31, show nI a + nI (hl4 g a) + nI j = nI (a + hl4 g a + j) from by rw [nI_add, nI_add], show (8 : Int32) + nI (40 + cI (fg4 g a) 8 0) + nI j = nI (48 + cI (fg4 g a) 8 0 + j) from by rw [show (8 : Int32) = nI 8 from rfl, nI_add, nI_add]; congr 1; omega, nI_clamp (by omega), nI_clamp (by omega)]
                refine ⟨vp_in_nI (by omega) (by decide), vp_in_nI (by omega) (by decide), ?_⟩
                rintro _ rfl _ rfl
                refine ⟨⟨j + 1, by omega, nI_1 _, cp_step w32 (by decide) (by omega)⟩, ?_⟩
                dsimp only
                rw [nI_1, nI_clamp (by omega), nI_clamp (by omega)]
                omega
            · rw [show nI 0 + nI i = nI (0 + i) from nI_add _ _, show (8 : Int32) + nI i = nI (8 + i) from nI_add 8 _, nI_clamp (by omega), nI_clamp (by omega)]
              refine ⟨vp_in_nI (by omega) (by decide), vp_in_nI (by omega) (by decide), ?_⟩
              rintro _ rfl _ rfl
              refine ⟨⟨i + 1, by omega, nI_1 _, cp_step w28 (by decide) (by omega)⟩, ?_⟩
              dsimp only
              rw [nI_1, nI_clamp (by omega), nI_clamp (by omega)]
              omega
          · exact bz (fun c => by rw [cI_f c]; rfl) (fun c => by rw [cI_t c]; rfl)
        · refine qen (g (a + 9)) _ (fun c8 => ?_) (fun _ => trivial) rfl (by omega) (by omega)
          obtain ⟨i1, i2, i3⟩ := hi c8
          refine zb (fun _ => ?_) (fun z => absurd z i1)
          refine qs (th4 g a e) _ (fun z => by omega) (fun _ => ?_) rfl (by omega) (by omega)
          rw [nI_add, nI_clamp (by omega)]
          have hv : vp_in (nI (a + hl4 g a)) 2400 := vp_in_nI (by omega) (by decide)
          have r8 : (M11 1 (a + hl4 g a) = 8) ↔ g (a + hl4 g a) = 8 := d_raw hg11 hB11 (by omega) (n := 8) (by decide)
          have r0 : (M11 1 (a + hl4 g a) = 0) ↔ g (a + hl4 g a) = 0 := d_raw hg11 hB11 (by omega) (n := 0) (by decide)
          rw [r8, r0]
          exact ⟨hv, fun _ => trivial, fun z8 => ⟨hv, fun _ => trivial, fun z0 => absurd i3 (fun y => y.elim z8 z0)⟩⟩
      · have hni : ¬ (rd4 g a e ∧ in4 g H Lo B a e) := fun z => hi z.2.2.2.2
        have hp1 : g (a + 9) = 1 := Classical.byContradiction (fun z => hi (fun y => absurd y z))
        refine ⟨False, False.elim, ?_⟩
        refine qen (g (a + 9)) _ (fun c8 => ?_) (fun z => absurd hp1 z) rfl (by omega) (by omega)
        refine zb (fun c9 => ?_) (fun _ => h0 hni _ _ f11 k12' o11)
        refine qs (th4 g a e) _ (fun _ => h0 hni _ _ f11 k12' o11) (fun c10 => ?_) rfl (by omega) (by omega)
        rw [nI_add, nI_clamp (by omega)]
        have hv : vp_in (nI (a + hl4 g a)) 2400 := vp_in_nI (by omega) (by decide)
        have r8 : (M11 1 (a + hl4 g a) = 8) ↔ g (a + hl4 g a) = 8 := d_raw hg11 hB11 (by omega) (n := 8) (by decide)
        have r0 : (M11 1 (a + hl4 g a) = 0) ↔ g (a + hl4 g a) = 0 := d_raw hg11 hB11 (by omega) (n := 0) (by decide)
        rw [r8, r0]
        exact ⟨hv, fun z8 => hi (fun _ => ⟨c9, c10, Or.inl z8⟩), fun z8 => ⟨hv, fun z0 => hi (fun _ => ⟨c9, c10, Or.inr z0⟩), fun _ => h0 hni _ _ f11 k12' o11⟩⟩
    · rw [p33, p34]
      by_cases c : fg4 g a
      · rw [bI_t c]
        refine ⟨True, fun _ => rfl, ?_⟩
        refine zb (fun c8 => ?_) (fun _ => trivial)
        refine ql (of4 g a * 8) _ (fun c9 => absurd c (fun z => z.elim c8 (fun y => y (by omega)))) (fun _ => trivial) rfl (by omega) (by omega)
      · rw [bI_f c]
        refine ⟨False, False.elim, ?_⟩
        refine zb (fun c8 => ?_) (fun c8 => c (Or.inl c8))
        refine ql (of4 g a * 8) _ (fun c9 => rfl) (fun c9 => (c (Or.inr (by omega))).elim) rfl (by omega) (by omega)
  · rw [p32]
    unfold th4
    refine pk_le (tl4 g a) (e - a) (fun c => ?_) (fun c => ?_) rfl rfl (by omega) (by omega)
    · refine congrArg nI ?_
      split <;> omega
    · refine congrArg nI ?_
      split <;> omega
/-! the reference carries a message of IPv4 over -/
theorem mg_e (k s : Nat) (il : List Nat) (hk : k < 65536) : bys 4 (k * 65536) ++ bys 4 s ++ il = bys 2 k ++ bys 2 0 ++ bys 4 s ++ il := by
  have e1 : bys 4 (k * 65536) = bys 2 k ++ bys 2 0 := by
    rw [bys_4, bys_2, bys_2, show k * 65536 / 16777216 % 256 = k / 256 % 256 by omega, show k * 65536 / 65536 % 256 = k % 256 by omega, show k * 65536 / 256 % 256 = 0 by omega, show k * 65536 % 256 = 0 by omega]
    rfl
  rw [e1]
theorem d_toSix {M : cM} {L : cL} {x : Int32} {Z : Int32 → cM → cL → Prop} {g : Nat → Nat} {H Lo : Int64} {B : Nat} (n m4 m6 : Nat) (kp : Prop) (hg : at8 (M 1) 2400 = g) (hBy : ∀ j, isBy (M 1 j)) (hf : form4 g n) (hn : n ≤ 2400) (h8l : 8 ≤ tl4 g 0 - hl4 g 0) (h1p : g 9 = 1) (hnf : of4 g 0 = 0 ∧ ¬ mf4 g 0) (hm : mapR M L H Lo B) (hk : M 0 11 = bI kp) (ho : outR M []) (l4 : m4 ≤ 2000) (l6 : m6 ≤ 2000) (e4 : M 0 9 = nI m4) (e6 : M 0 10 = nI m6) (hb : holds (M 5) 0 (seg g (hl4 g 0) (tl4 g 0 - hl4 g 0))) (hb24 : M 0 24 = nI (tl4 g 0 - hl4 g 0)) (h31 : M 0 31 = nI (hl4 g 0)) (h32 : M 0 32 = nI (tl4 g 0)) (h33 : M 0 33 = nI (of4 g 0 * 8)) (h34 : M 0 34 = bI (mf4 g 0)) (h35 : M 0 35 = nI (g 9)) (k27 : L 0 27 = upA H B (sr4 g 0)) (k28 : L 0 28 = loA Lo B (sr4 g 0)) (k29 : L 0 29 = upA H B (tg4 g 0)) (k30 : L 0 30 = loA Lo B (tg4 g 0))
    (hec : ec4 (g (hl4 g 0)) → ∀ M' L', fz M M' [0, 3, 5] [20, 24, 25, 26, 31, 32, 33, 34, 35, 37, 38, 39] → fL L L' [15, 16, 18, 27, 28, 29, 30] → outR M' [] → holds (M' 5) 0 (fxE6 (seg g (hl4 g 0) (tl4 g 0 - hl4 g 0)) 0 (tl4 g 0 - hl4 g 0) (iw H Lo B (sr4 g 0) (tg4 g 0))) → M' 0 24 = nI (tl4 g 0 - hl4 g 0) → M' 0 31 = nI (hl4 g 0) → M' 0 32 = nI (tl4 g 0) → M' 0 33 = nI (of4 g 0 * 8) → M' 0 34 = bI (mf4 g 0) → M' 0 35 = nI (g 9) → L' 0 27 = upA H B (sr4 g 0) → L' 0 28 = loA Lo B (sr4 g 0) → L' 0 29 = upA H B (tg4 g 0) → L' 0 30 = loA Lo B (tg4 g 0) → Z 0 M' L')
    (hno : ¬ ec4 (g (hl4 g 0)) → ¬ er4 (g (hl4 g 0)) → Z 6 M L)
    (her : er4 (g (hl4 g 0)) → (be4 g H Lo B kp m4 m6).1 = 0 → ∀ M' L', fz M M' [0, 3, 5] [20, 24, 25, 26, 31, 32, 33, 34, 35, 37, 38, 39] → fL L L' [15, 16, 18, 27, 28, 29, 30] → outR M' [] → holds (M' 5) 0 (be4 g H Lo B kp m4 m6).2 → M' 0 24 = nI (be4 g H Lo B kp m4 m6).2.length → M' 0 31 = nI (hl4 g 0) → M' 0 32 = nI (tl4 g 0) → M' 0 33 = nI (of4 g 0 * 8) → M' 0 34 = bI (mf4 g 0) → M' 0 35 = nI (g 9) → L' 0 27 = upA H B (sr4 g 0) → L' 0 28 = loA Lo B (sr4 g 0) → L' 0 29 = upA H B (tg4 g 0) → L' 0 30 = loA Lo B (tg4 g 0) → Z 0 M' L')
    (hdr : er4 (g (hl4 g 0)) → (be4 g H Lo B kp m4 m6).1 ≠ 0 → ∀ M' L', fz M M' [0, 3, 5] [20, 24, 25, 26, 31, 32, 33, 34, 35, 37, 38, 39] → fL L L' [15, 16, 18, 27, 28, 29, 30] → Z (nI (be4 g H Lo B kp m4 m6).1) M' L') (hx : x = nI (tl4 g 0 - hl4 g 0)) : wp_X7_toSix_0 M L x Z := by
  subst hx
  have hgb : ∀ i, g i < 256 := fun i => by rw [← hg]; exact at8_lt _ _ _
  have hhl : hl4 g 0 ≤ 60 := hl4_le 0
  have h20 := hf.1.2.2.2.1
  have hh := hf.1.2.2.2.2
  have hn2 := hf.2.1
  have hb0 := hgb (hl4 g 0)
  have hb1 := hgb (hl4 g 0 + 1)
  have hsl : (seg g (hl4 g 0) (tl4 g 0 - hl4 g 0)).length = tl4 g 0 - hl4 g 0 := seg_len _ _ _
  have a0 : at8 (M 5) 5000 0 = g (hl4 g 0) := by
    have := holds_at8 hb (n := 5000) (by rw [hsl]; omega) (k := 0) (by rw [hsl]; omega)
    rw [seg_lg (by omega)] at this
    exact this
  have a1 : at8 (M 5) 5000 1 = g (hl4 g 0 + 1) := by
    have := holds_at8 hb (n := 5000) (by rw [hsl]; omega) (k := 1) (by rw [hsl]; omega)
    rw [seg_lg (by omega)] at this
    exact this
  unfold wp_X7_toSix_0
  refine r_oct_5 0 ?_ (by omega) rfl
  rw [a0]
  by_cases ce : ec4 (g (hl4 g 0))
  · refine ⟨True, fun _ => ?_, ?_⟩
    · refine r_echo6 0 0 (tl4 g 0 - hl4 g 0) (uN (upA H B (sr4 g 0))) (uN (loA Lo B (sr4 g 0))) (uN (upA H B (tg4 g 0))) (uN (loA Lo B (tg4 g 0))) (iw H Lo B (sr4 g 0) (tg4 g 0)) hb (by rw [hsl]; omega) (by rw [hsl]; omega) (by omega) (by rw [k27]) (by rw [k28]) (by rw [k29]) (by rw [k30]) rfl (fun M1 L1 f1 s1 b1 => ?_) rfl rfl rfl
      have e0 : M1 0 = M 0 := f1 0 (by decide)
      have fz1 : fz M M1 [0, 3, 5] [20, 24, 25, 26, 31, 32, 33, 34, 35, 37, 38, 39] := ⟨fr_s f1 (by decide), fun j _ => by rw [e0]⟩
      refine hec ce M1 L1 fz1 (fL_s s1 (by decide)) (outR_nil ho fz1 (by decide) (by decide) (by rw [e0]; exact ho.2.1)) b1 (by rw [e0]; exact hb24) (by rw [e0]; exact h31) (by rw [e0]; exact h32) (by rw [e0]; exact h33) (by rw [e0]; exact h34) (by rw [e0]; exact h35) ((s1.2 27 (by decide)).trans k27) ((s1.2 28 (by decide)).trans k28) ((s1.2 29 (by decide)).trans k29) ((s1.2 30 (by decide)).trans k30)
    · refine qe (g (hl4 g 0)) _ (fun _ => trivial) (fun z8 => ?_) rfl (by omega) (by omega)
      exact qen (g (hl4 g 0)) _ (fun _ => trivial) (fun z0 => absurd ce (fun y => y.elim z8 z0)) rfl (by omega) (by omega)
  refine ⟨False, False.elim, ?_⟩
  refine qe (g (hl4 g 0)) _ (fun z => ce (Or.inl z)) (fun z8 => ?_) rfl (by omega) (by omega)
  refine qen (g (hl4 g 0)) _ (fun z => ce (Or.inr z)) (fun z0 => ?_) rfl (by omega) (by omega)
  by_cases cr : er4 (g (hl4 g 0))
  rotate_left
  · refine ⟨False, False.elim, ?_⟩
    refine qe (g (hl4 g 0)) _ (fun z => cr (Or.inl z)) (fun _ => ?_) rfl (by omega) (by omega)
    refine qe (g (hl4 g 0)) _ (fun z => cr (Or.inr (Or.inl z))) (fun _ => ?_) rfl (by omega) (by omega)
    exact qe (g (hl4 g 0)) _ (fun z => cr (Or.inr (Or.inr z))) (fun _ => hno ce cr) rfl (by omega) (by omega)
  refine ⟨True, fun _ => ?_, ?_⟩
  rotate_left
  · refine qe (g (hl4 g 0)) _ (fun _ => trivial) (fun z3 => ?_) rfl (by omega) (by omega)
    refine qe (g (hl4 g 0)) _ (fun _ => trivial) (fun z11 => ?_) rfl (by omega) (by omega)
    exact qe (g (hl4 g 0)) _ (fun _ => trivial) (fun z12 => absurd cr (fun y => y.elim z3 (fun y => y.elim z11 z12))) rfl (by omega) (by omega)
  rintro _ rfl
  refine r_words_5 0 (tl4 g 0 - hl4 g 0) 0 (fun L7 s7 e18 => ?_) rfl (by omega) (by omega) rfl rfl
  have s0 := sm8_holds hb (n := 5000) (by rw [hsl]; omega)
  rw [hsl, seg_lsm] at s0
  rw [Nat.sub_zero, s0, Nat.zero_add] at e18
  have k7 : fL L L7 [15, 16, 18, 27, 28, 29, 30] := fL_t (ml_fL _ _ _ (by decide)) (sF_fL s7 (by decide))
  have k7' : fL L L7 [18] := fL_t (ml_fL _ _ _ (by decide)) (sF_fL s7 (by decide))
  have hfo := fo_le (sm8 g (hl4 g 0) (tl4 g 0 - hl4 g 0))
  have her' := her cr
  have hdr' := hdr cr
  unfold be4 at her' hdr'
  refine lg_eq (b := 65535) (fun c7 => ?_) (fun c => ?_) e18 rfl (by omega) (by omega)
  rotate_left
  · rw [cI_t c] at hdr'
    exact hdr' (by decide) M L7 (fz_r _ _ _) k7
  rw [cI_f (fun z => z c7)] at her' hdr'
  refine r_oct_5 1 ?_ (by omega) rfl
  rw [a1]
  have hek := ek6_l (t := g (hl4 g 0)) hb1
  have hsc := sc6_l (g := g) (p := hl4 g 0) (k := ek6 (g (hl4 g 0)) (g (hl4 g 0 + 1))) l4 l6
  refine d_errorToSix (hl4 g 0) (g (hl4 g 0)) (g (hl4 g 0 + 1)) (tl4 g 0 - hl4 g 0) m4 m6 hgb hb h8l (by omega) cr hb1 l4 l6 e4 e6 (fun hno' M11 f11 => ?_) (fun hk1 hs1 M11 sc f11 e37 e38 e39 hsc12 => ?_) rfl rfl rfl
  · rw [cI_f (fun z => hno'.elim z.1 z.2.2)] at hdr'
    exact ⟨fun z => absurd rfl z, fun _ => hdr' (by decide) M11 L7 (fz_s f11 (by decide) (by decide)) k7⟩
  generalize ek6 (g (hl4 g 0)) (g (hl4 g 0 + 1)) = ek at her' hdr' hek hsc hk1 hs1 e37 e38 hsc12
  have hekl : ek < 2000 := hek.resolve_left hk1
  refine ⟨fun _ => ?_, fun z => absurd z (by decide)⟩
  rw [(k7'.2 27 (by decide)).trans k27, (k7'.2 28 (by decide)).trans k28, (k7'.2 29 (by decide)).trans k29, (k7'.2 30 (by decide)).trans k30, (f11.2 35 (by decide)).trans h35, (f11.2 31 (by decide)).trans h31]
  rintro _ rfl _ rfl _ rfl _ rfl _ rfl
  have hg11 : at8 (M11 1) 2400 = g := by rw [f11.1 1 (by decide)]; exact hg
  have hB11 : ∀ j, isBy (M11 1 j) := by rw [f11.1 1 (by decide)]; exact hBy
  have o11 : outR M11 [] := outR_nil ho f11 (by decide) (by decide) ((f11.2 20 (by decide)).trans ho.2.1)
  refine d_innerToSix (H := H) (Lo := Lo) (B := B) (hl4 g 0 + 8) (tl4 g 0) kp hg11 hB11 (by omega) (by omega) (by omega) (mapR_f hm f11 k7' (by decide) (by decide) (by decide)) ((f11.2 11 (by decide)).trans hk) o11 (fun hni M19 L20 f19 k20 o19 => ?_) (fun hrd hin M19 L20 f19 k20 o19 b19 p24 => ?_) (nI_add _ 8) (by rw [show (8 : Int32) = nI 8 from rfl, pk_sub (by omega), Nat.sub_sub])
  · rw [cI_f (fun z => hni z.2.1)] at hdr'
    rintro _ rfl _ rfl _ rfl _ rfl _ rfl
    refine ⟨fun z => absurd rfl z, fun _ => hdr' (by decide) _ _ ?_ ?_⟩
    · exact fz_t (fz_t (fz_s f11 (by decide) (by decide)) (fz_s f19 (by decide) (by decide))) (mu_fz0 _ _ _ (by decide) (by decide))
    · exact fL_t (fL_t k7 k20) (fL_t (fL_t (fL_t (ml_fL _ _ _ (by decide)) (ml_fL _ _ _ (by decide))) (ml_fL _ _ _ (by decide))) (ml_fL _ _ _ (by decide)))
  have c20 := hrd.1
  have esc : sc = sc6 g (hl4 g 0) ek m4 m6 := hsc12 (by omega)
  rw [← esc] at her' hdr' hs1 hsc
  rw [cI_t ⟨hk1, ⟨hrd, hin⟩, hs1⟩] at her'
  have hscl : sc < 3000 := hsc.resolve_left hs1
  rintro _ rfl _ rfl _ rfl _ rfl _ rfl
  refine ⟨fun _ => ?_, fun z => absurd z (by decide)⟩
  have f25 : fz M (mu M19 0 35 (nI (g 9))) [0, 3, 5] [20, 24, 25, 26, 31, 32, 33, 34, 35, 37, 38, 39] := fz_t (fz_t (fz_s f11 (by decide) (by decide)) (fz_s f19 (by decide) (by decide))) (mu_fz0 _ _ _ (by decide) (by decide))
  have g25 : fz M11 (mu M19 0 35 (nI (g 9))) [0, 3, 5] [20, 24, 25, 26, 31, 32, 33, 34, 35] := fz_t f19 (mu_fz0 _ _ _ (by decide) (by decide))
  have b25 : holds (mu M19 0 35 (nI (g 9)) 5) 8 (il6 g H Lo B kp (hl4 g 0 + 8) (tl4 g 0)) := b19
  have q24 : mu M19 0 35 (nI (g 9)) 0 24 = nI (8 + (40 + cI (fg4 g (hl4 g 0 + 8)) 8 0 + th4 g (hl4 g 0 + 8) (tl4 g 0))) := p24
  have q20 : mu M19 0 35 (nI (g 9)) 0 20 = 0 := o19.2.1
  generalize mu M19 0 35 (nI (g 9)) = M25 at f25 g25 b25 q24 q20 ⊢
  have k24 : fL L (ml (ml (ml (ml L20 0 27 (upA H B (sr4 g 0))) 0 28 (loA Lo B (sr4 g 0))) 0 29 (upA H B (tg4 g 0))) 0 30 (loA Lo B (tg4 g 0))) [15, 16, 18, 27, 28, 29, 30] := fL_t (fL_t k7 k20) (fL_t (fL_t (fL_t (ml_fL _ _ _ (by decide)) (ml_fL _ _ _ (by decide))) (ml_fL _ _ _ (by decide))) (ml_fL _ _ _ (by decide)))
  have r27 : ml (ml (ml (ml L20 0 27 (upA H B (sr4 g 0))) 0 28 (loA Lo B (sr4 g 0))) 0 29 (upA H B (tg4 g 0))) 0 30 (loA Lo B (tg4 g 0)) 0 27 = upA H B (sr4 g 0) := rfl
  have r28 : ml (ml (ml (ml L20 0 27 (upA H B (sr4 g 0))) 0 28 (loA Lo B (sr4 g 0))) 0 29 (upA H B (tg4 g 0))) 0 30 (loA Lo B (tg4 g 0)) 0 28 = loA Lo B (sr4 g 0) := rfl
  have r29 : ml (ml (ml (ml L20 0 27 (upA H B (sr4 g 0))) 0 28 (loA Lo B (sr4 g 0))) 0 29 (upA H B (tg4 g 0))) 0 30 (loA Lo B (tg4 g 0)) 0 29 = upA H B (tg4 g 0) := rfl
  have r30 : ml (ml (ml (ml L20 0 27 (upA H B (sr4 g 0))) 0 28 (loA Lo B (sr4 g 0))) 0 29 (upA H B (tg4 g 0))) 0 30 (loA Lo B (tg4 g 0)) 0 30 = loA Lo B (tg4 g 0) := rfl
  generalize ml (ml (ml (ml L20 0 27 (upA H B (sr4 g 0))) 0 28 (loA Lo B (sr4 g 0))) 0 29 (upA H B (tg4 g 0))) 0 30 (loA Lo B (tg4 g 0)) = L24 at k24 r27 r28 r29 r30 ⊢
  have hg25 : at8 (M25 1) 2400 = g := by rw [f25.1 1 (by decide)]; exact hg
  refine d_header4 0 hg25 (fun M27 f27 u31 u32 u33 u34 u35 => ?_) (by omega) rfl
  rintro _ rfl _ rfl
  have f29 : fz M (mu (mu M27 0 34 (0 : Int32)) 0 33 (0 : Int32)) [0, 3, 5] [20, 24, 25, 26, 31, 32, 33, 34, 35, 37, 38, 39] := fz_t (fz_t f25 (fz_s f27 (by decide) (by decide))) (fz_t (mu_fz0 _ _ _ (by decide) (by decide)) (mu_fz0 _ _ _ (by decide) (by decide)))
  have g29 : fz M25 (mu (mu M27 0 34 (0 : Int32)) 0 33 (0 : Int32)) [0] [31, 32, 33, 34, 35] := fz_t (fz_s f27 (by decide) (by decide)) (fz_t (mu_fz0 _ _ _ (by decide) (by decide)) (mu_fz0 _ _ _ (by decide) (by decide)))
  have v31 : mu (mu M27 0 34 (0 : Int32)) 0 33 (0 : Int32) 0 31 = nI (hl4 g 0) := u31
  have v32 : mu (mu M27 0 34 (0 : Int32)) 0 33 (0 : Int32) 0 32 = nI (tl4 g 0) := u32
  have v33 : mu (mu M27 0 34 (0 : Int32)) 0 33 (0 : Int32) 0 33 = nI (of4 g 0 * 8) := by rw [hnf.1]; rfl
  have v34 : mu (mu M27 0 34 (0 : Int32)) 0 33 (0 : Int32) 0 34 = bI (mf4 g 0) := by rw [bI_f hnf.2]; rfl
  have v35 : mu (mu M27 0 34 (0 : Int32)) 0 33 (0 : Int32) 0 35 = nI (g 9) := u35
  generalize mu (mu M27 0 34 (0 : Int32)) 0 33 (0 : Int32) = M29 at f29 g29 v31 v32 v33 v34 v35 ⊢
  have ill := il6_len (H := H) (Lo := Lo) (B := B) (kp := kp) (fun z => (hin.2.2.2 z).2.1)
  have h8f := cI_8 (fg4 g (hl4 g 0 + 8))
  have hth := th4_le hrd.2.1
  rw [← ill] at q24 her'
  have ilb : (il6 g H Lo B kp (hl4 g 0 + 8) (tl4 g 0)).length ≤ 2400 := by rw [ill]; have := hrd.2.2.2.1; omega
  generalize il6 g H Lo B kp (hl4 g 0 + 8) (tl4 g 0) = il at b25 q24 her' ilb
  have b29 : holds (M29 5) 8 il := by rw [g29.1 5 (by decide)]; exact b25
  have w24 : M29 0 24 = nI (8 + il.length) := (g29.2 24 (by decide)).trans q24
  have hbl : (if 1240 < 8 + il.length then 1240 else 8 + il.length) ≤ 1240 := by split <;> omega
  refine ⟨fun M30 => fz M M30 [0, 3, 5] [20, 24, 25, 26, 31, 32, 33, 34, 35, 37, 38, 39] ∧ fz M29 M30 [0] [24] ∧ M30 0 24 = nI (if 1240 < 8 + il.length then 1240 else 8 + il.length), ?_, ?_⟩
  · rintro M30 ⟨f30, g30, x24⟩
    have x37 : M30 0 37 = nI (ek / 256) := ((g30.2 37 (by decide)).trans ((g29.2 37 (by decide)).trans ((g25.2 37 (by decide))))).trans e37
    have x38 : M30 0 38 = nI (ek % 256) := ((g30.2 38 (by decide)).trans ((g29.2 38 (by decide)).trans ((g25.2 38 (by decide))))).trans e38
    have x39 : M30 0 39 = nI sc := ((g30.2 39 (by decide)).trans ((g29.2 39 (by decide)).trans ((g25.2 39 (by decide))))).trans e39
    have b30 : holds (M30 5) 8 il := by rw [g30.1 5 (by decide)]; exact b29
    rw [x37, x38, show nI (ek / 256) <<< ((24 : Int32) &&& 31) = nI (ek / 256 * 2 ^ 24) from pk_shlN (n := ek / 256) ((24 : Int32) &&& 31) 24 (by decide) (by omega), show nI (ek % 256) <<< ((16 : Int32) &&& 31) = nI (ek % 256 * 65536) from pk_shlN (n := ek % 256) ((16 : Int32) &&& 31) 16 (by decide) (by omega), nI_orN (by omega), show ek / 256 * 2 ^ 24 + ek % 256 * 65536 = ek * 65536 by omega]
    refine r_putInt_5 0 (ek * 65536) (fun M31 w31 => ?_) rfl (by omega) rfl
    refine r_putInt_5 4 sc (fun M32 w32 => ?_) (by rw [w31.1 0 (by decide)]; exact x39) (by omega) rfl
    have z32 := wr_app w31 w32 (by rw [bys_len])
    have l32 : holds (M32 5) 0 (mg0 ek sc il 1240) := by
      refine holds_take ?_ _
      rw [← mg_e ek sc il (by omega), holds_app]
      refine ⟨z32.2.2, ?_⟩
      have := wr_keep z32 b30 (Or.inr (by simp [bys_len]))
      rw [show 0 + (bys 4 (ek * 65536) ++ bys 4 sc).length = 8 from by simp [bys_len]]
      exact this
    have hml := mg0_len ek sc il 1240
    have y24 : M32 0 24 = nI (if 1240 < 8 + il.length then 1240 else 8 + il.length) := by rw [z32.1 0 (by decide)]; exact x24
    have hl8 : 8 ≤ (if 1240 < 8 + il.length then 1240 else 8 + il.length) := by split <;> omega
    rw [y24]
    generalize hq : (if 1240 < 8 + il.length then 1240 else 8 + il.length) = bl at her' hbl hml y24 hl8 ⊢
    rintro _ rfl
    refine r_pseudo0 0 (uN (upA H B (sr4 g 0))) (uN (loA Lo B (sr4 g 0))) (uN (upA H B (tg4 g 0))) (uN (loA Lo B (tg4 g 0))) bl 58 (fun L34 s34 e34 => ?_) rfl (by rw [show ml L24 0 18 (0 : Int64) 0 27 = L24 0 27 from rfl, r27]) (by rw [show ml L24 0 18 (0 : Int64) 0 28 = L24 0 28 from rfl, r28]) (by rw [show ml L24 0 18 (0 : Int64) 0 29 = L24 0 29 from rfl, r29]) (by rw [show ml L24 0 18 (0 : Int64) 0 30 = L24 0 30 from rfl, r30]) (by omega) (by omega) rfl rfl rfl
    refine r_words_5 0 bl _ (fun L35 s35 e35 => ?_) e34 (by omega) (by omega) rfl rfl
    have s1 := sm8_holds l32 (n := 5000) (by rw [hml]; omega)
    rw [hml] at s1
    rw [Nat.sub_zero, s1, w2_sm (show bl < 65536 by omega), w2_sm (show 58 < 65536 by decide), Nat.zero_add] at e35
    refine r_checksum _ ?_ e35
    refine r_putTwo_5 2 (65535 - fo (iw H Lo B (sr4 g 0) (tg4 g 0) + bl + 58 + lsm (mg0 ek sc il 1240))) (fun M37 w37 => ?_) rfl (by omega) rfl
    have b37 : holds (M37 5) 0 (mg ek sc (iw H Lo B (sr4 g 0) (tg4 g 0) + bl + 58) il 1240) := by
      have w37' : wr M32 M37 5 (0 + 2) (bys 2 (65535 - fo (iw H Lo B (sr4 g 0) (tg4 g 0) + bl + 58 + lsm (mg0 ek sc il 1240)))) := w37
      exact holds_put l32 w37' (by rw [hml]; omega)
    have e37' : M37 0 = M30 0 := (w37.1 0 (by decide)).trans (z32.1 0 (by decide))
    have f37 : fz M M37 [0, 3, 5] [20, 24, 25, 26, 31, 32, 33, 34, 35, 37, 38, 39] := fz_t (fz_t f30 (wr_fz z32 (by decide) (by decide))) (wr_fz w37 (by decide) (by decide))
    have s24 : sF L24 L35 := sF_t (sF_0 _ _) (sF_t s34 s35)
    refine her' rfl M37 L35 f37 (fL_t k24 (sF_fL s24 (by decide))) (outR_nil ho f37 (by decide) (by decide) ?_) b37 ?_ ?_ ?_ ?_ ?_ ?_ ((s24.2 27 (by decide)).trans r27) ((s24.2 28 (by decide)).trans r28) ((s24.2 29 (by decide)).trans r29) ((s24.2 30 (by decide)).trans r30)
    · rw [e37', g30.2 20 (by decide), g29.2 20 (by decide)]; exact q20
    · rw [e37', x24, mg_len (by decide), hq]
    · rw [e37', g30.2 31 (by decide)]; exact v31
    · rw [e37', g30.2 32 (by decide)]; exact v32
    · rw [e37', g30.2 33 (by decide)]; exact v33
    · rw [e37', g30.2 34 (by decide)]; exact v34
    · rw [e37', g30.2 35 (by decide)]; exact v35
  · rw [w24]
    refine ql (8 + il.length) _ (fun c => ⟨f29, fz_r _ _ _, by rw [w24, if_neg (by omega)]⟩) (fun c => ?_) rfl (by omega) (by omega)
    rintro _ rfl
    exact ⟨fz_t f29 (mu_fz0 _ _ _ (by decide) (by decide)), mu_fz0 _ _ _ (by decide) (by decide), by rw [if_pos c]; rfl⟩
