/-! headers of IPv6 -/
def h6 (tc len nx hp A B C D : Nat) : List Nat := bys 4 (1610612736 + tc * 1048576) ++ bys 2 len ++ bys 1 nx ++ bys 1 hp ++ bys 8 A ++ bys 8 B ++ bys 8 C ++ bys 8 D
noncomputable def fh (nx off : Nat) (mo : Prop) (id : Nat) : List Nat := bys 2 (nx * 256) ++ bys 2 (off * 8 + cI mo 1 0) ++ bys 4 id
noncomputable def hd6 (kp fg : Prop) (tos len nx hp A B C D off : Nat) (mo : Prop) (id : Nat) : List Nat := h6 (cI kp tos 0) len (cI fg 44 nx) hp A B C D ++ cI fg (fh nx off mo id) []
theorem h6_len (tc len nx hp A B C D : Nat) : (h6 tc len nx hp A B C D).length = 40 := by simp [h6, bys_len]
theorem fh_len (nx off : Nat) (mo : Prop) (id : Nat) : (fh nx off mo id).length = 8 := by simp [fh, bys_len]
theorem hd6_len (kp fg : Prop) (tos len nx hp A B C D off : Nat) (mo : Prop) (id : Nat) : (hd6 kp fg tos len nx hp A B C D off mo id).length = 40 + cI fg 8 0 := by
  unfold hd6
  rw [List.length_append, h6_len]
  by_cases z : fg
  · rw [cI_t z, cI_t z, fh_len]
  · rw [cI_f z, cI_f z]; rfl
theorem cI_tos (kp : Prop) {t : Nat} (h : t < 256) : cI kp t 0 < 256 := by
  by_cases z : kp
  · rw [cI_t z]; exact h
  · rw [cI_f z]; decide
theorem nI_shl20 {t : Nat} (h : t < 256) : nI t <<< ((20 : Int32) &&& 31) = nI (t * 1048576) := pk_shlN (n := t) ((20 : Int32) &&& 31) 20 (by decide) (by omega)
theorem c_putSix_6_11 {M : cM} {L : cL} {x y z w : Int32} {Z : cM → Prop} {g : Nat → Nat} {H Lo : Int64} {B : Nat} (a e st len nx hp : Nat) (kp : Prop) (hgb : ∀ i, g i < 256) (hpk : pk4 (M 11) (L 11) g a e) (hm : mapC (M 10) (L 10) H Lo B) (hk : M 0 14 = bI kp) (hr : st + 40 ≤ 3332) (h : ∀ M', wr M M' 7 st (h6 (cI kp (g (a + 1)) 0) len nx hp (uN (upA H B (sr4 g a))) (uN (loA Lo B (sr4 g a))) (uN (upA H B (tg4 g a))) (uN (loA Lo B (tg4 g a)))) → Z M') (hx : x = nI st) (hy : y = nI len) (hz : z = nI nx) (hw : w = nI hp) : wp_X6_putSixHeader_0_6_11 M L x y z w Z := by
  subst hx
  have h1 : M 11 1 = nI (g (a + 1)) := hpk.2.1
  have h10 : M 11 10 = nI (sr4 g a) := hpk.2.2.2.2.2.2.2.2.2.2.1
  have h11 : M 11 11 = nI (tg4 g a) := hpk.2.2.2.2.2.2.2.2.2.2.2.1
  have hs : sr4 g a < 4294967296 := num4_lt hgb _
  have ht : tg4 g a < 4294967296 := num4_lt hgb _
  have hB := pfx_B hm.2.2.2
  have hb1 := hgb (a + 1)
  have htc := cI_tos kp hb1
  unfold wp_X6_putSixHeader_0_6_11
  rw [h1, hk, nI_shl20 hb1]
  refine ⟨fun v => v = nI (cI kp (g (a + 1)) 0 * 1048576), ?_, ?_⟩
  · rintro _ rfl
    refine p_put6 st 4 (1610612736 + cI kp (g (a + 1)) 0 * 1048576) (hv_l 4 _ _ (by rw [nI_l (by omega)]; exact g_or (k := 28) (p := 268435456) (b := 6) (by decide) (by omega) (by omega)) (by omega)) (fun M1 w1 => ?_) rfl rfl (by omega) (by omega)
    refine p_put6 (st + 4) 2 len (hv_i 2 (by decide) _ _ hy) (fun M2 w2 => ?_) (nI_add _ 4) rfl (by omega) (by omega)
    have v2 := wr_app w1 w2 (by rw [bys_len])
    refine p_put6 (st + 6) 1 nx (hv_i 1 (by decide) _ _ hz) (fun M3 w3 => ?_) (nI_add _ 6) rfl (by omega) (by omega)
    have v3 := wr_app v2 w3 (by simp [bys_len])
    refine p_put6 (st + 7) 1 hp (hv_i 1 (by decide) _ _ hw) (fun M4 w4 => ?_) (nI_add _ 7) rfl (by omega) (by omega)
    have v4 := wr_app v3 w4 (by simp [bys_len])
    refine p_upper H B (sr4 g a) ?_ hs hB hm.1 (by rw [v4.1 10 (by decide)]; exact hm.2.2.1) (by rw [v4.1 11 (by decide)]; exact h10)
    refine p_put6 (st + 8) 8 (uN (upA H B (sr4 g a))) rfl (fun M5 w5 => ?_) (nI_add _ 8) rfl (by omega) (by omega)
    have v5 := wr_app v4 w5 (by simp [bys_len])
    refine p_lower Lo B (sr4 g a) ?_ hs hB hm.2.1 (by rw [v5.1 10 (by decide)]; exact hm.2.2.1) (by rw [v5.1 11 (by decide)]; exact h10)
    refine p_put6 (st + 16) 8 (uN (loA Lo B (sr4 g a))) rfl (fun M6 w6 => ?_) (nI_add _ 16) rfl (by omega) (by omega)
    have v6 := wr_app v5 w6 (by simp [bys_len])
    refine p_upper H B (tg4 g a) ?_ ht hB hm.1 (by rw [v6.1 10 (by decide)]; exact hm.2.2.1) (by rw [v6.1 11 (by decide)]; exact h11)
    refine p_put6 (st + 24) 8 (uN (upA H B (tg4 g a))) rfl (fun M7 w7 => ?_) (nI_add _ 24) rfl (by omega) (by omega)
    have v7 := wr_app v6 w7 (by simp [bys_len])
    refine p_lower Lo B (tg4 g a) ?_ ht hB hm.2.1 (by rw [v7.1 10 (by decide)]; exact hm.2.2.1) (by rw [v7.1 11 (by decide)]; exact h11)
    refine p_put6 (st + 32) 8 (uN (loA Lo B (tg4 g a))) rfl (fun M8 w8 => ?_) (nI_add _ 32) rfl (by omega) (by omega)
    exact h M8 (wr_app v7 w8 (by simp [bys_len]))
  · refine bz (fun c => by rw [cI_f c]; rfl) (fun c => by rw [cI_t c])
theorem c_putSix_3_12 {M : cM} {L : cL} {x y z w : Int32} {Z : cM → Prop} {g : Nat → Nat} {H Lo : Int64} {B : Nat} (a e st len nx hp : Nat) (kp : Prop) (hgb : ∀ i, g i < 256) (hpk : pk4 (M 12) (L 12) g a e) (hm : mapC (M 10) (L 10) H Lo B) (hk : M 0 14 = bI kp) (hr : st + 40 ≤ 2408) (h : ∀ M', wr M M' 4 st (h6 (cI kp (g (a + 1)) 0) len nx hp (uN (upA H B (sr4 g a))) (uN (loA Lo B (sr4 g a))) (uN (upA H B (tg4 g a))) (uN (loA Lo B (tg4 g a)))) → Z M') (hx : x = nI st) (hy : y = nI len) (hz : z = nI nx) (hw : w = nI hp) : wp_X6_putSixHeader_0_3_12 M L x y z w Z := by
  subst hx
  have h1 : M 12 1 = nI (g (a + 1)) := hpk.2.1
  have h10 : M 12 10 = nI (sr4 g a) := hpk.2.2.2.2.2.2.2.2.2.2.1
  have h11 : M 12 11 = nI (tg4 g a) := hpk.2.2.2.2.2.2.2.2.2.2.2.1
  have hs : sr4 g a < 4294967296 := num4_lt hgb _
  have ht : tg4 g a < 4294967296 := num4_lt hgb _
  have hB := pfx_B hm.2.2.2
  have hb1 := hgb (a + 1)
  have htc := cI_tos kp hb1
  unfold wp_X6_putSixHeader_0_3_12
  rw [h1, hk, nI_shl20 hb1]
  refine ⟨fun v => v = nI (cI kp (g (a + 1)) 0 * 1048576), ?_, ?_⟩
  · rintro _ rfl
    refine p_put3 st 4 (1610612736 + cI kp (g (a + 1)) 0 * 1048576) (hv_l 4 _ _ (by rw [nI_l (by omega)]; exact g_or (k := 28) (p := 268435456) (b := 6) (by decide) (by omega) (by omega)) (by omega)) (fun M1 w1 => ?_) rfl rfl (by omega) (by omega)
    refine p_put3 (st + 4) 2 len (hv_i 2 (by decide) _ _ hy) (fun M2 w2 => ?_) (nI_add _ 4) rfl (by omega) (by omega)
    have v2 := wr_app w1 w2 (by rw [bys_len])
    refine p_put3 (st + 6) 1 nx (hv_i 1 (by decide) _ _ hz) (fun M3 w3 => ?_) (nI_add _ 6) rfl (by omega) (by omega)
    have v3 := wr_app v2 w3 (by simp [bys_len])
    refine p_put3 (st + 7) 1 hp (hv_i 1 (by decide) _ _ hw) (fun M4 w4 => ?_) (nI_add _ 7) rfl (by omega) (by omega)
    have v4 := wr_app v3 w4 (by simp [bys_len])
    refine p_upper H B (sr4 g a) ?_ hs hB hm.1 (by rw [v4.1 10 (by decide)]; exact hm.2.2.1) (by rw [v4.1 12 (by decide)]; exact h10)
    refine p_put3 (st + 8) 8 (uN (upA H B (sr4 g a))) rfl (fun M5 w5 => ?_) (nI_add _ 8) rfl (by omega) (by omega)
    have v5 := wr_app v4 w5 (by simp [bys_len])
    refine p_lower Lo B (sr4 g a) ?_ hs hB hm.2.1 (by rw [v5.1 10 (by decide)]; exact hm.2.2.1) (by rw [v5.1 12 (by decide)]; exact h10)
    refine p_put3 (st + 16) 8 (uN (loA Lo B (sr4 g a))) rfl (fun M6 w6 => ?_) (nI_add _ 16) rfl (by omega) (by omega)
    have v6 := wr_app v5 w6 (by simp [bys_len])
    refine p_upper H B (tg4 g a) ?_ ht hB hm.1 (by rw [v6.1 10 (by decide)]; exact hm.2.2.1) (by rw [v6.1 12 (by decide)]; exact h11)
    refine p_put3 (st + 24) 8 (uN (upA H B (tg4 g a))) rfl (fun M7 w7 => ?_) (nI_add _ 24) rfl (by omega) (by omega)
    have v7 := wr_app v6 w7 (by simp [bys_len])
    refine p_lower Lo B (tg4 g a) ?_ ht hB hm.2.1 (by rw [v7.1 10 (by decide)]; exact hm.2.2.1) (by rw [v7.1 12 (by decide)]; exact h11)
    refine p_put3 (st + 32) 8 (uN (loA Lo B (tg4 g a))) rfl (fun M8 w8 => ?_) (nI_add _ 32) rfl (by omega) (by omega)
    exact h M8 (wr_app v7 w8 (by simp [bys_len]))
  · refine bz (fun c => by rw [cI_f c]; rfl) (fun c => by rw [cI_t c])
theorem c_putFragment_6 {M : cM} {L : cL} {x y z w v : Int32} {Z : cM → Prop} (st nx off id : Nat) (mo : Prop) (hnx : nx < 256) (ho : off < 16384) (hr : st + 8 ≤ 3332) (h : ∀ M', wr M M' 7 st (fh nx off mo id) → Z M') (hx : x = nI st) (hy : y = nI nx) (hz : z = nI off) (hw : w = bI mo) (hv : v = nI id) : wp_X6_putFragmentHeader_6 M L x y z w v Z := by
  subst hx hy hz hw
  unfold wp_X6_putFragmentHeader_6
  refine p_put6 st 2 (nx * 256) (hv_i 2 (by decide) _ _ (pk_shlN (n := nx) ((8 : Int32) &&& 31) 8 (by decide) (by omega))) (fun M1 w1 => ?_) rfl rfl (by omega) (by omega)
  have hc : cI mo 1 0 < 8 := by
    by_cases z : mo
    · rw [cI_t z]; decide
    · rw [cI_f z]; decide
  refine ⟨fun v => v = nI (cI mo 1 0), ?_, ?_⟩
  · rintro _ rfl
    refine p_put6 (st + 2) 2 (off * 8 + cI mo 1 0) (hv_i 2 (by decide) _ _ (by rw [show nI off <<< ((3 : Int32) &&& 31) = nI (off * 2 ^ 3) from pk_shlN (n := off) ((3 : Int32) &&& 31) 3 (by decide) (by omega)]; exact nI_orN (k := 3) hc)) (fun M2 w2 => ?_) (nI_add _ 2) rfl (by omega) (by omega)
    refine p_put6 (st + 4) 4 id (hv_i 4 (by decide) _ _ hv) (fun M3 w3 => ?_) (nI_add _ 4) rfl (by omega) (by omega)
    exact h M3 (wr_app (wr_app w1 w2 (by rw [bys_len])) w3 (by simp [bys_len]))
  · refine bz (fun c => by rw [cI_f c]; rfl) (fun c => by rw [cI_t c]; rfl)
theorem c_putFragment_3 {M : cM} {L : cL} {x y z w v : Int32} {Z : cM → Prop} (st nx off id : Nat) (mo : Prop) (hnx : nx < 256) (ho : off < 16384) (hr : st + 8 ≤ 2408) (h : ∀ M', wr M M' 4 st (fh nx off mo id) → Z M') (hx : x = nI st) (hy : y = nI nx) (hz : z = nI off) (hw : w = bI mo) (hv : v = nI id) : wp_X6_putFragmentHeader_3 M L x y z w v Z := by
  subst hx hy hz hw
  unfold wp_X6_putFragmentHeader_3
  refine p_put3 st 2 (nx * 256) (hv_i 2 (by decide) _ _ (pk_shlN (n := nx) ((8 : Int32) &&& 31) 8 (by decide) (by omega))) (fun M1 w1 => ?_) rfl rfl (by omega) (by omega)
  have hc : cI mo 1 0 < 8 := by
    by_cases z : mo
    · rw [cI_t z]; decide
    · rw [cI_f z]; decide
  refine ⟨fun v => v = nI (cI mo 1 0), ?_, ?_⟩
  · rintro _ rfl
    refine p_put3 (st + 2) 2 (off * 8 + cI mo 1 0) (hv_i 2 (by decide) _ _ (by rw [show nI off <<< ((3 : Int32) &&& 31) = nI (off * 2 ^ 3) from pk_shlN (n := off) ((3 : Int32) &&& 31) 3 (by decide) (by omega)]; exact nI_orN (k := 3) hc)) (fun M2 w2 => ?_) (nI_add _ 2) rfl (by omega) (by omega)
    refine p_put3 (st + 4) 4 id (hv_i 4 (by decide) _ _ hv) (fun M3 w3 => ?_) (nI_add _ 4) rfl (by omega) (by omega)
    exact h M3 (wr_app (wr_app w1 w2 (by rw [bys_len])) w3 (by simp [bys_len]))
  · refine bz (fun c => by rw [cI_f c]; rfl) (fun c => by rw [cI_t c]; rfl)
def nx4 (pr : Nat) : Nat := if pr = 1 then 58 else pr
theorem fh_eq (nx off : Nat) (mo : Prop) (id : Nat) (h : nx < 256) : [nx] ++ zs 1 ++ bys 2 (off * 8 + cI mo 1 0) ++ bys 4 id = fh nx off mo id := by
  unfold fh
  rw [bys_2 (nx * 256), show nx * 256 / 256 % 256 = nx by omega, show nx * 256 % 256 = 0 by omega]
  rfl
theorem d_head6 {M : cM} {L : cL} {x1 x2 x3 x4 x5 x6 x7 x8 : Int32} {Z : cM → Prop} (st tos len pr hp A B C D off id k : Nat) (kp fg mo : Prop) (hk : M 0 11 = bI kp) (h35 : M 0 35 = nI pr) (lpr : pr < 256) (lt : tos < 256) (lo : off < 16384) (lhp : hp < 256) (hA : uN (L 0 27) = A) (hB : uN (L 0 28) = B) (hC : uN (L 0 29) = C) (hD : uN (L 0 30) = D) (hz : holds (M 3) st (zs (40 + cI fg 8 0 + k))) (hr : st + 48 ≤ 16000)
    (h : ∀ M', wr M M' 3 st (hd6 kp fg tos len (nx4 pr) hp A B C D off mo id ++ zs k) → Z M') (e1 : x1 = nI st) (e2 : x2 = nI tos) (e3 : x3 = nI len) (e4 : x4 = nI hp) (e5 : x5 = bI fg) (e6 : x6 = nI (off * 8)) (e7 : x7 = bI mo) (e8 : x8 = nI id) : wp_X7_head6_0 M L x1 x2 x3 x4 x5 x6 x7 x8 Z := by
  subst e1 e2 e3 e4 e5 e6 e7 e8
  have htc := cI_tos kp lt
  have hnx : nx4 pr < 256 := by unfold nx4; split <;> omega
  have hnf : cI fg 44 (nx4 pr) < 256 := by
    by_cases z : fg
    · rw [cI_t z]; decide
    · rw [cI_f z]; exact hnx
  unfold wp_X7_head6_0
  rw [hk, h35, nI_shl20 lt]
  refine ⟨fun v => v = nI (nx4 pr), ?_, ?_⟩
  · rintro _ rfl
    refine ⟨fun v => v = nI (cI kp tos 0 * 1048576), ?_, ?_⟩
    · rintro _ rfl
      have z0 : wr M M 3 st ([] ++ zs (40 + cI fg 8 0 + k)) := wr_of hz
      refine r_putInt_3 st (1610612736 + cI kp tos 0 * 1048576) (fun M1 w1 => ?_) (nI_orN (a := 6) (k := 28) (by omega)) (by omega) rfl
      have z1 := wr_ov' z0 w1 rfl (36 + cI fg 8 0 + k) (by rw [bys_len]; omega)
      refine r_putTwo_3 (st + 4) len (fun M2 w2 => ?_) rfl (by omega) (nI_add _ 4)
      have z2 := wr_ov' z1 w2 (by simp [bys_len]) (34 + cI fg 8 0 + k) (by rw [bys_len]; omega)
      refine ⟨fun v => v = nI (cI fg 44 (nx4 pr)), ?_, ?_⟩
      · rintro _ rfl
        rw [show nI st + (6 : Int32) = nI (st + 6) from nI_add _ 6, show nI st + (7 : Int32) = nI (st + 7) from nI_add _ 7, nI_clamp (by omega), nI_clamp (by omega)]
        refine ⟨vp_in_nI (by omega) (by decide), ?_⟩
        rintro _ rfl
        have z3 := wr_ov' z2 (wr_nar8 (M := M2) (c := 3) (a := st + 6) (v := nI (cI fg 44 (nx4 pr))) (m := cI fg 44 (nx4 pr) % 256) (oc_nI _)) (by simp [bys_len]) (33 + cI fg 8 0 + k) (by simp; omega)
        refine ⟨vp_in_nI (by omega) (by decide), ?_⟩
        rintro _ rfl
        have z4 := wr_ov' z3 (wr_nar8 (c := 3) (a := st + 7) (v := nI hp) (m := hp % 256) (oc_nI _)) (by simp [bys_len]) (32 + cI fg 8 0 + k) (by simp; omega)
        refine r_putLong (st + 8) (fun M3 w3 => ?_) (by omega) (nI_add _ 8)
        rw [hA] at w3
        have z5 := wr_ov' z4 w3 (by simp [bys_len]) (24 + cI fg 8 0 + k) (by rw [bys_len]; omega)
        refine r_putLong (st + 16) (fun M4 w4 => ?_) (by omega) (nI_add _ 16)
        rw [hB] at w4
        have z6 := wr_ov' z5 w4 (by simp [bys_len]) (16 + cI fg 8 0 + k) (by rw [bys_len]; omega)
        refine r_putLong (st + 24) (fun M5 w5 => ?_) (by omega) (nI_add _ 24)
        rw [hC] at w5
        have z7 := wr_ov' z6 w5 (by simp [bys_len]) (8 + cI fg 8 0 + k) (by rw [bys_len]; omega)
        refine r_putLong (st + 32) (fun M6 w6 => ?_) (by omega) (nI_add _ 32)
        rw [hD] at w6
        have z8 := wr_ov' z7 w6 (by simp [bys_len]) (cI fg 8 0 + k) (by rw [bys_len]; omega)
        have z9 : wr M M6 3 st (h6 (cI kp tos 0) len (cI fg 44 (nx4 pr)) hp A B C D ++ zs (cI fg 8 0 + k)) := by
          unfold h6
          rw [bys_1, bys_1]
          rw [List.nil_append] at z8
          exact z8
        unfold hd6 at h
        refine zb (fun c => ?_) (fun c => ?_)
        · rw [cI_f (a := 8) (b := 0) c, Nat.zero_add] at z9
          rw [cI_f (a := fh (nx4 pr) off mo id) c, List.append_nil] at h
          exact h M6 z9
        · rw [cI_t (a := 8) c] at z9
          rw [cI_t (a := fh (nx4 pr) off mo id) c] at h
          rw [show nI st + (40 : Int32) = nI (st + 40) from nI_add _ 40, nI_clamp (by omega)]
          refine ⟨vp_in_nI (by omega) (by decide), ?_⟩
          rintro _ rfl
          have y0 : wr M6 M6 3 (st + 40) ([] ++ zs (8 + k)) := wr_of (by have := (holds_app.mp z9.2.2).2; rw [h6_len] at this; exact this)
          have y1 := wr_gap' 1 (6 + k) (wr_ov' y0 (wr_nar8 (M := M6) (c := 3) (a := st + 40) (v := nI (nx4 pr)) (m := nx4 pr) (by rw [oc_nI]; omega)) rfl (7 + k) (by simp; omega)) (by omega)
          have hc : cI mo 1 0 < 8 := by
            by_cases z : mo
            · rw [cI_t z]; decide
            · rw [cI_f z]; decide
          refine ⟨fun v => v = nI (cI mo 1 0), ?_, ?_⟩
          · rintro _ rfl
            refine r_putTwo_3 (st + 42) (off * 8 + cI mo 1 0) (fun M7 w7 => ?_) (nI_orN (k := 3) hc) (by omega) (nI_add _ 42)
            have y2 := wr_ov' y1 w7 (by simp [zs_len]) (4 + k) (by rw [bys_len]; omega)
            refine r_putInt_3 (st + 44) id (fun M8 w8 => ?_) rfl (by omega) (nI_add _ 44)
            have y3 := wr_ov' y2 w8 (by simp [zs_len, bys_len]) k (by rw [bys_len])
            rw [List.nil_append, fh_eq _ _ _ _ hnx] at y3
            have z10 := wr_ov' z9 y3 (by rw [h6_len]) 0 (by rw [List.length_append, fh_len, zs_len]; omega)
            rw [show zs 0 = [] from rfl, List.append_nil, ← List.append_assoc] at z10
            exact h M8 z10
          · refine bz (fun c => by rw [cI_f c]; rfl) (fun c => by rw [cI_t c]; rfl)
      · refine bz (fun c => by rw [cI_f c]) (fun c => by rw [cI_t c]; rfl)
    · refine bz (fun c => by rw [cI_f c]; rfl) (fun c => by rw [cI_t c])
  · unfold nx4
    refine qen pr _ (fun c => by rw [if_pos c]; rfl) (fun c => by rw [if_neg c]) rfl (by omega) (by omega)
