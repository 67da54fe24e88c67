/-! pieces -/
noncomputable def pcs (sz : Nat → Nat) (pk : Nat → List Nat) (n : Nat) : Nat → Nat → List (List Nat)
  | 0, _ => []
  | f + 1, d => pk d :: cI (d + sz d < n) (pcs sz pk n f (d + sz d)) []
def pInv (sz : Nat → Nat) (pk : Nat → List Nat) (n : Nat) (PK : List (List Nat)) (d : Nat) : Prop := ∃ f, n - d < f ∧ PK ++ pcs sz pk n f d = pcs sz pk n (n + 1) 0
theorem pInv_0 (sz : Nat → Nat) (pk : Nat → List Nat) (n : Nat) : pInv sz pk n [] 0 := ⟨n + 1, by omega, rfl⟩
theorem pInv_e {sz : Nat → Nat} {pk : Nat → List Nat} {n : Nat} {PK : List (List Nat)} {d : Nat} (h : pInv sz pk n PK d) (c : ¬ d + sz d < n) : PK ++ [pk d] = pcs sz pk n (n + 1) 0 := by
  obtain ⟨f, hf, e⟩ := h
  obtain ⟨f, rfl⟩ : ∃ f', f = f' + 1 := ⟨f - 1, by omega⟩
  rw [← e, pcs, cI_f c]
theorem pInv_s {sz : Nat → Nat} {pk : Nat → List Nat} {n : Nat} {PK : List (List Nat)} {d : Nat} (h : pInv sz pk n PK d) (c : d + sz d < n) (h0 : 0 < sz d) : pInv sz pk n (PK ++ [pk d]) (d + sz d) := by
  obtain ⟨f, hf, e⟩ := h
  obtain ⟨f, rfl⟩ : ∃ f', f = f' + 1 := ⟨f - 1, by omega⟩
  refine ⟨f, by omega, ?_⟩
  rw [← e, pcs, cI_t c, List.append_assoc]; rfl
noncomputable def pz6 (sp : Prop) (n d : Nat) : Nat := cI (sp ∧ 1232 < n - d) 1232 (n - d)
theorem pz6_le (sp : Prop) (n d : Nat) : pz6 sp n d ≤ n - d := by
  unfold pz6
  by_cases z : sp ∧ 1232 < n - d
  · rw [cI_t z]; omega
  · rw [cI_f z]; omega
noncomputable def pk6 (kp fg sp mo : Prop) (tos nx hp A B C D off id : Nat) (b : List Nat) (d : Nat) : List Nat := hd6 kp fg tos (cI fg 8 0 + pz6 sp b.length d) nx hp A B C D (off + d / 8) (d + pz6 sp b.length d < b.length ∨ mo) id ++ (b.drop d).take (pz6 sp b.length d)
theorem pk6_len (kp fg sp mo : Prop) (tos nx hp A B C D off id : Nat) (b : List Nat) (d : Nat) : (pk6 kp fg sp mo tos nx hp A B C D off id b d).length = 40 + cI fg 8 0 + pz6 sp b.length d := by
  unfold pk6
  have := pz6_le sp b.length d
  rw [List.length_append, hd6_len, List.length_take, List.length_drop, Nat.min_eq_left this]
noncomputable def sp6 (g : Nat → Nat) (n : Nat) : Prop := ¬ df4 g 0 ∧ 1280 < 40 + cI (fg4 g 0) 8 0 + n
/-- what is sent as IPv6 of a body -/
noncomputable def sd6 (g : Nat → Nat) (H Lo : Int64) (B : Nat) (kp : Prop) (b : List Nat) : List (List Nat) :=
  pcs (pz6 (sp6 g b.length) b.length) (pk6 kp (sp6 g b.length ∨ fg4 g 0) (sp6 g b.length) (mf4 g 0) (g 1) (nx4 (g 9)) (g 8 - 1) (uN (upA H B (sr4 g 0))) (uN (loA Lo B (sr4 g 0))) (uN (upA H B (tg4 g 0))) (uN (loA Lo B (tg4 g 0))) (of4 g 0) (wd8 g 4) b) b.length (b.length + 1) 0
theorem cI_8 (P : Prop) : cI P 8 0 ≤ 8 := cI_le (Nat.le_refl _) (Nat.zero_le _)
theorem c_sendSix {M : cM} {L : cL} {Z : cM → Prop} {g : Nat → Nat} {H Lo : Int64} {B : Nat} (n : Nat) (b : List Nat) (kp : Prop) (hgb : ∀ i, g i < 256) (hp : pk4 (M 11) (L 11) g 0 n) (hm : mapC (M 10) (L 10) H Lo B) (hk : M 0 14 = bI kp) (ho : outC M []) (hb : holds (M 4) 0 b) (hb1 : M 3 1 = nI b.length) (hbl : b.length ≤ 2408) (hh : 1 < g 8) (h : ∀ M', fr M M' [5, 6, 7, 8, 9] → outC M' (sd6 g H Lo B kp b) → Z M') : wp_X6_sendSix_0_11 M L Z := by
  have h2 : M 11 2 = nI (g 8) := hp.2.2.1
  have h3 : M 11 3 = nI (g 9) := hp.2.2.2.1
  have h4 : M 11 4 = nI (wd8 g 4) := hp.2.2.2.2.1
  have h5 : M 11 5 = bI (mf4 g 0) := hp.2.2.2.2.2.1
  have h6 : M 11 6 = nI (of4 g 0) := hp.2.2.2.2.2.2.1
  have h16 : M 11 16 = bI (df4 g 0) := hp.2.2.2.2.2.2.2.2.2.2.2.2.2.2.1
  have ho4 : of4 g 0 < 8192 := Nat.mod_lt _ (by decide)
  have hb8 := hgb 8
  have hb9 := hgb 9
  have hnx : nx4 (g 9) < 256 := by unfold nx4; split <;> omega
  have h8f := cI_8 (fg4 g 0)
  unfold wp_X6_sendSix_0_11
  refine ⟨fun v => v = nI (nx4 (g 9)), ?_, ?_⟩
  · rintro _ rfl
    refine ⟨fun v => v = bI (sp6 g b.length), ?_, ?_⟩
    · rintro _ rfl
      refine ⟨fun v => v = bI (sp6 g b.length ∨ fg4 g 0), ?_, ?_⟩
      · rintro _ rfl
        unfold sd6 at h
        generalize hfg : (sp6 g b.length ∨ fg4 g 0) = fg at h ⊢
        have hfg2 : sp6 g b.length → fg := fun z => hfg ▸ Or.inl z
        generalize sp6 g b.length = sp at h hfg2 ⊢
        have h8 := cI_8 fg
        refine ⟨fun v => v = nI (cI fg 8 0), ?_, ?_⟩
        · rintro _ rfl
          generalize hpk : pk6 kp fg sp (mf4 g 0) (g 1) (nx4 (g 9)) (g 8 - 1) (uN (upA H B (sr4 g 0))) (uN (loA Lo B (sr4 g 0))) (uN (upA H B (tg4 g 0))) (uN (loA Lo B (tg4 g 0))) (of4 g 0) (wd8 g 4) b = pk at h
          refine ⟨fun x5 x6 M7 => ∃ d k PK, x5 = nI d ∧ x6 = nI k ∧ outC M7 PK ∧ PK.length = k ∧ PK.flatten.length = k * 1280 ∧ d = k * 1232 ∧ (k = 0 ∨ sp) ∧ (k = 0 ∨ d < b.length) ∧ fr M M7 [5, 6, 7, 8, 9] ∧ pInv (pz6 sp b.length) pk b.length PK d, fun x5 _ _ => 3000 - x5.toNatClampNeg, ⟨0, 0, [], rfl, rfl, ho, rfl, rfl, rfl, Or.inl rfl, Or.inl rfl, fr_r _ _, pInv_0 _ _ _⟩, ?_⟩
          rintro _ _ M7 ⟨d, k, PK, rfl, rfl, o7, e1, e2, e3, e4, e5, f7, hI⟩
          have hk1 : k ≤ 1 := by omega
          refine qg k _ (fun c => by omega) (fun _ => ?_) rfl (by omega) (by omega)
          rw [f7 3 (by decide), hb1]
          refine pk_lt b.length d (fun c => by omega) (fun cd => ?_) rfl rfl (by omega) (by omega)
          rw [show nI b.length - nI d = nI (b.length - d) from pk_sub cd]
          rintro _ rfl
          have hsz := pz6_le sp b.length d
          refine ⟨fun v => v = nI (pz6 sp b.length d), ?_, ?_⟩
          · rintro _ rfl
            obtain ⟨hroom2, hroom3, hroom4⟩ : k * 1280 + (40 + cI fg 8 0) + pz6 sp b.length d ≤ 3332 ∧ k * 1280 + 40 + 8 ≤ 3332 ∧ k * 1280 + 40 ≤ 3332 := by refine ⟨?_, ?_, ?_⟩ <;> omega
            have hoff : of4 g 0 + d / 8 < 16384 := by omega
            have hds : d + pz6 sp b.length d ≤ b.length := by omega
            have hpl := pk6_len kp fg sp (mf4 g 0) (g 1) (nx4 (g 9)) (g 8 - 1) (uN (upA H B (sr4 g 0))) (uN (loA Lo B (sr4 g 0))) (uN (upA H B (tg4 g 0))) (uN (loA Lo B (tg4 g 0))) (of4 g 0) (wd8 g 4) b d
            rw [hpk] at hpl
            refine p_open PK (40 + cI fg 8 0 + pz6 sp b.length d) o7 (by omega) (fun M8 f8 cl => ?_) (by rw [show (40 : Int32) = nI 40 from rfl, nI_add, nI_add])
            rw [e2] at cl ⊢
            have f8' : fr M M8 [5, 6, 7, 8, 9] := fr_t f7 (fr_s f8 (by decide))
            have hp8 : pk4 (M8 11) (L 11) g 0 n := by rw [f8' 11 (by decide)]; exact hp
            refine ⟨fun v => v = nI (cI fg 44 (nx4 (g 9))), ?_, ?_⟩
            · rintro _ rfl
              refine c_putSix_6_11 0 n (k * 1280) (cI fg 8 0 + pz6 sp b.length d) (cI fg 44 (nx4 (g 9))) (g 8 - 1) kp hgb hp8 (by rw [f8' 10 (by decide)]; exact hm) (by rw [f8' 0 (by decide)]; exact hk) hroom4 (fun M9 w9 => ?_) rfl (nI_add _ _) rfl (by rw [f8' 11 (by decide), h2]; exact pk_sub (a := g 8) (b := 1) (by omega))
              rw [Nat.zero_add] at w9
              refine ⟨fun M' => wr M8 M' 7 (k * 1280) (hd6 kp fg (g 1) (cI fg 8 0 + pz6 sp b.length d) (nx4 (g 9)) (g 8 - 1) (uN (upA H B (sr4 g 0))) (uN (loA Lo B (sr4 g 0))) (uN (upA H B (tg4 g 0))) (uN (loA Lo B (tg4 g 0))) (of4 g 0 + d / 8) (d + pz6 sp b.length d < b.length ∨ mf4 g 0) (wd8 g 4)), ?_, ?_⟩
              · intro M10 w10
                have e10 : fr M M10 [5, 6, 7, 8, 9] := fr_t f8' (wr_fr w10 (by decide))
                refine c_copy63 (b := b) d (k * 1280 + (40 + cI fg 8 0)) (pz6 sp b.length d) (by rw [e10 4 (by decide)]; exact hb) (fun M11 w11 => ?_) hds hbl hroom2 rfl (by rw [show (40 : Int32) = nI 40 from rfl, nI_add, nI_add, Nat.add_assoc]) rfl
                have w12 := wr_app w10 w11 (by rw [hd6_len])
                have w13 : wr M8 M11 7 (k * 1280) (pk d) := by rw [← hpk]; exact w12
                have o11 := cl M11 (pk d) w13 hpl (by rw [← Nat.add_assoc]; exact hroom2)
                have f11 : fr M M11 [5, 6, 7, 8, 9] := fr_t f8' (wr_fr w13 (by decide))
                refine pn_eq (pz6 sp b.length d) (b.length - d) (fun c => ?_) (fun c => ?_) rfl rfl (by omega) (by omega)
                · refine h M11 f11 ?_
                  rw [← pInv_e hI (by omega)]
                  exact o11
                · have hsp : sp ∧ 1232 < b.length - d := Classical.byContradiction (fun z => c (cI_f z))
                  have hz : pz6 sp b.length d = 1232 := cI_t hsp
                  have hfgt : cI fg 8 0 = 8 := cI_t (hfg2 hsp.1)
                  rintro _ rfl _ rfl
                  refine ⟨⟨d + pz6 sp b.length d, k + 1, PK ++ [pk d], nI_add _ _, nI_1 k, o11, by rw [List.length_append, e1]; rfl, ?_, by omega, Or.inr hsp.1, Or.inr (by omega), f11, pInv_s hI (by omega) (by omega)⟩, ?_⟩
                  · rw [flat_app, List.length_append, e2, hpl]; omega
                  · dsimp only
                    rw [nI_add, nI_clamp (by omega), nI_clamp (by omega)]
                    omega
              · refine bz (fun c => ?_) (fun c => ?_)
                · unfold hd6
                  rw [cI_f (a := fh _ _ _ _) c, List.append_nil]
                  exact w9
                · have e9 : M9 11 = M 11 := (w9.1 11 (by decide)).trans (f8' 11 (by decide))
                  rw [e9, h6, h5, h4, show nI d / (8 : Int32) = nI (d / 8) from pk_div (by omega) (by decide) (by decide), nI_add]
                  refine ⟨fun v => v = bI (d + pz6 sp b.length d < b.length ∨ mf4 g 0), ?_, ?_⟩
                  · rintro _ rfl
                    refine c_putFragment_6 (k * 1280 + 40) (nx4 (g 9)) (of4 g 0 + d / 8) (wd8 g 4) _ hnx hoff hroom3 (fun M10 w10 => ?_) (nI_add _ 40) rfl rfl rfl rfl
                    unfold hd6
                    rw [cI_t (a := fh _ _ _ _) c]
                    exact wr_app w9 w10 (by rw [h6_len])
                  · by_cases cm : d + pz6 sp b.length d < b.length ∨ mf4 g 0
                    · rw [bI_t cm]
                      refine ⟨True, fun _ => rfl, ?_⟩
                      refine pk_lt (pz6 sp b.length d) (b.length - d) (fun _ => trivial) (fun c3 => ?_) rfl rfl (by omega) (by omega)
                      exact bz (fun c4 => absurd (cm.resolve_left (by omega)) c4) (fun _ => trivial)
                    · rw [bI_f cm]
                      refine ⟨False, False.elim, ?_⟩
                      refine pk_lt (pz6 sp b.length d) (b.length - d) (fun c3 => cm (Or.inl (by omega))) (fun c3 => ?_) rfl rfl (by omega) (by omega)
                      exact bz (fun c4 => rfl) (fun c4 => cm (Or.inr c4))
            · exact bz (fun c => by rw [cI_f c]) (fun c => by rw [cI_t c]; rfl)
          · unfold pz6
            refine bz (fun c => by rw [cI_f (fun z => c z.1)]) (fun c => ?_)
            show (if (1232 : Int32) < nI (b.length - d) then (1232 : Int32) else nI (b.length - d)) = _
            rw [show (1232 : Int32) = nI 1232 from rfl, nI_if (by decide) (by omega)]
            by_cases z : 1232 < b.length - d
            · rw [if_pos z, cI_t ⟨c, z⟩]
            · rw [if_neg z, cI_f (fun y => z y.2)]
        · exact bz (fun c => by rw [cI_f c]; rfl) (fun c => by rw [cI_t c]; rfl)
      · by_cases c : sp6 g b.length ∨ fg4 g 0
        · rw [bI_t c]
          refine ⟨True, fun _ => rfl, ?_⟩
          refine zb (fun c1 => ?_) (fun _ => trivial)
          refine c_fragment_11 0 n hgb hp ?_
          exact bz (fun c2 => absurd c (fun z => z.elim c1 c2)) (fun _ => trivial)
        · rw [bI_f c]
          refine ⟨False, False.elim, ?_⟩
          refine zb (fun c1 => ?_) (fun c1 => c (Or.inl c1))
          refine c_fragment_11 0 n hgb hp ?_
          exact bz (fun c2 => rfl) (fun c2 => c (Or.inr c2))
    · rw [h16, hb1]
      by_cases c : sp6 g b.length
      · rw [bI_t c]
        refine ⟨False, False.elim, ?_⟩
        refine zb (fun c1 => ?_) (fun c1 => c.1 c1)
        refine c_fragmentHeader_11 0 n hgb hp ?_
        refine ql (40 + cI (fg4 g 0) 8 0 + b.length) _ (fun c2 => by have := c.2; omega) (fun _ => rfl) (by rw [show (40 : Int32) = nI 40 from rfl, nI_add, nI_add]) (by omega) (by omega)
      · rw [bI_f c]
        refine ⟨True, fun _ => rfl, ?_⟩
        refine zb (fun c1 => ?_) (fun _ => trivial)
        refine c_fragmentHeader_11 0 n hgb hp ?_
        refine ql (40 + cI (fg4 g 0) 8 0 + b.length) _ (fun _ => trivial) (fun c2 => (c ⟨c1, c2⟩).elim) (by rw [show (40 : Int32) = nI 40 from rfl, nI_add, nI_add]) (by omega) (by omega)
  · rw [h3]
    unfold nx4
    refine qen (g 9) _ (fun c => by rw [if_pos c]; rfl) (fun c => by rw [if_neg c]) rfl (by omega) (by omega)
theorem d_loop6 {M : cM} {L : cL} {r v28 v32 v33 : Int32} {Z : Int32 → cM → cL → Prop} {g : Nat → Nat} {H Lo : Int64} {B : Nat} (b : List Nat) (kp : Prop) (hg : at8 (M 1) 2400 = g) (hk : M 0 11 = bI kp) (h33 : M 0 33 = nI (of4 g 0 * 8)) (h34 : M 0 34 = bI (mf4 g 0)) (h35 : M 0 35 = nI (g 9)) (hA : L 0 27 = upA H B (sr4 g 0)) (hB : L 0 28 = loA Lo B (sr4 g 0)) (hC : L 0 29 = upA H B (tg4 g 0)) (hD : L 0 30 = loA Lo B (tg4 g 0)) (ho : outR M []) (hb : holds (M 5) 0 b) (hb1 : M 0 24 = nI b.length) (hbl : b.length ≤ 2408) (hh : 1 < g 8)
    (h : ∀ M', fz M M' [0, 2, 3, 4] [20, 22] → M' 2 = upv (M 2) 0 → outR M' (sd6 g H Lo B kp b) → Z 0 M' L) (hr : r = nI (g 8)) (e28 : v28 = bI (fg4 g 0)) (e32 : v32 = bI (sp6 g b.length)) (e33 : v33 = nI (cI (sp6 g b.length) 1232 b.length)) : wp_loop6 M L r v28 v32 v33 Z := by
  subst hr e28 e32 e33
  have hgb : ∀ i, g i < 256 := fun i => by rw [← hg]; exact at8_lt _ _ _
  have ho4 : of4 g 0 < 8192 := Nat.mod_lt _ (by decide)
  have hb8 := hgb 8
  have hb9 := hgb 9
  have hb1g := hgb 1
  unfold sd6 at h
  unfold wp_loop6
  generalize hfg : (sp6 g b.length ∨ fg4 g 0) = fg at h
  have hfg2 : sp6 g b.length → fg := fun z => hfg ▸ Or.inl z
  have hfg3 : fg ↔ (sp6 g b.length ∨ fg4 g 0) := by rw [hfg]
  generalize sp6 g b.length = sp at h hfg2 hfg3 ⊢
  have h8 := cI_8 fg
  generalize hpk : pk6 kp fg sp (mf4 g 0) (g 1) (nx4 (g 9)) (g 8 - 1) (uN (upA H B (sr4 g 0))) (uN (loA Lo B (sr4 g 0))) (uN (upA H B (tg4 g 0))) (uN (loA Lo B (tg4 g 0))) (of4 g 0) (wd8 g 4) b = pk at h
  refine ⟨fun x M7 => ∃ d k PK, x = nI d ∧ outR M7 PK ∧ PK.length = k ∧ PK.flatten.length = k * 1280 ∧ d = k * 1232 ∧ (k = 0 ∨ sp) ∧ (k = 0 ∨ d < b.length) ∧ fz M M7 [0, 3, 4] [20, 22] ∧ pInv (pz6 sp b.length) pk b.length PK d, fun x _ => 3000 - x.toNatClampNeg, ⟨0, 0, [], rfl, ho, rfl, rfl, rfl, Or.inl rfl, Or.inl rfl, fz_r _ _ _, pInv_0 _ _ _⟩, ?_⟩
  rintro _ M7 ⟨d, k, PK, rfl, o7, e1, e2, e3, e4, e5, f7, hI⟩
  have hk1 : k ≤ 1 := by omega
  have hdl : d ≤ b.length := by omega
  have hsz := pz6_le sp b.length d
  have hpl := pk6_len kp fg sp (mf4 g 0) (g 1) (nx4 (g 9)) (g 8 - 1) (uN (upA H B (sr4 g 0))) (uN (loA Lo B (sr4 g 0))) (uN (upA H B (tg4 g 0))) (uN (loA Lo B (tg4 g 0))) (of4 g 0) (wd8 g 4) b d
  rw [hpk] at hpl
  refine ⟨fun v => v = nI (pz6 sp b.length d), ?_, ?_⟩
  · rintro _ rfl
    refine ⟨fun v => v = nI (cI fg 8 0), ?_, ?_⟩
    · rintro _ rfl
      refine r_more (k * 1280) (40 + cI fg 8 0 + pz6 sp b.length d) (fun M8 w8 => ?_) (by rw [o7.2.1, e2]) (by omega) (by rw [show (40 : Int32) = nI 40 from rfl, nI_add, nI_add])
      have f9 : fz M (mu M8 0 20 (nI (k * 1280 + (40 + cI fg 8 0 + pz6 sp b.length d)))) [0, 3, 4] [20, 22] := fz_t (fz_t f7 (wr_fz w8 (by decide) (by decide))) (mu_fz0 _ _ _ (by decide) (by decide))
      have z9 : holds (mu M8 0 20 (nI (k * 1280 + (40 + cI fg 8 0 + pz6 sp b.length d))) 3) (k * 1280) (zs (40 + cI fg 8 0 + pz6 sp b.length d)) := w8.2.2
      have q9 : holds (mu M8 0 20 (nI (k * 1280 + (40 + cI fg 8 0 + pz6 sp b.length d))) 3) 0 PK.flatten := wr_keep (M' := M8) (c := 3) (a := k * 1280) (b := 0) (m := PK.flatten) w8 o7.2.2.2 (Or.inl (by omega))
      have p9 : mu M8 0 20 (nI (k * 1280 + (40 + cI fg 8 0 + pz6 sp b.length d))) 0 20 = nI (k * 1280 + (40 + cI fg 8 0 + pz6 sp b.length d)) := rfl
      have t9 : mu M8 0 20 (nI (k * 1280 + (40 + cI fg 8 0 + pz6 sp b.length d))) 0 22 = nI PK.length := (by rw [w8.1 0 (by decide)]; exact o7.1 : M8 0 22 = nI PK.length)
      have u9 : ∀ i, i ≤ PK.length → mu M8 0 20 (nI (k * 1280 + (40 + cI fg 8 0 + pz6 sp b.length d))) 4 i = nI (offs PK i) := fun i hi => (by rw [w8.1 4 (by decide)]; exact o7.2.2.1 i hi : M8 4 i = nI (offs PK i))
      generalize mu M8 0 20 (nI (k * 1280 + (40 + cI fg 8 0 + pz6 sp b.length d))) = M9 at f9 z9 q9 p9 t9 u9 ⊢
      have g9 : at8 (M9 1) 2400 = g := by rw [f9.1 1 (by decide)]; exact hg
      refine d_oct 1 g9 ?_ (by omega) rfl
      refine ⟨fun v => v = bI fg, ?_, ?_⟩
      · rintro _ rfl
        refine ⟨fun v => v = bI (d + pz6 sp b.length d < b.length ∨ mf4 g 0), ?_, ?_⟩
        · rintro _ rfl
          refine d_two 4 g9 ?_ (by omega) rfl
          rw [p9, f9.2 33 (by decide), h33]
          refine d_head6 (k * 1280) (g 1) (cI fg 8 0 + pz6 sp b.length d) (g 9) (g 8 - 1) (uN (upA H B (sr4 g 0))) (uN (loA Lo B (sr4 g 0))) (uN (upA H B (tg4 g 0))) (uN (loA Lo B (tg4 g 0))) (of4 g 0 + d / 8) (wd8 g 4) (pz6 sp b.length d) kp fg (d + pz6 sp b.length d < b.length ∨ mf4 g 0) (by rw [f9.2 11 (by decide)]; exact hk) (by rw [f9.2 35 (by decide)]; exact h35) hb9 hb1g (by omega) (by omega) (by rw [hA]) (by rw [hB]) (by rw [hC]) (by rw [hD]) z9 (by omega) (fun M10 w10 => ?_) rfl rfl (by rw [show nI (k * 1280 + (40 + cI fg 8 0 + pz6 sp b.length d)) - nI (k * 1280) = nI (40 + cI fg 8 0 + pz6 sp b.length d) from by rw [pk_sub (by omega)]; congr 1; omega, show (40 : Int32) = nI 40 from rfl, pk_sub (by omega)]; congr 1; omega) (pk_sub (a := g 8) (b := 1) (by omega)) rfl (by rw [nI_add]; congr 1; omega) rfl rfl
          refine ⟨fun x M11 => ∃ i, i ≤ pz6 sp b.length d ∧ x = nI i ∧ wr M10 M11 3 (k * 1280 + (40 + cI fg 8 0)) (seg (at8 (M10 5) 5000) d i), fun x _ => pz6 sp b.length d - x.toNatClampNeg, ⟨0, Nat.zero_le _, rfl, wr_nil _ _ _⟩, ?_⟩
          rintro _ M11 ⟨i, hi, rfl, w11⟩
          have e20 : M11 0 20 = nI (k * 1280 + (40 + cI fg 8 0 + pz6 sp b.length d)) := by rw [w11.1 0 (by decide), w10.1 0 (by decide)]; exact p9
          refine pk_le (pz6 sp b.length d) i (fun ci => ?_) (fun ci => ?_) rfl rfl (by omega) (by omega)
          · have ei : i = pz6 sp b.length d := by omega
            subst ei
            have hb5 : holds (M10 5) 0 b := by rw [w10.1 5 (by decide), f9.1 5 (by decide)]; exact hb
            have es := seg_holds hb5 (n := 5000) (by omega) (i := d) (k := pz6 sp b.length d) (by omega)
            rw [Nat.zero_add] at es
            rw [es] at w11
            have w12 := wr_ov' w10 w11 (by rw [hd6_len]) 0 (by rw [List.length_take, List.length_drop, Nat.min_eq_left hsz]; rfl)
            rw [show zs 0 = [] from rfl, List.append_nil] at w12
            have w13 : wr M9 M11 3 (k * 1280) (pk d) := by rw [← hpk]; exact w12
            have hw22 : M11 0 22 = nI PK.length := by rw [w13.1 0 (by decide)]; exact t9
            have hw4 : ∀ i, i ≤ PK.length → M11 4 i = nI (offs PK i) := by rw [w13.1 4 (by decide)]; exact u9
            refine r_part PK (pk d) hw22 (by rw [e20, e2, hpl]) hw4 (wr_keep (b := 0) (m := PK.flatten) w13 q9 (Or.inl (by omega))) (by rw [e2]; exact w13.2.2) (by omega) (fun M12 f12 o12 => ?_)
            rintro _ rfl
            have f13 : fz M M12 [0, 3, 4] [20, 22] := fz_t (fz_t f9 (wr_fz w13 (by decide) (by decide))) (fz_s f12 (by decide) (by decide))
            refine pk_lt (d + pz6 sp b.length d) b.length (fun c => ?_) (fun c => ?_) (nI_add _ _) (by rw [f13.2 24 (by decide)]; exact hb1) (by omega) (by omega)
            · have hsp : sp ∧ 1232 < b.length - d := Classical.byContradiction (fun z => by have : pz6 sp b.length d = b.length - d := cI_f z; omega)
              have hz : pz6 sp b.length d = 1232 := cI_t hsp
              have hfgt : cI fg 8 0 = 8 := cI_t (hfg2 hsp.1)
              refine ⟨⟨d + pz6 sp b.length d, k + 1, PK ++ [pk d], nI_add _ _, o12, by rw [List.length_append, e1]; rfl, ?_, by omega, Or.inr hsp.1, Or.inr (by omega), f13, pInv_s hI (by omega) (by omega)⟩, ?_⟩
              · rw [flat_app, List.length_append, e2, hpl]; omega
              · dsimp only
                rw [nI_add, nI_clamp (by omega), nI_clamp (by omega)]
                omega
            · refine r_tellK 0 (Or.inl rfl) (fun M14 f14 e14 => ?_) rfl
              refine h M14 (fz_t (fz_s f13 (by decide) (by decide)) (fz_s f14 (by decide) (by decide))) (by rw [e14, f13.1 2 (by decide)]) ?_
              rw [← pInv_e hI (by omega)]
              exact outR_f o12 f14 (by decide) (by decide) (by decide) (by decide)
          · rw [e20, nI_add, show nI (k * 1280 + (40 + cI fg 8 0 + pz6 sp b.length d)) - nI (pz6 sp b.length d) = nI (k * 1280 + (40 + cI fg 8 0)) from by rw [pk_sub (by omega)]; congr 1; omega, nI_add, nI_clamp (by omega), nI_clamp (by omega)]
            refine ⟨vp_in_nI (by omega) (by decide), vp_in_nI (by omega) (by decide), ?_⟩
            rintro _ rfl _ rfl
            refine ⟨⟨i + 1, by omega, nI_1 _, cp_step w11 (by decide) (by omega)⟩, ?_⟩
            dsimp only
            rw [nI_1, nI_clamp (by omega), nI_clamp (by omega)]
            omega
        · rw [f9.2 24 (by decide), hb1, f9.2 34 (by decide), h34]
          by_cases cm : d + pz6 sp b.length d < b.length ∨ mf4 g 0
          · rw [bI_t cm]
            refine ⟨True, fun _ => rfl, ?_⟩
            refine pk_lt (d + pz6 sp b.length d) b.length (fun _ => trivial) (fun c3 => ?_) (nI_add _ _) rfl (by omega) (by omega)
            exact bz (fun c4 => absurd (cm.resolve_left (by omega)) c4) (fun _ => trivial)
          · rw [bI_f cm]
            refine ⟨False, False.elim, ?_⟩
            refine pk_lt (d + pz6 sp b.length d) b.length (fun c3 => cm (Or.inl c3)) (fun c3 => ?_) (nI_add _ _) rfl (by omega) (by omega)
            exact bz (fun c4 => rfl) (fun c4 => cm (Or.inr c4))
      · by_cases c : fg
        · rw [bI_t c]
          refine ⟨True, fun _ => rfl, ?_⟩
          refine zb (fun c1 => ?_) (fun _ => trivial)
          exact bz (fun c2 => absurd (hfg3.mp c) (fun z => z.elim c2 c1)) (fun _ => trivial)
        · rw [bI_f c]
          refine ⟨False, False.elim, ?_⟩
          refine zb (fun c1 => ?_) (fun c1 => c (hfg3.mpr (Or.inr c1)))
          exact bz (fun c2 => rfl) (fun c2 => c (hfg3.mpr (Or.inl c2)))
    · by_cases c : fg
      · rw [cI_t c]
        refine ⟨True, fun _ => rfl, ?_⟩
        refine zb (fun c1 => ?_) (fun _ => trivial)
        exact bz (fun c2 => absurd (hfg3.mp c) (fun z => z.elim c2 c1)) (fun _ => trivial)
      · rw [cI_f c]
        refine ⟨False, False.elim, ?_⟩
        refine zb (fun c1 => ?_) (fun c1 => c (hfg3.mpr (Or.inr c1)))
        exact bz (fun c2 => rfl) (fun c2 => c (hfg3.mpr (Or.inl c2)))
  · rw [f7.2 24 (by decide), hb1, show nI b.length - nI d = nI (b.length - d) from pk_sub hdl]
    have hc : cI sp 1232 b.length ≤ 3000 := cI_le (by decide) (by omega)
    unfold pz6
    refine pk_le (cI sp 1232 b.length) (b.length - d) (fun c => ?_) (fun c => ?_) rfl rfl (by omega) (by omega)
    · by_cases z : sp
      · rw [cI_t z] at c ⊢
        by_cases z2 : 1232 < b.length - d
        · rw [cI_t ⟨z, z2⟩]
        · rw [cI_f (fun y => z2 y.2)]; congr 1; omega
      · rw [cI_f z] at c ⊢
        rw [cI_f (fun y => z y.1)]; congr 1; omega
    · by_cases z : sp
      · rw [cI_t z] at c
        rw [cI_f (fun y => by omega)]
      · rw [cI_f (fun y => z y.1)]
