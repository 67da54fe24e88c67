theorem Rel_mk {M M' N N' : cM} {L L' K K' : cL} (hR : Rel M L N K) (hT : ∃ n, rTape M' N' n) (hO : rOut M' N') (hC : rCnt M' N') (m0 : ∀ j, j ≠ 16 → M' 0 j = M 0 j) (m10 : M' 10 = M 10) (l0 : L' 0 = L 0) (l10 : L' 10 = L 10) (n0 : ∀ j, j ∈ [5, 6, 9, 10, 11, 12] → N' 0 j = N 0 j) (k0 : ∀ j, j ∈ [3, 4, 7, 8] → K' 0 j = K 0 j) : Rel M' L' N' K' := by
  obtain ⟨_, ⟨H, Lo, B, hc, hr⟩, hw, ⟨m4, m6, q1, q2, q3, q4, a1, a2, a3, a4⟩, ⟨kp, lt, b1, b2, b3, b4⟩, _, _⟩ := hR
  refine ⟨hT, ⟨H, Lo, B, ?_, ?_⟩, ⟨?_, ?_, ?_⟩, ⟨m4, m6, q1, q2, q3, q4, ?_, ?_, ?_, ?_⟩, ⟨kp, lt, ?_, ?_, ?_, ?_⟩, hC, hO⟩
  · rw [m10, l10]; exact hc
  · exact ⟨(n0 5 (by decide)).trans hr.1, (k0 3 (by decide)).trans hr.2.1, (k0 4 (by decide)).trans hr.2.2.1, hr.2.2.2⟩
  · rw [m0 9 (by decide), n0 6 (by decide)]; exact hw.1
  · rw [l0, k0 7 (by decide)]; exact hw.2.1
  · rw [l0, k0 8 (by decide)]; exact hw.2.2
  · rw [m0 12 (by decide)]; exact a1
  · rw [m0 13 (by decide)]; exact a2
  · rw [n0 9 (by decide)]; exact a3
  · rw [n0 10 (by decide)]; exact a4
  · rw [m0 14 (by decide)]; exact b1
  · rw [m0 15 (by decide)]; exact b2
  · rw [n0 11 (by decide)]; exact b3
  · rw [n0 12 (by decide)]; exact b4
theorem Rel_0 : Rel cpM0 cpL0 rpM0 rpL0 := by
  have c2 : ∀ j, cpM0 2 j = 0 := fun j => rfl
  have r1 : ∀ j, rpM0 1 j = 0 := fun j => rfl
  refine ⟨⟨0, by decide, rfl, rfl, ?_, fun j => by rw [c2]; exact isBy_0⟩, ⟨28428538856079360, 0, 96, ⟨rfl, rfl, rfl, Or.inr ⟨rfl, by decide, by decide⟩⟩, ⟨rfl, rfl, rfl, Or.inr ⟨rfl, by decide, by decide⟩⟩⟩, ⟨rfl, rfl, rfl⟩, ⟨1500, 1500, by decide, by decide, by decide, by decide, rfl, rfl, rfl, rfl⟩, ⟨True, True, (bI_t trivial).symm, (bI_t trivial).symm, (bI_t trivial).symm, (bI_t trivial).symm⟩, ⟨⟨0, by decide, rfl, rfl⟩, fun k _ => rfl⟩, ⟨[], ⟨rfl, rfl, trivial, fun i hi => absurd hi (Nat.not_lt_zero _), by decide, by decide⟩, ⟨rfl, rfl, fun i hi => by have e : i = 0 := Nat.le_zero.mp hi; subst e; rfl, trivial⟩⟩⟩
  funext j
  rw [c2, r1]
theorem upv_same {r s : Nat → Int32} {v : Nat} (h : ∀ k, k ≤ 10 → r k = s k) : ∀ k, k ≤ 10 → upv r v k = upv s v k := by
  intro k hk
  unfold upv
  rw [h k hk]
theorem t_end {M N : cM} {L K : cL} {f : Nat → Int64} {x : Int32} {P : cM → cL → cM → cL → (Nat → Int64) → Prop} (hR : Rel M L N K) (hP : ∀ M' N' f', Rel M' L N' K → P M' L N' K f') (V : Prop) (hV : V) : wph_end M L f x (fun r11 M12 L13 f14 => (V ∧ wp_X7_end_0 N K x (fun r15 M16 => wp_X7_thrown_0 M16 K (fun r17 => ((r17 = r11 → (∃ Q : Prop, (Q → P M12 L13 M16 K f14) ∧ ((¬ r11 = 0 → Q) ∧ (r11 = 0 → ((lg_cmp (f14 (0 : Int32).toNatClampNeg) (r15.toInt64) = 0 → Q) ∧ (¬ lg_cmp (f14 (0 : Int32).toNatClampNeg) (r15.toInt64) = 0 → False)))))) ∧ (¬ r17 = r11 → False)))))) := by
  obtain ⟨⟨n, hT⟩, hM, hO, hL, hW, hC, hU⟩ := hR
  have hR : Rel M L N K := ⟨⟨n, hT⟩, hM, hO, hL, hW, hC, hU⟩
  have hn := hT.1
  unfold wph_end wp_X6_end_0 wp_X7_end_0 wp_X7_thrown_0
  rw [hT.2.1, hT.2.2.1]
  have bad : ∀ M2 : cM, M2 = mu N 0 0 (1 : Int32) → (((M2 0 0) ≤ 0 → ∀ M4 : cM, M4 = mu M2 0 2 x → ((M4 0 0 = (1 : Int32) → (∃ Q : Prop, (Q → P M L M4 K f) ∧ ((¬ (1 : Int32) = 0 → Q) ∧ ((1 : Int32) = 0 → ((lg_cmp (f (0 : Int32).toNatClampNeg) (x.toInt64) = 0 → Q) ∧ (¬ lg_cmp (f (0 : Int32).toNatClampNeg) (x.toInt64) = 0 → False)))))) ∧ (¬ M4 0 0 = (1 : Int32) → False))) ∧ (¬ (M2 0 0) ≤ 0 → ((M2 0 0 = (1 : Int32) → (∃ Q : Prop, (Q → P M L M2 K f) ∧ ((¬ (1 : Int32) = 0 → Q) ∧ ((1 : Int32) = 0 → ((lg_cmp (f (0 : Int32).toNatClampNeg) ((0 : Int32).toInt64) = 0 → Q) ∧ (¬ lg_cmp (f (0 : Int32).toNatClampNeg) ((0 : Int32).toInt64) = 0 → False)))))) ∧ (¬ M2 0 0 = (1 : Int32) → False)))) := by
    rintro _ rfl
    exact ⟨fun z => absurd (show (1 : Int32) ≤ 0 from z) (by decide), fun _ => tail_ok rfl (fun z => absurd z (by decide)) (hP _ _ _ (Rel_th 1 hR))⟩
  by_cases c1 : x < 0
  · refine ⟨True, fun _ => ⟨hV, ?_⟩, fun _ => trivial, fun z => absurd c1 z⟩
    refine ⟨fun v => v = 1, ?_, True, fun _ => rfl, fun _ => trivial, fun z => absurd c1 z⟩
    rintro _ rfl
    exact bad
  by_cases c2 : x ≤ nI n
  · refine ⟨False, False.elim, fun z => absurd z c1, fun _ => ⟨fun _ => ?_, fun z => absurd c2 z⟩⟩
    rintro _ rfl
    refine ⟨hV, ?_⟩
    refine ⟨fun v => v = 0, ?_, False, False.elim, fun z => absurd z c1, fun _ => ⟨fun _ => rfl, fun z => absurd c2 z⟩⟩
    rintro _ rfl
    rintro _ rfl
    refine ⟨fun _ => ?_, fun z => absurd (show (0 : Int32) ≤ 0 by decide) z⟩
    rintro _ rfl
    obtain ⟨q, hq, rfl⟩ := nI_of c1
    have hqn := (nI_leI hq (by omega)).mp c2
    refine tail_ok rfl (fun _ => upd_0 _ _) (hP _ _ _ ?_)
    exact ⟨⟨q, by omega, rfl, rfl, hT.2.2.2.1, hT.2.2.2.2⟩, hM, hO, hL, hW, hC, hU⟩
  · refine ⟨True, fun _ => ⟨hV, ?_⟩, fun z => absurd z c1, fun _ => ⟨fun z => absurd z c2, fun _ => trivial⟩⟩
    refine ⟨fun v => v = 1, ?_, True, fun _ => rfl, fun z => absurd z c1, fun _ => ⟨fun z => absurd z c2, fun _ => trivial⟩⟩
    rintro _ rfl
    exact bad
theorem t_limits {M N : cM} {L K : cL} {f : Nat → Int64} {x y : Int32} {P : cM → cL → cM → cL → (Nat → Int64) → Prop} (hR : Rel M L N K) (hP : ∀ M' N', Rel M' L N' K → P M' L N' K f) (V1 V2 : Prop) (h1 : V1) (h2 : V2) : wph_limits M L f x y (fun r33 M34 L35 f36 => (V1 ∧ (V2 ∧ wp_X7_limits_0 N K x y (fun M37 => wp_X7_thrown_0 M37 K (fun r38 => ((r38 = r33 → P M34 L35 M37 K f36) ∧ (¬ r38 = r33 → False))))))) := by
  have hR0 := hR
  obtain ⟨hT, hM, hO, hL, hW, hC, hU⟩ := hR
  unfold wph_limits wp_X6_limits_0
  have bad : (x < 68 ∨ (¬ x < 68 ∧ (2000 : Int32) < x) ∨ (¬ x < 68 ∧ ¬ (2000 : Int32) < x ∧ y < 1280) ∨ (¬ x < 68 ∧ ¬ (2000 : Int32) < x ∧ ¬ y < 1280 ∧ ¬ y ≤ 2000)) → V1 ∧ (V2 ∧ wp_X7_limits_0 N K x y (fun M37 => wp_X7_thrown_0 M37 K (fun r38 => ((r38 = (1 : Int32) → P M L M37 K f) ∧ (¬ r38 = (1 : Int32) → False))))) := by
    intro hb
    refine ⟨h1, h2, ?_⟩
    unfold wp_X7_limits_0 wp_X7_thrown_0
    refine ⟨fun v => v = 1, ?_, True, fun _ => rfl, ?_⟩
    · rintro _ rfl
      rintro _ rfl
      exact ⟨fun z => absurd (show (1 : Int32) ≤ 0 from z) (by decide), fun _ => ⟨fun _ => hP _ _ (Rel_th 1 hR0), fun z => z rfl⟩⟩
    · rcases hb with c | ⟨c, c2⟩ | ⟨c, c2, c3⟩ | ⟨c, c2, c3, c4⟩
      · exact ⟨fun _ => trivial, fun z => absurd c z⟩
      · exact ⟨fun _ => trivial, fun _ => ⟨fun _ => trivial, fun z => absurd c2 z⟩⟩
      · exact ⟨fun _ => trivial, fun _ => ⟨fun _ => trivial, fun _ => ⟨fun _ => trivial, fun z => absurd c3 z⟩⟩⟩
      · exact ⟨fun _ => trivial, fun _ => ⟨fun _ => trivial, fun _ => ⟨fun _ => trivial, fun _ => ⟨fun z => absurd z c4, fun _ => trivial⟩⟩⟩⟩
  by_cases c1 : x < 68
  · exact ⟨True, fun _ => bad (Or.inl c1), fun _ => trivial, fun z => absurd c1 z⟩
  by_cases c2 : (2000 : Int32) < x
  · exact ⟨True, fun _ => bad (Or.inr (Or.inl ⟨c1, c2⟩)), fun _ => trivial, fun _ => ⟨fun _ => trivial, fun z => absurd c2 z⟩⟩
  by_cases c3 : y < 1280
  · exact ⟨True, fun _ => bad (Or.inr (Or.inr (Or.inl ⟨c1, c2, c3⟩))), fun _ => trivial, fun _ => ⟨fun _ => trivial, fun _ => ⟨fun _ => trivial, fun z => absurd c3 z⟩⟩⟩
  by_cases c4 : y ≤ 2000
  · refine ⟨False, False.elim, fun z => absurd z c1, fun _ => ⟨fun z => absurd z c2, fun _ => ⟨fun z => absurd z c3, fun _ => ⟨fun _ => ?_, fun z => absurd c4 z⟩⟩⟩⟩
    rintro _ rfl _ rfl
    refine ⟨h1, h2, ?_⟩
    unfold wp_X7_limits_0 wp_X7_thrown_0
    refine ⟨fun v => v = 0, ?_, False, False.elim, fun z => absurd z c1, fun _ => ⟨fun z => absurd z c2, fun _ => ⟨fun z => absurd z c3, fun _ => ⟨fun _ => rfl, fun z => absurd c4 z⟩⟩⟩⟩
    rintro _ rfl
    rintro _ rfl
    refine ⟨fun _ => ?_, fun z => absurd (show (0 : Int32) ≤ 0 by decide) z⟩
    rintro _ rfl _ rfl
    refine ⟨fun _ => hP _ _ ?_, fun z => z rfl⟩
    have x0 : ¬ x < 0 := fun z => c1 (Int32.lt_trans z (by decide))
    have y0 : ¬ y < 0 := fun z => c3 (Int32.lt_trans z (by decide))
    obtain ⟨a, ha, rfl⟩ := nI_of x0
    obtain ⟨b, hb, rfl⟩ := nI_of y0
    have d1 : ¬ a < 68 := fun z => c1 ((nI_ltI (b := 68) ha (by decide)).mpr z)
    have d2 : ¬ 2000 < a := fun z => c2 ((nI_ltI (a := 2000) (by decide) ha).mpr z)
    have d3 : ¬ b < 1280 := fun z => c3 ((nI_ltI (b := 1280) hb (by decide)).mpr z)
    have d4 : b ≤ 2000 := (nI_leI (b := 2000) hb (by decide)).mp c4
    exact ⟨hT, hM, hO, ⟨a, b, by omega, by omega, by omega, by omega, rfl, rfl, rfl, rfl⟩, hW, hC, hU⟩
  · exact ⟨True, fun _ => bad (Or.inr (Or.inr (Or.inr ⟨c1, c2, c3, c4⟩))), fun _ => trivial, fun _ => ⟨fun _ => trivial, fun _ => ⟨fun _ => trivial, fun _ => ⟨fun z => absurd z c4, fun _ => trivial⟩⟩⟩⟩
theorem t_prefix {M N : cM} {L K : cL} {f : Nat → Int64} {x y : Int64} {z : Int32} {P : cM → cL → cM → cL → (Nat → Int64) → Prop} (hR : Rel M L N K) (hP : ∀ M' L' N' K', Rel M' L' N' K' → P M' L' N' K' f) (V1 V2 V3 V4 V5 : Prop) (h1 : V1) (h2 : V2) (h3 : V3) (h4 : V4) (h5 : V5) : wph_prefix M L f x y z (fun r21 M22 L23 f24 => (V1 ∧ (V2 ∧ (V3 ∧ (V4 ∧ (V5 ∧ wp_X7_prefix_0 N K x y z (fun M25 L26 => wp_X7_thrown_0 M25 L26 (fun r27 => ((r27 = r21 → P M22 L23 M25 L26 f24) ∧ (¬ r27 = r21 → False)))))))))) := by
  have hR0 := hR
  obtain ⟨hT, hM, hO, hL, hW, hC, hU⟩ := hR
  unfold wph_prefix wp_X6_prefix_0
  refine p_canBe (fun B hB hx hp => ?_) (fun hn => ?_)
  · refine ⟨fun _ => ?_, fun w => absurd w (by decide)⟩
    rintro _ rfl _ rfl _ rfl
    refine ⟨h1, h2, h3, h4, h5, ?_⟩
    unfold wp_X7_thrown_0
    refine d_prefix (fun B' hB' hx' hp' => ?_) (fun hn => absurd hp (hn B hB hx))
    refine ⟨fun _ => hP _ _ _ _ ?_, fun w => w rfl⟩
    exact ⟨hT, ⟨x, y, B, ⟨rfl, rfl, hx, hp⟩, ⟨hx, rfl, rfl, hp⟩⟩, hO, hL, hW, hC, hU⟩
  · refine ⟨fun w => absurd rfl w, fun _ => ?_⟩
    refine ⟨h1, h2, h3, h4, h5, ?_⟩
    unfold wp_X7_thrown_0
    refine d_prefix (fun B hB hx hp => absurd hp (hn B hB hx)) (fun _ => ?_)
    exact ⟨fun _ => hP _ _ _ _ (Rel_th 1 hR0), fun w => w rfl⟩
theorem t_feed {M N : cM} {L K : cL} {f : Nat → Int64} {p1 p2 p3 p4 p5 : Int32} {P : cM → cL → cM → cL → (Nat → Int64) → Prop} (hR : Rel M L N K) (hP : ∀ M' N' f', Rel M' L N' K → P M' L N' K f') (V1 V2 V3 V4 V5 : Prop) (h1 : V1) (h2 : V2) (h3 : V3) (h4 : V4) (h5 : V5) : wph_feed M L f p1 p2 p3 p4 p5 (fun r1 M2 L3 f4 => (V1 ∧ (V2 ∧ (V3 ∧ (V4 ∧ (V5 ∧ wp_X7_feed_0 N K p1 p2 p3 p4 p5 (fun r5 M6 => wp_X7_thrown_0 M6 K (fun r7 => ((r7 = r1 → (∃ Q : Prop, (Q → P M2 L3 M6 K f4) ∧ ((¬ r1 = 0 → Q) ∧ (r1 = 0 → ((lg_cmp (f4 (0 : Int32).toNatClampNeg) (r5.toInt64) = 0 → Q) ∧ (¬ lg_cmp (f4 (0 : Int32).toNatClampNeg) (r5.toInt64) = 0 → False)))))) ∧ (¬ r7 = r1 → False)))))))))) := by
  have hR0 := hR
  obtain ⟨⟨n, hT⟩, hM, hO, hL, hW, hC, hU⟩ := hR
  unfold wph_feed
  refine c_feed n hT.1 hT.2.1 (fun c => ?_) (fun c M' w => ?_)
  · refine ⟨h1, h2, h3, h4, h5, ?_⟩
    unfold wp_X7_thrown_0
    refine d_feed n hT.1 hT.2.2.1 (fun _ => ?_) (fun c2 => by omega)
    exact tail_ok rfl (fun z => absurd z (by decide)) (hP _ _ _ (Rel_th 1 hR0))
  · refine ⟨h1, h2, h3, h4, h5, ?_⟩
    unfold wp_X7_thrown_0
    refine d_feed n hT.1 hT.2.2.1 (fun c2 => by omega) (fun _ N' w' => ?_)
    refine tail_ok (by rw [w'.2.1 0 (by decide)]; rfl) (fun _ => upd_0 _ _) (hP _ _ _ ?_)
    have same := tape_same (N := mu N 0 0 0) (N' := N') hT.2.2.2.1 hT.2.2.2.2 w w'.2.2.2.1 w'.2.2.2.2
    have n0 : ∀ j, j ≠ 0 → j ≠ 2 → N' 0 j = N 0 j := fun j h0 h2 => (w'.2.1 j h2).trans (mu_oth _ _ _ _ h0)
    have nc : ∀ c, c ≠ 0 → c ≠ 1 → N' c = N c := fun c h0 h1 => (w'.1 c h0 h1).trans (mu_ne _ _ _ _ h0)
    obtain ⟨PK, oc', or⟩ := hU
    refine Rel_mk hR0 ⟨n + 20, c, rfl, by rw [w'.2.2.1, f5_len], same.1, same.2⟩ ⟨PK, ?_, ?_⟩ ⟨?_, ?_⟩ (fun j _ => by show M' 0 j = M 0 j; rw [w.1 0 (by decide)]) (show M' 10 = M 10 from w.1 10 (by decide)) rfl rfl (fun j hj => n0 j (fun z => by rw [z] at hj; exact absurd hj (by decide)) (fun z => by rw [z] at hj; exact absurd hj (by decide))) (fun j _ => rfl)
    · exact outC_f (outC_f oc' (wr_fr w (S := [2]) (by decide)) (by decide) (by decide) (by decide) (by decide) (by decide)) (mu_fr M' 1 1 (nI (n + 20)) (S := [1]) (by decide)) (by decide) (by decide) (by decide) (by decide) (by decide)
    · refine ⟨(n0 22 (by decide) (by decide)).trans or.1, (n0 20 (by decide) (by decide)).trans or.2.1, fun i hi => ?_, ?_⟩
      · rw [nc 4 (by decide) (by decide)]; exact or.2.2.1 i hi
      · rw [nc 3 (by decide) (by decide)]; exact or.2.2.2
    · obtain ⟨⟨ct, q1, q2, q3⟩, _⟩ := hC
      refine ⟨ct, q1, ?_, (n0 14 (by decide) (by decide)).trans q3⟩
      show M' 0 16 = nI ct
      rw [w.1 0 (by decide)]; exact q2
    · intro k hk
      rw [nc 2 (by decide) (by decide)]
      show N 2 k = M' 15 k
      rw [w.1 15 (by decide)]; exact hC.2 k hk
theorem t_four {M N : cM} {L K : cL} {P : cM → cL → cM → cL → Prop} (hR : Rel M L N K) (hP : ∀ M' L' N' K', Rel M' L' N' K' → P M' L' N' K') : wp_X6_four_0 M L (fun r50 M51 L52 => wp_X7_four__0 N K (fun r53 M54 L55 => ((r50 = r53 → P M51 L52 M54 L55) ∧ (¬ r50 = r53 → False)))) := by
  have hR0 := hR
  obtain ⟨⟨n, hT⟩, ⟨H, Lo, B, hc, hr⟩, hO, ⟨m4, m6, q1, q2, q3, q4, a1, a2, a3, a4⟩, ⟨kp, lt, b1, b2, b3, b4⟩, hC, hU⟩ := hR
  have hw : M 0 9 = nI (u32 (M 0 9)) := (nI_u32 _).symm
  refine c_four n (u32 (M 0 9)) m4 m6 kp lt rfl hT.2.2.2.2 hT.1 hT.2.1 hc b1 b2 hw q2 q4 q3 a1 a2 (fun M' L' f' k' e1 e15 o' => ?_)
  have hgN : at8 (N 1) 2400 = at8 (M 2) 2400 := by rw [hT.2.2.2.1]
  refine d_four n (u32 (M 0 9)) m4 m6 kp lt hgN (by rw [hT.2.2.2.1]; exact hT.2.2.2.2) hT.1 hT.2.2.1 hr b3 b4 (hO.1.symm.trans hw) q2 q4 q3 a3 a4 (fun N' K' g' l' t2 u2 or' => ?_)
  refine ⟨fun _ => hP _ _ _ _ ?_, fun z => z rfl⟩
  have m0 : M' 0 = M 0 := f' 0 (by decide)
  refine Rel_mk hR0 ⟨0, by decide, e1, t2, ?_, ?_⟩ ⟨_, o', or'⟩ ⟨?_, ?_⟩ (fun j _ => by rw [m0]) (f' 10 (by decide)) (k' 0 (by decide)) (k' 10 (by decide)) (fun j hj => g'.2 j (fun z => absurd z ((show ∀ c, c ∈ [5, 6, 9, 10, 11, 12] → c ∉ [0, 2, 20, 22, 24, 25, 26, 31, 32, 33, 34, 35, 36, 37, 38, 39] from by decide) j hj))) (fun j hj => l'.2 j (fun z => absurd z ((show ∀ c, c ∈ [3, 4, 7, 8] → c ∉ [15, 16, 18, 27, 28, 29, 30] from by decide) j hj)))
  · rw [g'.1 1 (by decide), f' 2 (by decide)]; exact hT.2.2.2.1
  · rw [f' 2 (by decide)]; exact hT.2.2.2.2
  · obtain ⟨⟨ct, d1, d2, d3⟩, _⟩ := hC
    exact ⟨ct, d1, by rw [m0]; exact d2, (g'.2 14 (by decide)).trans d3⟩
  · rw [u2, e15]
    exact upv_same hC.2
theorem t_six {M N : cM} {L K : cL} {P : cM → cL → cM → cL → Prop} (hR : Rel M L N K) (hP : ∀ M' L' N' K', Rel M' L' N' K' → P M' L' N' K') : wp_X6_six_0 M L (fun r57 M58 L59 => wp_X7_six_0 N K (fun r60 M61 L62 => ((r57 = r60 → P M58 L59 M61 L62) ∧ (¬ r57 = r60 → False)))) := by
  have hR0 := hR
  obtain ⟨⟨n, hT⟩, ⟨H, Lo, B, hc, hr⟩, hO, ⟨m4, m6, q1, q2, q3, q4, a1, a2, a3, a4⟩, ⟨kp, lt, b1, b2, b3, b4⟩, hC, hU⟩ := hR
  obtain ⟨⟨ct, d1, d2, d3⟩, hC2⟩ := hC
  refine c_six n m4 m6 ct (L 0 10) (L 0 11) kp rfl hT.2.2.2.2 hT.1 hT.2.1 hc b1 rfl rfl q1 q2 q4 q3 a1 a2 d2 d1 (fun M' L' f' s' k' e1 e15 c' o' => ?_)
  have hgN : at8 (N 1) 2400 = at8 (M 2) 2400 := by rw [hT.2.2.2.1]
  refine d_six n m4 m6 ct (L 0 10) (L 0 11) kp hgN (by rw [hT.2.2.2.1]; exact hT.2.2.2.2) hT.1 hT.2.2.1 hr b3 hO.2.1.symm hO.2.2.symm q1 q2 q4 q3 a3 a4 d3 d1 (fun N' K' g' l' t2 u2 c2 or' => ?_)
  refine ⟨fun _ => hP _ _ _ _ ?_, fun z => z rfl⟩
  refine Rel_mk hR0 ⟨0, by decide, e1, t2, ?_, ?_⟩ ⟨_, o', or'⟩ ⟨⟨_, (F6_ok _ _ _ _ _ _ _ _ _ _ _ d1).2, c', c2⟩, ?_⟩ s' (f' 10 (by decide)) (k' 0 (by decide)) (k' 10 (by decide)) (fun j hj => g'.2 j (fun z => absurd z ((show ∀ c, c ∈ [5, 6, 9, 10, 11, 12] → c ∉ [0, 2, 14, 17, 20, 22, 24, 25, 26, 33, 34, 35, 37, 38, 39, 40, 41, 42, 43] from by decide) j hj))) (fun j hj => l'.2 j (fun z => absurd z ((show ∀ c, c ∈ [3, 4, 7, 8] → c ∉ [15, 16, 18, 27, 28, 29, 30] from by decide) j hj)))
  · rw [g'.1 1 (by decide), f' 2 (by decide)]; exact hT.2.2.2.1
  · rw [f' 2 (by decide)]; exact hT.2.2.2.2
  · rw [u2, e15]
    exact upv_same hC2
theorem kw {c : Prop} : (c → (0 : Int32) = bI (¬ c)) ∧ (¬ c → (1 : Int32) = bI (¬ c)) := ⟨fun z => (bI_f (fun y => y z)).symm, fun z => (bI_t z).symm⟩
theorem Rel_k {M : cM} {L : cL} {N N' : cM} {K K' : cL} (hR : Rel M L N K) (hN : N' = mu N 0 0 0 ∨ ∃ v, N' = mu (mu N 0 0 0) 0 17 v) (hK : fL K K' [15, 16]) : Rel M L N' K' := by
  obtain ⟨hT, ⟨H, Lo, B, hc, hr⟩, hO, hL, hW, hC, hU⟩ := hR
  have g : ∀ N', (N' = mu N 0 0 0 ∨ ∃ v, N' = mu (mu N 0 0 0) 0 17 v) → Rel M L N' K' := by
    rintro _ (rfl | ⟨v, rfl⟩)
    · exact ⟨hT, ⟨H, Lo, B, hc, ⟨hr.1, (hK.2 3 (by decide)).trans hr.2.1, (hK.2 4 (by decide)).trans hr.2.2.1, hr.2.2.2⟩⟩, ⟨hO.1, hO.2.1.trans (hK.2 7 (by decide)).symm, hO.2.2.trans (hK.2 8 (by decide)).symm⟩, hL, hW, hC, hU⟩
    · exact ⟨hT, ⟨H, Lo, B, hc, ⟨hr.1, (hK.2 3 (by decide)).trans hr.2.1, (hK.2 4 (by decide)).trans hr.2.2.1, hr.2.2.2⟩⟩, ⟨hO.1, hO.2.1.trans (hK.2 7 (by decide)).symm, hO.2.2.trans (hK.2 8 (by decide)).symm⟩, hL, hW, hC, hU⟩
  exact g N' hN
theorem pure_inv (LL : Nat) (xs : Nat → Int32) (hL : LL ≤ 3072) : ∃ Inv : Nat → cM → cL → cM → cL → (Nat → Int64) → Prop, Inv 0 cpM0 cpL0 rpM0 rpL0 (fun _ => 0) ∧ ∀ (j : Nat) (M : cM) (L : cL) (N : cM) (K : cL) (f : Nat → Int64), 6 * j + 6 ≤ LL → Inv j M L N K f → wp_turn LL xs (nI (6 * j)) M L N K f (Inv (j + 1)) := by
  refine ⟨fun _ M L N K _ => Rel M L N K, Rel_0, ?_⟩
  intro j M L N K f hj hR
  have v0 : vp_in (nI (6 * j)) LL := vp_in_nI (by omega) (by omega)
  have v1 : vp_in (nI (6 * j) + (1 : Int32)) LL := by rw [show nI (6 * j) + (1 : Int32) = nI (6 * j + 1) from nI_add _ 1]; exact vp_in_nI (by omega) (by omega)
  have v2 : vp_in (nI (6 * j) + (2 : Int32)) LL := by rw [show nI (6 * j) + (2 : Int32) = nI (6 * j + 2) from nI_add _ 2]; exact vp_in_nI (by omega) (by omega)
  have v3 : vp_in (nI (6 * j) + (3 : Int32)) LL := by rw [show nI (6 * j) + (3 : Int32) = nI (6 * j + 3) from nI_add _ 3]; exact vp_in_nI (by omega) (by omega)
  have v4 : vp_in (nI (6 * j) + (4 : Int32)) LL := by rw [show nI (6 * j) + (4 : Int32) = nI (6 * j + 4) from nI_add _ 4]; exact vp_in_nI (by omega) (by omega)
  have v5 : vp_in (nI (6 * j) + (5 : Int32)) LL := by rw [show nI (6 * j) + (5 : Int32) = nI (6 * j + 5) from nI_add _ 5]; exact vp_in_nI (by omega) (by omega)
  unfold wp_turn
  refine ⟨v0, fun _ => ?_, fun _ => ⟨fun _ => ?_, fun _ => ⟨fun _ => ?_, fun _ => ⟨fun _ => ?_, fun _ => ⟨fun _ => ?_, fun _ => ⟨fun _ => ?_, fun _ => ⟨fun _ => ?_, fun _ => ⟨fun _ => ?_, fun _ => ⟨fun _ => ?_, fun _ => ⟨fun _ => ?_, fun _ => ⟨fun _ => ?_, fun _ => ⟨fun _ => ?_, fun _ => ⟨fun _ => ?_, fun _ => ⟨fun _ => ?_, fun _ => ⟨fun _ => ?_, fun _ => hR⟩⟩⟩⟩⟩⟩⟩⟩⟩⟩⟩⟩⟩⟩⟩
  · exact ⟨v1, v2, v3, v4, v5, t_feed (P := fun M L N K _ => Rel M L N K) hR (fun _ _ _ h => h) _ _ _ _ _ v1 v2 v3 v4 v5⟩
  · exact ⟨v1, t_end (P := fun M L N K _ => Rel M L N K) hR (fun _ _ _ h => h) _ v1⟩
  · exact ⟨v1, v2, v3, v4, v5, t_prefix (P := fun M L N K _ => Rel M L N K) hR (fun _ _ _ _ h => h) _ _ _ _ _ v1 v2 v3 v4 v5⟩
  · refine ⟨v1, v2, v3, v4, v5, ?_⟩
    unfold wp_X6_own_0
    rintro _ rfl _ rfl _ rfl
    refine ⟨v1, v2, v3, v4, v5, ?_⟩
    unfold wp_X7_own_0
    rintro _ rfl _ rfl _ rfl _ rfl
    obtain ⟨hT, hM, hO, hL, hW, hC, hU⟩ := hR
    exact ⟨hT, hM, ⟨rfl, rfl, rfl⟩, hL, hW, hC, hU⟩
  · exact ⟨v1, v2, t_limits (P := fun M L N K _ => Rel M L N K) hR (fun _ _ h => h) _ _ v1 v2⟩
  · refine ⟨v1, fun v => v = bI (¬ xs (nI (6 * j) + (1 : Int32)).toNatClampNeg = 0), ?_, kw⟩
    rintro _ rfl
    refine ⟨v2, fun v => v = bI (¬ xs (nI (6 * j) + (2 : Int32)).toNatClampNeg = 0), ?_, kw⟩
    rintro _ rfl
    unfold wp_X6_ways_0
    refine ⟨isB_bI _, ?_⟩
    rintro _ rfl
    refine ⟨isB_bI _, ?_⟩
    rintro _ rfl
    refine ⟨v1, fun v => v = bI (¬ xs (nI (6 * j) + (1 : Int32)).toNatClampNeg = 0), ?_, kw⟩
    rintro _ rfl
    refine ⟨v2, fun v => v = bI (¬ xs (nI (6 * j) + (2 : Int32)).toNatClampNeg = 0), ?_, kw⟩
    rintro _ rfl
    unfold wp_X7_ways_0
    rintro _ rfl
    refine ⟨isB_bI _, ?_⟩
    rintro _ rfl
    refine ⟨isB_bI _, ?_⟩
    rintro _ rfl
    obtain ⟨hT, hM, hO, hL, hW, hC, hU⟩ := hR
    exact ⟨hT, hM, hO, hL, ⟨_, _, rfl, rfl, rfl, rfl⟩, hC, hU⟩
  · exact t_four (P := fun M L N K => Rel M L N K) hR (fun _ _ _ _ h => h)
  · exact t_six (P := fun M L N K => Rel M L N K) hR (fun _ _ _ _ h => h)
  · obtain ⟨PK, oc', or⟩ := hR.2.2.2.2.2.2
    unfold wp_X6_parts_0 wp_X7_parts_0
    rintro _ rfl
    exact ⟨fun _ => Rel_th 0 hR, fun z => z (oc'.1.trans or.1.symm)⟩
  · exact ⟨v1, t_size (P := fun N => Rel M L N K) hR.2.2.2.2.2.2 (Rel_th 0 hR) _ v1⟩
  · exact ⟨v1, v2, t_octet (P := fun M L N _ => Rel M L N K) hR.2.2.2.2.2.2 (fun v _ => Rel_th v hR) _ _ v1 v2⟩
  · refine ⟨v1, v2, v3, t_check (P := fun M L N K _ => Rel M L N K) hR.2.2.2.2.2.2 (fun v K' _ hK => ?_) _ _ _ v1 v2 v3⟩
    obtain ⟨hT, ⟨H, Lo, B, hc, hr⟩, hO, hL, hW, hC, hU⟩ := hR
    exact ⟨hT, ⟨H, Lo, B, hc, ⟨hr.1, (hK.2 3 (by decide)).trans hr.2.1, (hK.2 4 (by decide)).trans hr.2.2.1, hr.2.2.2⟩⟩, ⟨hO.1, hO.2.1.trans (hK.2 7 (by decide)).symm, hO.2.2.trans (hK.2 8 (by decide)).symm⟩, hL, hW, hC, hU⟩
  · obtain ⟨H, Lo, B, hc, hr⟩ := hR.2.1
    refine ⟨v1, v2, fun v => v = bI (¬ xs (nI (6 * j) + (2 : Int32)).toNatClampNeg = 0), ?_, kw⟩
    rintro _ rfl
    refine c_image hc ?_
    refine ⟨v1, v2, fun v => v = bI (¬ xs (nI (6 * j) + (2 : Int32)).toNatClampNeg = 0), ?_, kw⟩
    rintro _ rfl
    refine d_image hr (fun K' hK => ?_)
    rw [lg_cmp_eq]
    exact ⟨fun _ => Rel_k hR (Or.inl rfl) hK, fun z => z rfl⟩
  · obtain ⟨H, Lo, B, hc, hr⟩ := hR.2.1
    refine ⟨v1, v2, v3, v4, ?_⟩
    unfold wp_X6_address_0
    refine p_fourOf H Lo B ?_ hc.2.2.2 hc.1 hc.2.1 hc.2.2.1
    refine ⟨v1, v2, v3, v4, ?_⟩
    refine d_address hr (fun v K' hK => ?_)
    rw [lg_cmp_eq]
    exact ⟨fun _ => Rel_k hR (Or.inr ⟨v, rfl⟩) hK, fun z => z rfl⟩
  · exact ⟨v1, t_count (P := fun N => Rel M L N K) hR (Rel_th 0 hR) _ v1⟩
