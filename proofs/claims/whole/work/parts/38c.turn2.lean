theorem t_check {M N : cM} {L K : cL} {f : Nat → Int64} {x y z : Int32} {P : cM → cL → cM → cL → (Nat → Int64) → Prop} (hO : rOut M N) (hP : ∀ v K' f', fL K K' [18] → P M L (mu N 0 0 v) K' f') (V1 V2 V3 : Prop) (h1 : V1) (h2 : V2) (h3 : V3) : wph_check M L f x y z (fun r82 M83 L84 f85 => (V1 ∧ (V2 ∧ (V3 ∧ wp_X7_check_0 N K x y z (fun r86 M87 L88 => wp_X7_thrown_0 M87 L88 (fun r89 => ((r89 = r82 → (∃ Q : Prop, (Q → P M83 L84 M87 L88 f85) ∧ ((¬ r82 = 0 → Q) ∧ (r82 = 0 → ((lg_cmp (f85 (0 : Int32).toNatClampNeg) (r86.toInt64) = 0 → Q) ∧ (¬ lg_cmp (f85 (0 : Int32).toNatClampNeg) (r86.toInt64) = 0 → False)))))) ∧ (¬ r89 = r82 → False)))))))) := by
  obtain ⟨PK, oc', or⟩ := hO
  have l49 := oc'.2.2.2.2.1
  have l33 := oc'.2.2.2.2.2
  unfold wph_check wp_X6_check_0
  have bad : (x < 0 ∨ (¬ x < 0 ∧ nI PK.length ≤ x) ∨ ∃ j, j < PK.length ∧ x = nI j ∧ (y < 0 ∨ (¬ y < 0 ∧ (z < y ∨ (¬ z < y ∧ ¬ z ≤ nI (PK.getD j []).length))))) → wp_X7_check_0 N K x y z (fun r86 M87 L88 => wp_X7_thrown_0 M87 L88 (fun r89 => ((r89 = (1 : Int32) → (∃ Q : Prop, (Q → P M L M87 L88 f) ∧ ((¬ (1 : Int32) = 0 → Q) ∧ ((1 : Int32) = 0 → ((lg_cmp (f (0 : Int32).toNatClampNeg) (r86.toInt64) = 0 → Q) ∧ (¬ lg_cmp (f (0 : Int32).toNatClampNeg) (r86.toInt64) = 0 → False)))))) ∧ (¬ r89 = (1 : Int32) → False)))) := by
    intro hb
    unfold wp_X7_check_0 wp_X7_isPacket_0 wp_X7_thrown_0
    rw [or.1]
    have q1 : ∀ (v2 : Int32), v2 = 1 → ∀ M3 : cM, M3 = mu N 0 0 v2 → ¬ (M3 0 0) ≤ 0 ∧ ((M3 0 0 = (1 : Int32) → (∃ Q : Prop, (Q → P M L M3 K f) ∧ ((¬ (1 : Int32) = 0 → Q) ∧ ((1 : Int32) = 0 → ((lg_cmp (f (0 : Int32).toNatClampNeg) ((0 : Int32).toInt64) = 0 → Q) ∧ (¬ lg_cmp (f (0 : Int32).toNatClampNeg) ((0 : Int32).toInt64) = 0 → False)))))) ∧ (¬ M3 0 0 = (1 : Int32) → False)) := by
      rintro _ rfl
      rintro _ rfl
      exact ⟨show ¬ (1 : Int32) ≤ 0 by decide, tail_ok rfl (fun z => absurd z (by decide)) (hP _ _ _ (fL_r _ _))⟩
    rcases hb with c | ⟨c, c2⟩ | ⟨j, hj, rfl, hy⟩
    · exact ⟨fun _ => ⟨fun v => v = 1, fun v hv M3 e => ⟨fun w => absurd w (q1 v hv M3 e).1, fun _ => (q1 v hv M3 e).2⟩, True, fun _ => rfl, fun _ => trivial, fun z => absurd rfl z⟩, fun z => absurd c z⟩
    · exact ⟨fun z => absurd z c, fun _ => ⟨fun _ => ⟨fun v => v = 1, fun v hv M3 e => ⟨fun w => absurd w (q1 v hv M3 e).1, fun _ => (q1 v hv M3 e).2⟩, True, fun _ => rfl, fun _ => trivial, fun z => absurd rfl z⟩, fun z => absurd c2 z⟩⟩
    · have nn : ¬ nI j < 0 := nI_pos (by omega)
      have nl : ¬ nI PK.length ≤ nI j := nI_ge hj (by omega)
      refine ⟨fun z => absurd z nn, fun _ => ⟨fun z => absurd z nl, fun _ => ⟨fun v => v = 1, fun v hv M3 e => ⟨fun w => absurd w (q1 v hv M3 e).1, fun _ => (q1 v hv M3 e).2⟩, True, fun _ => rfl, fun z => absurd z (by decide), fun _ => ?_⟩⟩⟩
      refine ⟨fun _ => trivial, fun cy => ⟨fun _ => trivial, fun cz => ?_⟩⟩
      rw [nI_1, nI_clamp (by omega), nI_clamp (by omega), or.2.2.1 (j + 1) (by omega), or.2.2.1 j (by omega), offs_succ PK hj, show nI (offs PK j + (PK.getD j []).length) - nI (offs PK j) = nI (PK.getD j []).length from by rw [pk_sub (by omega)]; congr 1; omega]
      refine ⟨vp_in_nI (by omega) (by decide), vp_in_nI (by omega) (by decide), fun w => ?_, fun _ => trivial⟩
      rcases hy with q | q
      · exact absurd q cy
      · rcases q.2 with p | p
        · exact absurd p cz
        · exact absurd w p.2
  by_cases hb : x < 0 ∨ (¬ x < 0 ∧ nI PK.length ≤ x) ∨ ∃ j, j < PK.length ∧ x = nI j ∧ (y < 0 ∨ (¬ y < 0 ∧ (z < y ∨ (¬ z < y ∧ ¬ z ≤ nI (PK.getD j []).length))))
  · unfold wp_X3_sizeOf_5
    rw [oc'.1]
    rcases hb with c | ⟨c, c2⟩ | ⟨j, hj, rfl, hy⟩
    · exact ⟨fun _ => ⟨True, fun _ => ⟨h1, h2, h3, bad (Or.inl c)⟩, fun _ => trivial, fun z => absurd rfl z⟩, fun z => absurd c z⟩
    · exact ⟨fun z => absurd z c, fun _ => ⟨fun _ => ⟨True, fun _ => ⟨h1, h2, h3, bad (Or.inr (Or.inl ⟨c, c2⟩))⟩, fun _ => trivial, fun z => absurd rfl z⟩, fun z => absurd c2 z⟩⟩
    · have nn : ¬ nI j < 0 := nI_pos (by omega)
      have nl : ¬ nI PK.length ≤ nI j := nI_ge hj (by omega)
      refine ⟨fun z => absurd z nn, fun _ => ⟨fun z => absurd z nl, fun _ => ?_⟩⟩
      refine qg j _ (fun z => by omega) (fun _ => ?_) rfl (by omega) (by omega)
      rw [nI_clamp (by omega), (oc'.2.2.2.1 j hj).2]
      refine ⟨vp_in_nI (by omega) (by decide), True, fun _ => ⟨h1, h2, h3, bad (Or.inr (Or.inr ⟨j, hj, rfl, hy⟩))⟩, fun _ => trivial, fun _ => ⟨fun _ => trivial, fun cy => ⟨fun _ => trivial, fun cz => ⟨fun w => ?_, fun _ => trivial⟩⟩⟩⟩
      rcases hy with q | q
      · exact absurd q cy
      · rcases q.2 with p | p
        · exact absurd p cz
        · exact absurd w p.2
  · have hx0 : ¬ x < 0 := fun z => hb (Or.inl z)
    obtain ⟨j, hj, rfl⟩ : ∃ j, j < PK.length ∧ x = nI j := by
      rcases ge_cases x PK.length (by omega) with c | c | c
      · exact absurd c hx0
      · exact absurd (Or.inr (Or.inl c)) hb
      · exact c
    have hy0 : ¬ y < 0 := fun q => hb (Or.inr (Or.inr ⟨j, hj, rfl, Or.inl q⟩))
    have hzy : ¬ z < y := fun q => hb (Or.inr (Or.inr ⟨j, hj, rfl, Or.inr ⟨hy0, Or.inl q⟩⟩))
    have hzl : z ≤ nI (PK.getD j []).length := Classical.byContradiction (fun q => hb (Or.inr (Or.inr ⟨j, hj, rfl, Or.inr ⟨hy0, Or.inr ⟨hzy, q⟩⟩⟩)))
    obtain ⟨a, ha, rfl⟩ := nI_of hy0
    have hz0 : ¬ z < 0 := fun q => hzy (Int32.lt_of_lt_of_le q (nI_pos' ha))
    obtain ⟨b, hb', rfl⟩ := nI_of hz0
    have hso := offs_succ PK hj
    have hol := offs_le PK (j + 1)
    have hab : a ≤ b := Nat.le_of_not_lt (fun q => hzy ((nI_ltI hb' ha).mpr q))
    have hbl : b ≤ (PK.getD j []).length := (nI_leI hb' (by omega)).mp hzl
    have nn : ¬ nI j < 0 := nI_pos (by omega)
    have nl : ¬ nI PK.length ≤ nI j := nI_ge hj (by omega)
    have nm : ¬ nI (PK.getD j []).length = (-1 : Int32) := by
      rw [nI_NO2 (by omega)]
      unfold NO; omega
    have same : sm8 (at8 (M 7) 3332) (offs PK j + a) (b - a) = sm8 (at8 (N 3) 16000) (offs PK j + a) (b - a) := sm8_congr (fun i hi => out_at oc' or (by omega))
    have hsl := sm8_le (fun i => at8_lt (N 3) 16000 i) (offs PK j + a) (b - a)
    unfold wp_X3_sizeOf_5 wp_X3_startOf_5
    rw [oc'.1, nI_clamp (by omega), (oc'.2.2.2.1 j hj).1, (oc'.2.2.2.1 j hj).2]
    refine ⟨fun z => absurd z nn, fun _ => ⟨fun z => absurd z nl, fun _ => ?_⟩⟩
    refine qg j _ (fun z => by omega) (fun _ => ?_) rfl (by omega) (by omega)
    refine ⟨vp_in_nI (by omega) (by decide), False, False.elim, fun z => absurd z nm, fun _ => ⟨fun z => absurd z hy0, fun _ => ⟨fun z => absurd z hzy, fun _ => ⟨fun _ => ?_, fun z => absurd hzl z⟩⟩⟩⟩
    refine ⟨fun z => absurd z nn, fun _ => ⟨fun z => absurd z nl, fun _ => ?_⟩⟩
    refine qg j _ (fun z => by omega) (fun _ => ?_) rfl (by omega) (by omega)
    refine ⟨vp_in_nI (by omega) (by decide), ?_⟩
    refine p_sum_6 (offs PK j + a) (offs PK j + b) ?_ (by omega) (by omega) (nI_add _ _) (nI_add _ _)
    rw [show offs PK j + b - (offs PK j + a) = b - a by omega, same]
    refine p_checksum _ ?_ (by omega) rfl
    refine ⟨h1, h2, h3, ?_⟩
    unfold wp_X7_check_0 wp_X7_isPacket_0 wp_X7_thrown_0
    rw [or.1]
    refine ⟨fun z => absurd z nn, fun _ => ⟨fun z => absurd z nl, fun _ => ?_⟩⟩
    refine ⟨fun v => v = 0, ?_, ?_⟩
    · rintro _ rfl
      rintro _ rfl
      refine ⟨fun _ => ?_, fun z => absurd (show (0 : Int32) ≤ 0 by decide) z⟩
      rintro _ rfl
      refine ⟨vp_in_nI (by omega) (by decide), vp_in_nI (by omega) (by decide), ?_⟩
      rw [nI_clamp (by omega), show mu N 0 0 (0 : Int32) 4 j = nI (offs PK j) from or.2.2.1 j (by omega)]
      refine r_words_3 (offs PK j + a) (offs PK j + b) 0 (fun L1 s1 e1 => ?_) rfl (by omega) (by omega) (nI_add _ _) (nI_add _ _)
      rw [show offs PK j + b - (offs PK j + a) = b - a by omega, Nat.zero_add] at e1
      refine r_checksum _ ?_ e1
      refine tail_ok rfl (fun _ => ?_) (hP _ _ _ (fL_t (ml_fL _ _ _ (by decide)) (sF_fL s1 (by decide))))
      rw [upd_0]
      rfl
    · refine ⟨False, False.elim, fun z => absurd z (by decide), fun _ => ⟨fun z => absurd z hy0, fun _ => ⟨fun z => absurd z hzy, fun _ => ?_⟩⟩⟩
      rw [nI_1, nI_clamp (by omega), nI_clamp (by omega), or.2.2.1 (j + 1) (by omega), or.2.2.1 j (by omega), hso, show nI (offs PK j + (PK.getD j []).length) - nI (offs PK j) = nI (PK.getD j []).length from by rw [pk_sub (by omega)]; congr 1; omega]
      exact ⟨vp_in_nI (by omega) (by decide), vp_in_nI (by omega) (by decide), fun _ => rfl, fun z => absurd hzl z⟩
noncomputable def imv (H Lo : Int64) (B n : Nat) (y : Int32) : Int64 := cI (okA H Lo B n) (cI (y = 0) (upA H B n) (loA Lo B n)) 0
theorem c_image {M : cM} {L : cL} {x y : Int32} {Z : Int64 → Prop} {H Lo : Int64} {B : Nat} (hc : mapC (M 10) (L 10) H Lo B) (h : Z (imv H Lo B (u32 x) y)) : wp_X6_image_0 M L x y Z := by
  have hBl := pfx_lt hc.2.2.2
  have hBB := pfx_B hc.2.2.2
  have hx : x = nI (u32 x) := (nI_u32 x).symm
  have hl := u32_lt x
  unfold imv at h
  unfold wp_X6_image_0
  refine p_mappable H Lo B (u32 x) ?_ hl hBl hc.1 hc.2.1 hc.2.2.1 hx
  refine zb (fun c => by rw [cI_f c] at h; exact h) (fun c => ?_)
  rw [cI_t c] at h
  refine ⟨fun q => ?_, fun q => ?_⟩
  · rw [cI_t q] at h
    exact p_upper H B (u32 x) h hl hBB hc.1 hc.2.2.1 hx
  · rw [cI_f q] at h
    exact p_lower Lo B (u32 x) h hl hBB hc.2.1 hc.2.2.1 hx
theorem d_image {N : cM} {K : cL} {x y : Int32} {Z : Int64 → cM → cL → Prop} {H Lo : Int64} {B : Nat} (hr : mapR N K H Lo B) (h : ∀ K', fL K K' [15, 16] → Z (imv H Lo B (u32 x) y) (mu N 0 0 0) K') : wp_X7_image_0 N K x y Z := by
  have hBl := pfx_lt hr.2.2.2
  have hx : x = nI (u32 x) := (nI_u32 x).symm
  have hl := u32_lt x
  have hr' : mapR (mu N 0 0 0) K H Lo B := hr
  unfold imv at h
  unfold wp_X7_image_0
  rintro _ rfl
  refine r_mappable H Lo B (u32 x) ?_ hl hBl hr'.2.1 hr'.2.2.1 hr'.1 hx
  refine zb (fun c => by rw [cI_f c] at h; exact h K (fL_r _ _)) (fun c => ?_)
  rw [cI_t c] at h
  refine r_makeImage H Lo B (u32 x) (fun L4 a1 a2 a15 a16 => ?_) hl hr'.2.2.2 hr'.2.1 hr'.2.2.1 hr'.1 hx
  have k4 : fL K L4 [15, 16] := ⟨a1, fun j hj => a2 j (fun z => hj (by rw [z]; decide)) (fun z => hj (by rw [z]; decide))⟩
  rw [a15, a16]
  refine ⟨fun q => ?_, fun q => ?_⟩
  · rw [cI_t q] at h; exact h L4 k4
  · rw [cI_f q] at h; exact h L4 k4
theorem d_address {N : cM} {K : cL} {x y : Int64} {Z : Int64 → cM → cL → Prop} {H Lo : Int64} {B : Nat} (hr : mapR N K H Lo B) (h : ∀ v K', fL K K' [15, 16] → Z (lN (fr4 H Lo B x y)) (mu (mu N 0 0 0) 0 17 v) K') : wp_X7_address_0 N K x y Z := by
  have hr' : mapR (mu N 0 0 0) K H Lo B := hr
  unfold wp_X7_address_0
  rintro _ rfl
  refine r_isImage H Lo B (fun L4 a1 a2 => ?_) hr'.2.2.2 hr'.2.1 hr'.2.2.1 hr'.1
  have k4 : fL K L4 [15, 16] := ⟨a1, fun j hj => a2 j (fun z => hj (by rw [z]; decide)) (fun z => hj (by rw [z]; decide))⟩
  refine bz (fun c => ?_) (fun c => ?_)
  · have e : lN (fr4 H Lo B x y) = (-1 : Int64) := by
      rw [fr4_n (fun w => c (fr4_lt.mp w))]
      decide
    rw [e] at h
    exact h _ _ k4
  · have hlt := fr4_lt.mpr c
    have e : mu (mu N 0 0 0) 0 17 (nI (rdv x y B 32)) 0 17 = nI (rdv x y B 32) := rfl
    rw [fr4_v hlt] at h
    rw [e, l_low (rdv_lt x y B 32)]
    exact h _ _ k4
theorem t_count {M N : cM} {L K : cL} {x : Int32} {P : cM → Prop} (hR : Rel M L N K) (hP : P (mu N 0 0 0)) (V : Prop) (hV : V) : wp_X6_count_0 M L x (fun r107 => (V ∧ wp_X7_count_0 N K x (fun r108 M109 => ((r107 = r108 → P M109) ∧ (¬ r107 = r108 → False))))) := by
  obtain ⟨⟨n, hT⟩, ⟨H, Lo, B, hc, hr⟩, _, ⟨m4, m6, _, _, _, _, a1, a2, a3, a4⟩, _, ⟨⟨ct, _, b1, b2⟩, hk⟩, _⟩ := hR
  unfold wp_X6_count_0
  have fin : ∀ (u v : Int32), u = v → ((u = v → P (mu N 0 0 0)) ∧ (¬ u = v → False)) := fun u v e => ⟨fun _ => hP, fun z => z e⟩
  -- the rest of the switch
  have sw : (x < 0 ∨ (¬ x < 0 ∧ (11 : Int32) ≤ x)) → ∀ v : Int32, ((x = 11 → v = nI n) ∧ (¬ x = 11 → (x = 12 → v = nI ct) ∧ (¬ x = 12 → (x = 13 → v = nI m4) ∧ (¬ x = 13 → (x = 14 → v = nI m6) ∧ (¬ x = 14 → (x = 15 → v = nI B) ∧ (¬ x = 15 → v = -1)))))) → (V ∧ wp_X7_count_0 N K x (fun r108 M109 => ((v = r108 → P M109) ∧ (¬ v = r108 → False)))) := by
    intro hx v hv
    refine ⟨hV, ?_⟩
    unfold wp_X7_count_0
    rintro _ rfl
    refine ⟨True, fun _ => ?_, ?_⟩
    · refine ⟨fun c => fin _ _ ((hv.1 c).trans hT.2.2.1.symm), fun c1 => ⟨fun c => fin _ _ (((hv.2 c1).1 c).trans b2.symm), fun c2 => ⟨fun c => fin _ _ ((((hv.2 c1).2 c2).1 c).trans a3.symm), fun c3 => ⟨fun c => fin _ _ (((((hv.2 c1).2 c2).2 c3).1 c).trans a4.symm), fun c4 => ⟨fun c => fin _ _ ((((((hv.2 c1).2 c2).2 c3).2 c4).1 c).trans hr.1.symm), fun c5 => fin _ _ (((((hv.2 c1).2 c2).2 c3).2 c4).2 c5)⟩⟩⟩⟩⟩
    · rcases hx with c | ⟨c, c2⟩
      · exact ⟨fun _ => trivial, fun z => absurd c z⟩
      · exact ⟨fun z => absurd z c, fun _ => ⟨fun _ => trivial, fun z => absurd (Int32.lt_of_lt_of_le (by decide) c2) z⟩⟩
  rcases ge_cases x 11 (by decide) with c | ⟨c, c2⟩ | ⟨j, hj, rfl⟩
  · refine ⟨True, fun _ => ?_, fun _ => trivial, fun z => absurd c z⟩
    refine ⟨fun q => sw (Or.inl c) _ ⟨fun _ => hT.2.1, fun z => absurd q z⟩, fun c1 => ⟨fun q => sw (Or.inl c) _ ⟨fun z => absurd z c1, fun _ => ⟨fun _ => b1, fun z => absurd q z⟩⟩, fun c2 => ⟨fun q => sw (Or.inl c) _ ⟨fun z => absurd z c1, fun _ => ⟨fun z => absurd z c2, fun _ => ⟨fun _ => a1, fun z => absurd q z⟩⟩⟩, fun c3 => ⟨fun q => sw (Or.inl c) _ ⟨fun z => absurd z c1, fun _ => ⟨fun z => absurd z c2, fun _ => ⟨fun z => absurd z c3, fun _ => ⟨fun _ => a2, fun z => absurd q z⟩⟩⟩⟩, fun c4 => ⟨fun q => sw (Or.inl c) _ ⟨fun z => absurd z c1, fun _ => ⟨fun z => absurd z c2, fun _ => ⟨fun z => absurd z c3, fun _ => ⟨fun z => absurd z c4, fun _ => ⟨fun _ => hc.2.2.1, fun z => absurd q z⟩⟩⟩⟩⟩, fun c5 => sw (Or.inl c) _ ⟨fun z => absurd z c1, fun _ => ⟨fun z => absurd z c2, fun _ => ⟨fun z => absurd z c3, fun _ => ⟨fun z => absurd z c4, fun _ => ⟨fun z => absurd z c5, fun _ => rfl⟩⟩⟩⟩⟩⟩⟩⟩⟩⟩
  · refine ⟨True, fun _ => ?_, fun _ => trivial, fun _ => ⟨fun _ => trivial, fun z => absurd c2 z⟩⟩
    have cc : x < 0 ∨ (¬ x < 0 ∧ (11 : Int32) ≤ x) := Or.inr ⟨c, c2⟩
    refine ⟨fun q => sw cc _ ⟨fun _ => hT.2.1, fun z => absurd q z⟩, fun c1 => ⟨fun q => sw cc _ ⟨fun z => absurd z c1, fun _ => ⟨fun _ => b1, fun z => absurd q z⟩⟩, fun c2 => ⟨fun q => sw cc _ ⟨fun z => absurd z c1, fun _ => ⟨fun z => absurd z c2, fun _ => ⟨fun _ => a1, fun z => absurd q z⟩⟩⟩, fun c3 => ⟨fun q => sw cc _ ⟨fun z => absurd z c1, fun _ => ⟨fun z => absurd z c2, fun _ => ⟨fun z => absurd z c3, fun _ => ⟨fun _ => a2, fun z => absurd q z⟩⟩⟩⟩, fun c4 => ⟨fun q => sw cc _ ⟨fun z => absurd z c1, fun _ => ⟨fun z => absurd z c2, fun _ => ⟨fun z => absurd z c3, fun _ => ⟨fun z => absurd z c4, fun _ => ⟨fun _ => hc.2.2.1, fun z => absurd q z⟩⟩⟩⟩⟩, fun c5 => sw cc _ ⟨fun z => absurd z c1, fun _ => ⟨fun z => absurd z c2, fun _ => ⟨fun z => absurd z c3, fun _ => ⟨fun z => absurd z c4, fun _ => ⟨fun z => absurd z c5, fun _ => rfl⟩⟩⟩⟩⟩⟩⟩⟩⟩⟩
  · have nn : ¬ nI j < 0 := nI_pos (by omega)
    refine ⟨False, False.elim, fun z => absurd z nn, fun _ => ?_⟩
    refine qg j _ (fun z => by omega) (fun _ => ?_) rfl (by omega) (by omega)
    refine ⟨vp_in_nI hj (by decide), hV, ?_⟩
    rw [nI_clamp (by omega)]
    unfold wp_X7_count_0
    rintro _ rfl
    refine ⟨False, False.elim, fun z => absurd z nn, fun _ => ?_⟩
    refine qb j _ (fun z => by omega) (fun _ => ?_) rfl (by omega) (by omega)
    refine ⟨vp_in_nI hj (by decide), ?_⟩
    rw [nI_clamp (by omega)]
    exact fin _ _ (hk j (by omega)).symm
