/-! parts read -/
theorem ge_cases (x : Int32) (n : Nat) (hn : n < 2 ^ 31) : x < 0 ∨ (¬ x < 0 ∧ nI n ≤ x) ∨ ∃ j, j < n ∧ x = nI j := by
  by_cases c : x < 0
  · exact Or.inl c
  · obtain ⟨j, hj, rfl⟩ := nI_of c
    by_cases c2 : j < n
    · exact Or.inr (Or.inr ⟨j, c2, rfl⟩)
    · exact Or.inr (Or.inl ⟨c, (nI_leI hn hj).mpr (by omega)⟩)
theorem t_size {M N : cM} {L K : cL} {x : Int32} {P : cM → Prop} (hO : rOut M N) (hP : P (mu N 0 0 0)) (V : Prop) (hV : V) : wp_X6_size_0 M L x (fun r68 => (V ∧ wp_X7_size_0 N K x (fun r69 M70 => ((r68 = r69 → P M70) ∧ (¬ r68 = r69 → False))))) := by
  obtain ⟨PK, oc, or⟩ := hO
  have l49 := oc.2.2.2.2.1
  have l33 := oc.2.2.2.2.2
  unfold wp_X6_size_0 wp_X3_sizeOf_5 wp_X7_size_0 wp_X7_isPacket_0
  rcases ge_cases x PK.length (by omega) with c | ⟨c, c2⟩ | ⟨j, hj, rfl⟩
  · refine ⟨fun _ => ⟨hV, ?_⟩, fun z => absurd c z⟩
    rintro _ rfl
    refine ⟨fun _ => ?_, fun z => absurd c z⟩
    exact ⟨fun _ => ⟨fun _ => hP, fun z => z rfl⟩, fun z => absurd rfl z⟩
  · refine ⟨fun z => absurd z c, fun _ => ?_⟩
    rw [oc.1]
    refine ⟨fun _ => ⟨hV, ?_⟩, fun z => absurd c2 z⟩
    rintro _ rfl
    rw [show mu N 0 0 (0 : Int32) 0 22 = nI PK.length from or.1]
    refine ⟨fun z => absurd z c, fun _ => ⟨fun _ => ?_, fun z => absurd c2 z⟩⟩
    exact ⟨fun _ => ⟨fun _ => hP, fun z => z rfl⟩, fun z => absurd rfl z⟩
  · have nn : ¬ nI j < 0 := nI_pos (by omega)
    have nl : ¬ nI PK.length ≤ nI j := nI_ge hj (by omega)
    refine ⟨fun z => absurd z nn, fun _ => ?_⟩
    rw [oc.1]
    refine ⟨fun z => absurd z nl, fun _ => ?_⟩
    refine qg j _ (fun z => by omega) (fun _ => ?_) rfl (by omega) (by omega)
    refine ⟨vp_in_nI (by omega) (by decide), hV, ?_⟩
    rintro _ rfl
    rw [show mu N 0 0 (0 : Int32) 0 22 = nI PK.length from or.1]
    refine ⟨fun z => absurd z nn, fun _ => ⟨fun z => absurd z nl, fun _ => ?_⟩⟩
    refine ⟨fun z => absurd z (by decide), fun _ => ?_⟩
    rw [nI_1, nI_clamp (by omega), nI_clamp (by omega)]
    refine ⟨vp_in_nI (by omega) (by decide), vp_in_nI (by omega) (by decide), ?_⟩
    have e : M 9 j = mu N 0 0 (0 : Int32) 4 (j + 1) - mu N 0 0 (0 : Int32) 4 j := by
      rw [show mu N 0 0 (0 : Int32) 4 (j + 1) = nI (offs PK (j + 1)) from or.2.2.1 (j + 1) (by omega), show mu N 0 0 (0 : Int32) 4 j = nI (offs PK j) from or.2.2.1 j (by omega), (oc.2.2.2.1 j hj).2, offs_succ PK hj, pk_sub (by omega)]
      congr 1
      omega
    exact ⟨fun _ => hP, fun z => z e⟩
theorem out_at {M N : cM} {PK : List (List Nat)} (oc' : outC M PK) (or : outR N PK) {k : Nat} (hk : k < PK.flatten.length) : at8 (M 7) 3332 k = at8 (N 3) 16000 k := by
  have l33 := oc'.2.2.2.2.2
  have a1 := holds_at8 oc'.2.2.1 (n := 3332) (by omega) (k := k) hk
  have a2 := holds_at8 or.2.2.2 (n := 16000) (by omega) (k := k) hk
  rw [Nat.zero_add] at a1 a2
  rw [a1, a2]
theorem t_octet {M N : cM} {L K : cL} {f : Nat → Int64} {x y : Int32} {P : cM → cL → cM → (Nat → Int64) → Prop} (hO : rOut M N) (hP : ∀ v f', P M L (mu N 0 0 v) f') (V1 V2 : Prop) (h1 : V1) (h2 : V2) : wph_octet M L f x y (fun r72 M73 L74 f75 => (V1 ∧ (V2 ∧ wp_X7_octet_0 N K x y (fun r76 M77 => wp_X7_thrown_0 M77 K (fun r78 => ((r78 = r72 → (∃ Q : Prop, (Q → P M73 L74 M77 f75) ∧ ((¬ r72 = 0 → Q) ∧ (r72 = 0 → ((lg_cmp (f75 (0 : Int32).toNatClampNeg) (r76.toInt64) = 0 → Q) ∧ (¬ lg_cmp (f75 (0 : Int32).toNatClampNeg) (r76.toInt64) = 0 → False)))))) ∧ (¬ r78 = r72 → False))))))) := by
  obtain ⟨PK, oc', or⟩ := hO
  have l49 := oc'.2.2.2.2.1
  have l33 := oc'.2.2.2.2.2
  unfold wph_octet wp_X6_octet_0
  -- both refuse
  have bad : (x < 0 ∨ (¬ x < 0 ∧ nI PK.length ≤ x) ∨ ∃ j, j < PK.length ∧ x = nI j ∧ (y < 0 ∨ (¬ y < 0 ∧ ¬ y < nI (PK.getD j []).length))) → wp_X7_octet_0 N K x y (fun r76 M77 => wp_X7_thrown_0 M77 K (fun r78 => ((r78 = (1 : Int32) → (∃ Q : Prop, (Q → P M L M77 f) ∧ ((¬ (1 : Int32) = 0 → Q) ∧ ((1 : Int32) = 0 → ((lg_cmp (f (0 : Int32).toNatClampNeg) (r76.toInt64) = 0 → Q) ∧ (¬ lg_cmp (f (0 : Int32).toNatClampNeg) (r76.toInt64) = 0 → False)))))) ∧ (¬ r78 = (1 : Int32) → False)))) := by
    intro hb
    unfold wp_X7_octet_0 wp_X7_isPacket_0 wp_X7_thrown_0
    rw [or.1]
    have fin : ∃ K37 : Int32 → Prop, (∀ (v2 : Int32), K37 v2 → ∀ M3 : cM, M3 = mu N 0 0 v2 → (((M3 0 0) ≤ 0 → (vp_in x 101 ∧ wp_X7_octetAt_3 M3 K ((M3 4 x.toNatClampNeg) + y) (fun (r5 : Int32) => ((M3 0 0 = (1 : Int32) → (∃ Q : Prop, (Q → P M L M3 f) ∧ ((¬ (1 : Int32) = 0 → Q) ∧ ((1 : Int32) = 0 → ((lg_cmp (f (0 : Int32).toNatClampNeg) (r5.toInt64) = 0 → Q) ∧ (¬ lg_cmp (f (0 : Int32).toNatClampNeg) (r5.toInt64) = 0 → False)))))) ∧ (¬ M3 0 0 = (1 : Int32) → False))))) ∧ (¬ (M3 0 0) ≤ 0 → ((M3 0 0 = (1 : Int32) → (∃ Q : Prop, (Q → P M L M3 f) ∧ ((¬ (1 : Int32) = 0 → Q) ∧ ((1 : Int32) = 0 → ((lg_cmp (f (0 : Int32).toNatClampNeg) ((0 : Int32).toInt64) = 0 → Q) ∧ (¬ lg_cmp (f (0 : Int32).toNatClampNeg) ((0 : Int32).toInt64) = 0 → False)))))) ∧ (¬ M3 0 0 = (1 : Int32) → False))))) ∧ K37 1 := by
      refine ⟨fun v => v = 1, ?_, rfl⟩
      rintro _ rfl
      rintro _ rfl
      exact ⟨fun z => absurd (show (1 : Int32) ≤ 0 from z) (by decide), fun _ => tail_ok rfl (fun z => absurd z (by decide)) (hP _ _)⟩
    obtain ⟨K37, q1, q2⟩ := fin
    rcases hb with c | ⟨c, c2⟩ | ⟨j, hj, rfl, hy⟩
    · exact ⟨fun _ => ⟨K37, q1, True, fun _ => q2, fun _ => trivial, fun z => absurd rfl z⟩, fun z => absurd c z⟩
    · exact ⟨fun z => absurd z c, fun _ => ⟨fun _ => ⟨K37, q1, True, fun _ => q2, fun _ => trivial, fun z => absurd rfl z⟩, fun z => absurd c2 z⟩⟩
    · have nn : ¬ nI j < 0 := nI_pos (by omega)
      have nl : ¬ nI PK.length ≤ nI j := nI_ge hj (by omega)
      refine ⟨fun z => absurd z nn, fun _ => ⟨fun z => absurd z nl, fun _ => ⟨K37, q1, True, fun _ => q2, fun z => absurd z (by decide), fun _ => ?_⟩⟩⟩
      refine ⟨fun _ => trivial, fun cy => ?_⟩
      rw [nI_1, nI_clamp (by omega), nI_clamp (by omega), or.2.2.1 (j + 1) (by omega), or.2.2.1 j (by omega), offs_succ PK hj, show nI (offs PK j + (PK.getD j []).length) - nI (offs PK j) = nI (PK.getD j []).length from by rw [pk_sub (by omega)]; congr 1; omega]
      refine ⟨vp_in_nI (by omega) (by decide), vp_in_nI (by omega) (by decide), fun z => ?_, fun _ => trivial⟩
      rcases hy with w | w
      · exact absurd w cy
      · exact absurd z w.2
  by_cases hb : x < 0 ∨ (¬ x < 0 ∧ nI PK.length ≤ x) ∨ ∃ j, j < PK.length ∧ x = nI j ∧ (y < 0 ∨ (¬ y < 0 ∧ ¬ y < nI (PK.getD j []).length))
  · refine ⟨True, fun _ => ⟨h1, h2, bad hb⟩, fun _ => trivial, fun cy => ?_⟩
    unfold wp_X3_sizeOf_5
    rw [oc'.1]
    have m1 : ¬ y < (-1 : Int32) := fun z => cy (Int32.lt_trans z (by decide))
    rcases hb with c | ⟨c, c2⟩ | ⟨j, hj, rfl, hy⟩
    · exact ⟨fun _ => ⟨fun z => absurd z m1, fun _ => trivial⟩, fun z => absurd c z⟩
    · exact ⟨fun z => absurd z c, fun _ => ⟨fun _ => ⟨fun z => absurd z m1, fun _ => trivial⟩, fun z => absurd c2 z⟩⟩
    · have nn : ¬ nI j < 0 := nI_pos (by omega)
      have nl : ¬ nI PK.length ≤ nI j := nI_ge hj (by omega)
      refine ⟨fun z => absurd z nn, fun _ => ⟨fun z => absurd z nl, fun _ => ?_⟩⟩
      refine qg j _ (fun z => by omega) (fun _ => ?_) rfl (by omega) (by omega)
      rw [nI_clamp (by omega), (oc'.2.2.2.1 j hj).2]
      refine ⟨vp_in_nI (by omega) (by decide), fun z => ?_, fun _ => trivial⟩
      rcases hy with w | w
      · exact absurd w cy
      · exact absurd z w.2
  · have hx0 : ¬ x < 0 := fun z => hb (Or.inl z)
    obtain ⟨j, hj, rfl⟩ : ∃ j, j < PK.length ∧ x = nI j := by
      rcases ge_cases x PK.length (by omega) with c | c | c
      · exact absurd c hx0
      · exact absurd (Or.inr (Or.inl c)) hb
      · exact c
    have hy0 : ¬ y < 0 := fun z => hb (Or.inr (Or.inr ⟨j, hj, rfl, Or.inl z⟩))
    obtain ⟨i, hi, rfl⟩ := nI_of hy0
    have hyl : nI i < nI (PK.getD j []).length := Classical.byContradiction (fun z => hb (Or.inr (Or.inr ⟨j, hj, rfl, Or.inr ⟨hy0, z⟩⟩)))
    have hso := offs_succ PK hj
    have hol := offs_le PK (j + 1)
    have hil : i < (PK.getD j []).length := (nI_ltI hi (by omega)).mp hyl
    have nn : ¬ nI j < 0 := nI_pos (by omega)
    have nl : ¬ nI PK.length ≤ nI j := nI_ge hj (by omega)
    refine ⟨False, False.elim, fun z => absurd z hy0, fun _ => ?_⟩
    unfold wp_X3_sizeOf_5 wp_X3_startOf_5
    rw [oc'.1, nI_clamp (by omega), (oc'.2.2.2.1 j hj).1, (oc'.2.2.2.1 j hj).2]
    refine ⟨fun z => absurd z nn, fun _ => ⟨fun z => absurd z nl, fun _ => ?_⟩⟩
    refine qg j _ (fun z => by omega) (fun _ => ?_) rfl (by omega) (by omega)
    refine ⟨vp_in_nI (by omega) (by decide), fun _ => ?_, fun z => absurd hyl z⟩
    refine ⟨fun z => absurd z nn, fun _ => ⟨fun z => absurd z nl, fun _ => ?_⟩⟩
    refine qg j _ (fun z => by omega) (fun _ => ?_) rfl (by omega) (by omega)
    refine ⟨vp_in_nI (by omega) (by decide), ?_⟩
    refine p_at_6 (offs PK j + i) ?_ (by omega) (nI_add _ _)
    refine ⟨h1, h2, ?_⟩
    unfold wp_X7_octet_0 wp_X7_isPacket_0 wp_X7_thrown_0
    rw [or.1]
    refine ⟨fun z => absurd z nn, fun _ => ⟨fun z => absurd z nl, fun _ => ?_⟩⟩
    refine ⟨fun v => v = 0, ?_, ?_⟩
    · rintro _ rfl
      rintro _ rfl
      refine ⟨fun _ => ?_, fun z => absurd (show (0 : Int32) ≤ 0 by decide) z⟩
      refine ⟨vp_in_nI (by omega) (by decide), ?_⟩
      rw [nI_clamp (by omega), show mu N 0 0 (0 : Int32) 4 j = nI (offs PK j) from or.2.2.1 j (by omega)]
      refine r_oct_3 (offs PK j + i) ?_ (by omega) (nI_add _ _)
      refine tail_ok rfl (fun _ => ?_) (hP _ _)
      rw [upd_0, out_at oc' or (by omega)]
      rfl
    · refine ⟨False, False.elim, fun z => absurd z (by decide), fun _ => ⟨fun z => absurd z hy0, fun _ => ?_⟩⟩
      rw [nI_1, nI_clamp (by omega), nI_clamp (by omega), or.2.2.1 (j + 1) (by omega), or.2.2.1 j (by omega), hso, show nI (offs PK j + (PK.getD j []).length) - nI (offs PK j) = nI (PK.getD j []).length from by rw [pk_sub (by omega)]; congr 1; omega]
      exact ⟨vp_in_nI (by omega) (by decide), vp_in_nI (by omega) (by decide), fun _ => rfl, fun z => absurd hyl z⟩
