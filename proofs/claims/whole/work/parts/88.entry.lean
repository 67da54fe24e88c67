theorem nestT : ∀ w ∈ cpNest, w ∈ lw_tbl := (List.forall_mem_cons.mpr ⟨(List.mem_append_right _ (show _ ∈ tables_1 from (List.mem_append_left _ (List.mem_of_getElem? (l := tables_1_1) (i := 32) rfl)))), (List.forall_mem_cons.mpr ⟨(List.mem_append_right _ (show _ ∈ tables_1 from (List.mem_append_left _ (List.mem_of_getElem? (l := tables_1_1) (i := 33) rfl)))), (List.forall_mem_cons.mpr ⟨(List.mem_append_right _ (show _ ∈ tables_1 from (List.mem_append_left _ (List.mem_of_getElem? (l := tables_1_1) (i := 34) rfl)))), (List.forall_mem_cons.mpr ⟨(List.mem_append_right _ (show _ ∈ tables_1 from (List.mem_append_left _ (List.mem_of_getElem? (l := tables_1_1) (i := 35) rfl)))), (List.forall_mem_cons.mpr ⟨(List.mem_append_right _ (show _ ∈ tables_1 from (List.mem_append_left _ (List.mem_of_getElem? (l := tables_1_1) (i := 51) rfl)))), (List.forall_mem_cons.mpr ⟨(List.mem_append_right _ (show _ ∈ tables_1 from (List.mem_append_left _ (List.mem_of_getElem? (l := tables_1_1) (i := 55) rfl)))), (List.forall_mem_cons.mpr ⟨(List.mem_append_right _ (show _ ∈ tables_1 from (List.mem_append_left _ (List.mem_of_getElem? (l := tables_1_1) (i := 74) rfl)))), (List.forall_mem_cons.mpr ⟨(List.mem_append_right _ (show _ ∈ tables_1 from (List.mem_append_left _ (List.mem_of_getElem? (l := tables_1_1) (i := 76) rfl)))), (List.forall_mem_cons.mpr ⟨(List.mem_append_right _ (show _ ∈ tables_1 from (List.mem_append_left _ (List.mem_of_getElem? (l := tables_1_1) (i := 78) rfl)))), (List.forall_mem_cons.mpr ⟨(List.mem_append_right _ (show _ ∈ tables_1 from (List.mem_append_left _ (List.mem_of_getElem? (l := tables_1_1) (i := 96) rfl)))), (List.forall_mem_cons.mpr ⟨(List.mem_append_right _ (show _ ∈ tables_1 from (List.mem_append_left _ (List.mem_of_getElem? (l := tables_1_1) (i := 98) rfl)))), (List.forall_mem_cons.mpr ⟨(List.mem_append_right _ (show _ ∈ tables_1 from (List.mem_append_left _ (List.mem_of_getElem? (l := tables_1_1) (i := 100) rfl)))), (List.forall_mem_cons.mpr ⟨(List.mem_append_right _ (show _ ∈ tables_1 from (List.mem_append_left _ (List.mem_of_getElem? (l := tables_1_1) (i := 102) rfl)))), (List.forall_mem_cons.mpr ⟨(List.mem_append_right _ (show _ ∈ tables_1 from (List.mem_append_left _ (List.mem_of_getElem? (l := tables_1_1) (i := 237) rfl)))), (List.forall_mem_cons.mpr ⟨(List.mem_append_right _ (show _ ∈ tables_1 from (List.mem_append_left _ (List.mem_of_getElem? (l := tables_1_1) (i := 239) rfl)))), (List.forall_mem_cons.mpr ⟨(List.mem_append_right _ (show _ ∈ tables_1 from (List.mem_append_left _ (List.mem_of_getElem? (l := tables_1_1) (i := 44) rfl)))), (List.forall_mem_cons.mpr ⟨(List.mem_append_right _ (show _ ∈ tables_1 from (List.mem_append_left _ (List.mem_of_getElem? (l := tables_1_1) (i := 68) rfl)))), (List.forall_mem_cons.mpr ⟨(List.mem_append_right _ (show _ ∈ tables_1 from (List.mem_append_left _ (List.mem_of_getElem? (l := tables_1_1) (i := 88) rfl)))), (List.forall_mem_cons.mpr ⟨(List.mem_append_right _ (show _ ∈ tables_1 from (List.mem_append_left _ (List.mem_of_getElem? (l := tables_1_1) (i := 91) rfl)))), (List.forall_mem_cons.mpr ⟨(List.mem_append_right _ (show _ ∈ tables_1 from (List.mem_append_left _ (List.mem_of_getElem? (l := tables_1_1) (i := 232) rfl)))), (List.forall_mem_cons.mpr ⟨(List.mem_append_right _ (show _ ∈ tables_1 from (List.mem_append_left _ (List.mem_of_getElem? (l := tables_1_1) (i := 235) rfl)))), (List.forall_mem_cons.mpr ⟨(List.mem_append_right _ (show _ ∈ tables_1 from (List.mem_append_right _ (List.mem_append_left _ (List.mem_of_getElem? (l := tables_1_2) (i := 121) rfl))))), (List.forall_mem_cons.mpr ⟨(List.mem_append_right _ (show _ ∈ tables_1 from (List.mem_append_right _ (List.mem_append_right _ (List.mem_append_left _ (List.mem_of_getElem? (l := tables_1_3) (i := 116) rfl)))))), (fun _ h => nomatch h)⟩)⟩)⟩)⟩)⟩)⟩)⟩)⟩)⟩)⟩)⟩)⟩)⟩)⟩)⟩)⟩)⟩)⟩)⟩)⟩)⟩)⟩)⟩)
theorem badT : ∀ w ∈ cpBad, w ∈ lw_tbl := (List.forall_mem_cons.mpr ⟨(List.mem_append_right _ (show _ ∈ tables_1 from (List.mem_append_right _ (List.mem_append_right _ (List.mem_append_left _ (List.mem_of_getElem? (l := tables_1_3) (i := 228) rfl)))))), (List.forall_mem_cons.mpr ⟨(List.mem_append_right _ (show _ ∈ tables_1 from (List.mem_append_right _ (List.mem_append_right _ (List.mem_append_right _ (List.mem_append_left _ (List.mem_of_getElem? (l := tables_1_4) (i := 63) rfl))))))), (List.forall_mem_cons.mpr ⟨(List.mem_append_right _ (show _ ∈ tables_1 from (List.mem_append_right _ (List.mem_append_right _ (List.mem_append_right _ (List.mem_append_left _ (List.mem_of_getElem? (l := tables_1_4) (i := 106) rfl))))))), (List.forall_mem_cons.mpr ⟨(List.mem_append_right _ (show _ ∈ tables_1 from (List.mem_append_right _ (List.mem_append_right _ (List.mem_append_left _ (List.mem_of_getElem? (l := tables_1_3) (i := 230) rfl)))))), (List.forall_mem_cons.mpr ⟨(List.mem_append_right _ (show _ ∈ tables_1 from (List.mem_append_right _ (List.mem_append_right _ (List.mem_append_left _ (List.mem_of_getElem? (l := tables_1_3) (i := 232) rfl)))))), (List.forall_mem_cons.mpr ⟨(List.mem_append_right _ (show _ ∈ tables_1 from (List.mem_append_right _ (List.mem_append_right _ (List.mem_append_left _ (List.mem_of_getElem? (l := tables_1_3) (i := 234) rfl)))))), (fun _ h => nomatch h)⟩)⟩)⟩)⟩)⟩)⟩)
theorem tabM0 : ∀ j, j < 16 → Cond.eq (.elem (.static "PacketTranslator" "UNREACHABLE_TO_SIX" "[I") (.int (Int32.ofNat j))) (.int (cpTab0.getD j 0)) ∈ flatC (Jvm.Cond.and given_1 narrow_1) := by decide +kernel
theorem tabM1 : ∀ j, j < 20 → Cond.eq (.elem (.static "PacketTranslator" "POINTER_TO_SIX" "[I") (.int (Int32.ofNat j))) (.int (cpTab1.getD j 0)) ∈ flatC (Jvm.Cond.and given_1 narrow_1) := by decide +kernel
theorem tabM2 : ∀ j, j < 10 → Cond.eq (.elem (.static "PacketTranslator" "PLATEAUS" "[I") (.int (Int32.ofNat j))) (.int (cpTab2.getD j 0)) ∈ flatC (Jvm.Cond.and given_1 narrow_1) := by decide +kernel
theorem tabM3 : ∀ j, j < 5 → Cond.eq (.elem (.static "PacketTranslator" "UNREACHABLE_TO_FOUR" "[I") (.int (Int32.ofNat j))) (.int (cpTab3.getD j 0)) ∈ flatC (Jvm.Cond.and given_1 narrow_1) := by decide +kernel
theorem tabM4 : ∀ j, j < 40 → Cond.eq (.elem (.static "PacketTranslator" "POINTER_TO_FOUR" "[I") (.int (Int32.ofNat j))) (.int (cpTab4.getD j 0)) ∈ flatC (Jvm.Cond.and given_1 narrow_1) := by decide +kernel
set_option maxHeartbeats 4000000 in
theorem lw_env {s : State} {b : Nat} (hts : ∀ w ∈ lw_tbl, w.before #[Value.ref b] s = true) (hgv : (Jvm.Cond.and given_1 narrow_1).before #[Value.ref b] s = true) : ∃ (t sa : Nat → Nat), cpE t (gA s) s ∧ cpX sa (gA s) s := by
  have hs := flat_of_before _ hgv
  have hA : ∀ a : Nat, a < s.heap.size → ¬ gA s a := fun a h => Nat.not_le.mpr h
  obtain ⟨t0, e0, T0⟩ := va_Tof (args := #[Value.ref b]) (s := s) (tm := (.static "PacketTranslator" "UNREACHABLE_TO_SIX" "[I")) (ty := .int) (N := 16) (f := fun j => .int (cpTab0.getD j 0)) (A := gA s) (by decide) (hs (.arrayOf (.static "PacketTranslator" "UNREACHABLE_TO_SIX" "[I") .int) (by decide +kernel)) (va_eqt (hs (.eq (.length (.static "PacketTranslator" "UNREACHABLE_TO_SIX" "[I")) (.int 16)) (by decide +kernel))) (fun j hj => va_eqt (hs _ (tabM0 j hj))) hA
  obtain ⟨t1, e1, T1⟩ := va_Tof (args := #[Value.ref b]) (s := s) (tm := (.static "PacketTranslator" "POINTER_TO_SIX" "[I")) (ty := .int) (N := 20) (f := fun j => .int (cpTab1.getD j 0)) (A := gA s) (by decide) (hs (.arrayOf (.static "PacketTranslator" "POINTER_TO_SIX" "[I") .int) (by decide +kernel)) (va_eqt (hs (.eq (.length (.static "PacketTranslator" "POINTER_TO_SIX" "[I")) (.int 20)) (by decide +kernel))) (fun j hj => va_eqt (hs _ (tabM1 j hj))) hA
  obtain ⟨t2, e2, T2⟩ := va_Tof (args := #[Value.ref b]) (s := s) (tm := (.static "PacketTranslator" "PLATEAUS" "[I")) (ty := .int) (N := 10) (f := fun j => .int (cpTab2.getD j 0)) (A := gA s) (by decide) (hs (.arrayOf (.static "PacketTranslator" "PLATEAUS" "[I") .int) (by decide +kernel)) (va_eqt (hs (.eq (.length (.static "PacketTranslator" "PLATEAUS" "[I")) (.int 10)) (by decide +kernel))) (fun j hj => va_eqt (hs _ (tabM2 j hj))) hA
  obtain ⟨t3, e3, T3⟩ := va_Tof (args := #[Value.ref b]) (s := s) (tm := (.static "PacketTranslator" "UNREACHABLE_TO_FOUR" "[I")) (ty := .int) (N := 5) (f := fun j => .int (cpTab3.getD j 0)) (A := gA s) (by decide) (hs (.arrayOf (.static "PacketTranslator" "UNREACHABLE_TO_FOUR" "[I") .int) (by decide +kernel)) (va_eqt (hs (.eq (.length (.static "PacketTranslator" "UNREACHABLE_TO_FOUR" "[I")) (.int 5)) (by decide +kernel))) (fun j hj => va_eqt (hs _ (tabM3 j hj))) hA
  obtain ⟨t4, e4, T4⟩ := va_Tof (args := #[Value.ref b]) (s := s) (tm := (.static "PacketTranslator" "POINTER_TO_FOUR" "[I")) (ty := .int) (N := 40) (f := fun j => .int (cpTab4.getD j 0)) (A := gA s) (by decide) (hs (.arrayOf (.static "PacketTranslator" "POINTER_TO_FOUR" "[I") .int) (by decide +kernel)) (va_eqt (hs (.eq (.length (.static "PacketTranslator" "POINTER_TO_FOUR" "[I")) (.int 40)) (by decide +kernel))) (fun j hj => va_eqt (hs _ (tabM4 j hj))) hA
  obtain ⟨a0, c0, d0, k0, q0, -⟩ := Cond.exactly_spec (args := #[Value.ref b]) (first := s) (o := none) (s := s) (idx := []) (t := .string "PacketTranslator" 94) (cls := "java/lang/String") (hs (.exactly (.string "PacketTranslator" 94) "java/lang/String") (by decide +kernel))
  obtain ⟨a1, c1, d1, k1, q1, -⟩ := Cond.exactly_spec (args := #[Value.ref b]) (first := s) (o := none) (s := s) (idx := []) (t := .string "PacketTranslator" 105) (cls := "java/lang/String") (hs (.exactly (.string "PacketTranslator" 105) "java/lang/String") (by decide +kernel))
  obtain ⟨a2, c2, d2, k2, q2, -⟩ := Cond.exactly_spec (args := #[Value.ref b]) (first := s) (o := none) (s := s) (idx := []) (t := .string "PacketTranslator" 112) (cls := "java/lang/String") (hs (.exactly (.string "PacketTranslator" 112) "java/lang/String") (by decide +kernel))
  obtain ⟨a3, c3, d3, k3, q3, -⟩ := Cond.exactly_spec (args := #[Value.ref b]) (first := s) (o := none) (s := s) (idx := []) (t := .string "PacketTranslator" 123) (cls := "java/lang/String") (hs (.exactly (.string "PacketTranslator" 123) "java/lang/String") (by decide +kernel))
  obtain ⟨a4, c4, d4, k4, q4, -⟩ := Cond.exactly_spec (args := #[Value.ref b]) (first := s) (o := none) (s := s) (idx := []) (t := .string "PacketTranslator" 149) (cls := "java/lang/String") (hs (.exactly (.string "PacketTranslator" 149) "java/lang/String") (by decide +kernel))
  obtain ⟨a5, c5, d5, k5, q5, -⟩ := Cond.exactly_spec (args := #[Value.ref b]) (first := s) (o := none) (s := s) (idx := []) (t := .string "PacketTranslator" 161) (cls := "java/lang/String") (hs (.exactly (.string "PacketTranslator" 161) "java/lang/String") (by decide +kernel))
  refine ⟨fun k => match k with | 0 => t0 | 1 => t1 | 2 => t2 | 3 => t3 | _ => t4, fun k => match k with | 0 => a0 | 1 => a1 | 2 => a2 | 3 => a3 | 4 => a4 | _ => a5, ⟨fun w hw => va_Nw.of (by have := List.all_eq_true.mp cpNest_all w hw; cases w <;> first | rfl | cases this) (hts w (nestT w hw)), ⟨va_Zref (hts (.laysStatic "PacketTranslator" "UNREACHABLE_TO_SIX" "[I") (List.mem_append_right _ (show _ ∈ tables_1 from (List.mem_append_right _ (List.mem_append_left _ (List.mem_of_getElem? (l := tables_1_2) (i := 231) rfl)))))) (hts (.initialized "PacketTranslator") (List.mem_append_right _ (show _ ∈ tables_1 from (List.mem_append_left _ (List.mem_of_getElem? (l := tables_1_1) (i := 1) rfl))))) e0 hA, T0⟩, ⟨va_Zref (hts (.laysStatic "PacketTranslator" "POINTER_TO_SIX" "[I") (List.mem_append_right _ (show _ ∈ tables_1 from (List.mem_append_right _ (List.mem_append_right _ (List.mem_append_left _ (List.mem_of_getElem? (l := tables_1_3) (i := 5) rfl))))))) (hts (.initialized "PacketTranslator") (List.mem_append_right _ (show _ ∈ tables_1 from (List.mem_append_left _ (List.mem_of_getElem? (l := tables_1_1) (i := 1) rfl))))) e1 hA, T1⟩, ⟨va_Zref (hts (.laysStatic "PacketTranslator" "PLATEAUS" "[I") (List.mem_append_right _ (show _ ∈ tables_1 from (List.mem_append_right _ (List.mem_append_right _ (List.mem_append_left _ (List.mem_of_getElem? (l := tables_1_3) (i := 14) rfl))))))) (hts (.initialized "PacketTranslator") (List.mem_append_right _ (show _ ∈ tables_1 from (List.mem_append_left _ (List.mem_of_getElem? (l := tables_1_1) (i := 1) rfl))))) e2 hA, T2⟩, ⟨va_Zref (hts (.laysStatic "PacketTranslator" "UNREACHABLE_TO_FOUR" "[I") (List.mem_append_right _ (show _ ∈ tables_1 from (List.mem_append_right _ (List.mem_append_right _ (List.mem_append_left _ (List.mem_of_getElem? (l := tables_1_3) (i := 146) rfl))))))) (hts (.initialized "PacketTranslator") (List.mem_append_right _ (show _ ∈ tables_1 from (List.mem_append_left _ (List.mem_of_getElem? (l := tables_1_1) (i := 1) rfl))))) e3 hA, T3⟩, ⟨va_Zref (hts (.laysStatic "PacketTranslator" "POINTER_TO_FOUR" "[I") (List.mem_append_right _ (show _ ∈ tables_1 from (List.mem_append_right _ (List.mem_append_right _ (List.mem_append_left _ (List.mem_of_getElem? (l := tables_1_3) (i := 164) rfl))))))) (hts (.initialized "PacketTranslator") (List.mem_append_right _ (show _ ∈ tables_1 from (List.mem_append_left _ (List.mem_of_getElem? (l := tables_1_1) (i := 1) rfl))))) e4 hA, T4⟩⟩, ?_⟩
  refine ⟨fun w hw => va_Nw.of (cpBad_tab (List.all_eq_true.mp cpBad_all w hw)) (hts w (badT w hw)), ?_, ?_, vk_R.of (hts (.stringRef "PacketTranslator" 94 "the tape would have more than 2400 bytes") (List.mem_append_right _ (show _ ∈ tables_1 from (List.mem_append_right _ (List.mem_append_right _ (List.mem_append_right _ (List.mem_append_left _ (List.mem_of_getElem? (l := tables_1_4) (i := 27) rfl)))))))) q0, vk_R.of (hts (.stringRef "PacketTranslator" 105 "the tape has not so many bytes") (List.mem_append_right _ (show _ ∈ tables_1 from (List.mem_append_right _ (List.mem_append_right _ (List.mem_append_right _ (List.mem_append_left _ (List.mem_of_getElem? (l := tables_1_4) (i := 70) rfl)))))))) q1, vk_R.of (hts (.stringRef "PacketTranslator" 112 "no prefix") (List.mem_append_right _ (show _ ∈ tables_1 from (List.mem_append_right _ (List.mem_append_right _ (List.mem_append_right _ (List.mem_append_left _ (List.mem_of_getElem? (l := tables_1_4) (i := 87) rfl)))))))) q2, vk_R.of (hts (.stringRef "PacketTranslator" 123 "a limit out of its range") (List.mem_append_right _ (show _ ∈ tables_1 from (List.mem_append_right _ (List.mem_append_right _ (List.mem_append_right _ (List.mem_append_left _ (List.mem_of_getElem? (l := tables_1_4) (i := 95) rfl)))))))) q3, vk_R.of (hts (.stringRef "PacketTranslator" 149 "no such byte") (List.mem_append_right _ (show _ ∈ tables_1 from (List.mem_append_right _ (List.mem_append_right _ (List.mem_append_right _ (List.mem_append_left _ (List.mem_of_getElem? (l := tables_1_4) (i := 113) rfl)))))))) q4, vk_R.of (hts (.stringRef "PacketTranslator" 161 "no such bytes") (List.mem_append_right _ (show _ ∈ tables_1 from (List.mem_append_right _ (List.mem_append_right _ (List.mem_append_right _ (List.mem_append_left _ (List.mem_of_getElem? (l := tables_1_4) (i := 131) rfl)))))))) q5⟩
  · exact vx_Zqof (hts (.laysStatic "java/lang/Throwable" "UNASSIGNED_STACK" "[Ljava/lang/StackTraceElement;") (List.mem_append_right _ (show _ ∈ tables_1 from (List.mem_append_right _ (List.mem_append_right _ (List.mem_append_right _ (List.mem_append_left _ (List.mem_of_getElem? (l := tables_1_4) (i := 13) rfl)))))))) (hts (.initialized "java/lang/Throwable") (List.mem_append_right _ (show _ ∈ tables_1 from (List.mem_append_left _ (List.mem_of_getElem? (l := tables_1_1) (i := 9) rfl))))) (hs (.isRef (.static "java/lang/Throwable" "UNASSIGNED_STACK" "[Ljava/lang/StackTraceElement;")) (by decide +kernel)) hA
  · exact vx_Zqof (hts (.laysStatic "java/lang/Throwable" "SUPPRESSED_SENTINEL" "Ljava/util/List;") (List.mem_append_right _ (show _ ∈ tables_1 from (List.mem_append_right _ (List.mem_append_right _ (List.mem_append_right _ (List.mem_append_left _ (List.mem_of_getElem? (l := tables_1_4) (i := 15) rfl)))))))) (hts (.initialized "java/lang/Throwable") (List.mem_append_right _ (show _ ∈ tables_1 from (List.mem_append_left _ (List.mem_of_getElem? (l := tables_1_1) (i := 9) rfl))))) (hs (.isRef (.static "java/lang/Throwable" "SUPPRESSED_SENTINEL" "Ljava/util/List;")) (by decide +kernel)) hA
set_option maxHeartbeats 4000000 in
theorem law_loop {p : Program} {l : Launch} {e : Env} {s : State} {m : MethodId} {below : List Frame} {meth : Method} {c : Code} {dC : Nat → ClassId} {dI : Nat → Nat → Nat} {a : Nat → Nat} {kA : Nat → ClassId} {b : Nat → Nat} {kB : Nat → ClassId} {o : Nat} {kO : ClassId} {t sa : Nat → Nat} {sc LL : Nat} {xs : Nat → Int32} (hls : l.stackTraces = false) (hL : LL ≤ 3072) (C0 : lw_At p s m meth c sc LL xs) (hv : ∀ w ∈ uV, w.before #[Value.ref sc] s = true) (F : lwF dC dI a kA b kB o kO t sa s) (Inv : Nat → cM → cL → cM → cL → (Nat → Int64) → Prop) (IS : ∀ (j : Nat) (M : cM) (L : cL) (N : cM) (K : cL) (f : Nat → Int64), 6 * j + 6 ≤ LL → Inv j M L N K f → wp_turn LL xs (nI (6 * j)) M L N K f (Inv (j + 1))) :
    ∀ (n j : Nat) (M : cM) (L : cL) (N : cM) (K : cL) (f : Nat → Int64) (H : Heap) (locs : List Loc) (ls : Array Slot), 6 * j ≤ LL → LL < 6 * j + 6 * n → Inv j M L N K f → lwI dC dI a kA b kB o kO s M L N K f H locs → lv_has ls 7 [(0, .ref sc), (1, .ref (a 0)), (2, .ref (b 0)), (3, .ref o), (4, .int (nI (6 * j)))] → W p l e room_1 s m #[Value.ref sc] below meth c H locs (23 + j) (31904 + 11 * j) (lw_Z below #[Value.ref sc] s) (F0 m 23 ls []) := by
  obtain ⟨hx, hb, hr, hml, hown, hts, hX, hbl, hlocks, hgv⟩ := C0
  have hown : s.vm.findClass RL = some m.cls := hown
  have hbA : ¬ gA s sc := Nat.not_le.mpr hbl
  intro n
  induction n with
  | zero => intro j M L N K f H locs ls h1 h2; omega
  | succ n ih =>
    intro j M L N K f H locs ls h1 h2 h hI hl
    refine lv_iload hx hb dL_law_23 (lv_at hl 4 rfl) ?_
    refine lv_aload_n hx hb dL_law_25 rfl (lv_at hl 0 rfl) ?_
    refine va_slen hx hb hX hbl hbA hI.2.2.2 dL_law_26 ?_
    refine lv_bipush (v := (6 : Int32)) hx hb dL_law_27 (by decide) ?_
    refine lv_isub hx hb dL_law_29 ?_
    have key : (Int32.ofNat LL - 6).toInt = (LL : Int) - 6 := pk_sub_toInt (a := LL) (b := 6) (by omega) (by omega)
    have key2 : (nI (6 * j)).toInt = ((6 * j : Nat) : Int) := nI_toInt (by omega)
    refine lv_icmp_gt (tgt := 1025) hx hb dL_law_30 (by decide) (fun c1 => ?_) (fun c1 => ?_)
    · refine lv_iconst (v := (1 : Int32)) hx hb dL_law_1025 (by decide) ?_
      refine va_forget (fun q hq => hI.2.2.2.2.2 q hq) ?_
      refine W.widen (k := 601024) (n := 7293034) (by omega) (by omega) ?_
      exact lw_ret hx hb hr hlocks dL_law_1026
    · have hj : 6 * j + 6 ≤ LL := by
        rw [Int32.lt_iff_toInt_lt, key, key2] at c1
        omega
      refine law_turn hls hx hb hml hown hv hX hbl F M L N K f (nI (6 * j)) H locs ls (23 + j) (31904 + 11 * j) (by omega) (by omega) (Inv (j + 1)) (IS j M L N K f hj h) hI hl (fun M L N K f H locs ls h hI hl => ?_)
      obtain ⟨x5, e5⟩ : ∃ y : Int32, y = nI (6 * (j + 1)) := ⟨_, rfl⟩
      refine lv_iinc (v := x5) (lv' := [(4, .int x5), (0, .ref sc), (1, .ref (a 0)), (2, .ref (b 0)), (3, .ref o)]) hx hb dL_law_1019 hl (k := 4) rfl (by rw [e5, show 6 * (j + 1) = 6 * j + 6 from by omega, ← nI_add]; rfl) (by decide) rfl (fun ls hl => ?_)
      refine lv_goto (tgt := 23) hx hb dL_law_1022 (by decide) ?_
      refine W.widen (k := 23 + (j + 1)) (n := 31904 + 11 * (j + 1)) (by omega) (by omega) ?_
      rw [e5] at hl
      exact ih (j + 1) M L N K f H locs ls (by omega) (by omega) h hI (lv_sub hl [1, 2, 3, 4, 0] rfl)
set_option maxHeartbeats 8000000 in
set_option maxRecDepth 100000 in
/-- THE LAW, from its entry, out of an invariant of its loop -/
theorem whole_from {p : Program} {e : Env} {s : State} {m : MethodId} {below : List Frame} {meth : Method} {c : Code} (l : Launch) (hls : l.stackTraces = false) {sc LL : Nat} {xs : Nat → Int32} (hL : LL ≤ 3072) (C0 : lw_At p s m meth c sc LL xs) (Inv : Nat → cM → cL → cM → cL → (Nat → Int64) → Prop) (I0 : Inv 0 cpM0 cpL0 rpM0 rpL0 (fun _ => 0)) (IS : ∀ (j : Nat) (M : cM) (L : cL) (N : cM) (K : cL) (f : Nat → Int64), 6 * j + 6 ≤ LL → Inv j M L N K f → wp_turn LL xs (nI (6 * j)) M L N K f (Inv (j + 1))) : W p l e room_1 s m #[Value.ref sc] below meth c s.heap [] 0 0 (lw_Z below #[Value.ref sc] s) (entryFrame m ([Value.ref sc] : List Value).toArray 7) := by
  obtain ⟨hx, hb, hr, hml, hown, hts, hX, hbl, hlocks, hgv⟩ := id C0
  have hown : s.vm.findClass RL = some m.cls := hown
  have hA : ∀ q : Nat, s.heap.size ≤ q → gA s q := fun _ h => h
  have hv : ∀ w ∈ uV, w.before #[Value.ref sc] s = true := fun w h => hts w (uTV w h)
  have hu : ∀ w ∈ uW, w.before #[Value.ref sc] s = true := fun w h => hts w (uTW w h)
  obtain ⟨t, sa, hE, hXx⟩ := lw_env hts hgv
  have hN := hE.1
  obtain ⟨c0, iS0, hKn0⟩ := u_known (C := RX0) (T := TX0) (N := 18) (n := 18) hts (fun w h => uTW w (uX0 w h)) (hv _ (uWV _ uww_223))
  obtain ⟨c1, iS1, hKn1⟩ := u_known (C := RX1) (T := TX1) (N := 3) (n := 3) hts (fun w h => uTW w (uX1 w h)) (hv _ (uWV _ uww_220))
  obtain ⟨c2, iS2, hKn2⟩ := u_known (C := RX3) (T := TX3) (N := 4) (n := 4) hts (fun w h => uTW w (uX3 w h)) (hv _ (uWV _ uww_216))
  obtain ⟨c3, iS3, hKn3⟩ := u_known (C := RX4) (T := TX4) (N := 2) (n := 2) hts (fun w h => uTW w (uX4 w h)) (hv _ (uWV _ uww_126))
  obtain ⟨c4, iS4, hKn4⟩ := u_known (C := RX5) (T := TX5) (N := 16) (n := 16) hts (fun w h => uTW w (uX5 w h)) (hv _ (uWV _ uww_227))
  obtain ⟨c5, iS5, hKn5⟩ := u_known (C := RX6) (T := TX6) (N := 17) (n := 17) hts (fun w h => uTW w (uX6 w h)) (hv _ ul_1)
  obtain ⟨c6, iS6, hKn6⟩ := u_known (C := RX7) (T := TX7) (N := 44) (n := 44) hts (fun w h => uTW w (uX7 w h)) (hv _ ul_3)
  obtain ⟨dC, dI, hKc⟩ : ∃ (dC : Nat → ClassId) (dI : Nat → Nat → Nat), ∀ (k : Nat) (q : vw_C), vwCl[k]? = some q → u_Kn s q.1 q.2.1 q.2.2 (dC k) (dI k) := by
    refine ⟨fun k => if k = 0 then c0 else if k = 1 then c1 else if k = 2 then c2 else if k = 3 then c3 else if k = 4 then c4 else if k = 5 then c5 else c6, fun k => if k = 0 then iS0 else if k = 1 then iS1 else if k = 2 then iS2 else if k = 3 then iS3 else if k = 4 then iS4 else if k = 5 then iS5 else iS6, ?_⟩
    intro k q hq
    match k, hq with
    | 0, hq => cases hq; exact hKn0
    | 1, hq => cases hq; exact hKn1
    | 2, hq => cases hq; exact hKn2
    | 3, hq => cases hq; exact hKn3
    | 4, hq => cases hq; exact hKn4
    | 5, hq => cases hq; exact hKn5
    | 6, hq => cases hq; exact hKn6
    | k + 7, hq => simp [vwCl] at hq
  have hS : va_S (gA s) s.heap s.heap [] := va_S.rf
  have hK : va_K (dC, dI) vwCl [] s := ⟨hKc, fun k q h => by simp at h⟩
  have hP : va_P (dC, dI) vwCl [] s.heap := fun k q h => by simp at h
  have hD : va_D (gA s) [] := ⟨fun i j p q h => by simp at h, fun k q h => by simp at h⟩
  have hl := lv_entry ([.ref sc]) (n := 7) (Nat.le_of_ble_eq_true rfl)
  rw [lg_entry_eq]
  generalize (lg_sl ([.ref sc]) ++ List.replicate (7 - (lg_sl ([.ref sc])).length) Slot.unset).toArray = ls at hl ⊢
  have hl : lv_has ls 7 [(0, .ref sc)] := hl
  refine va_new (ci := 5) (fs := [.null, .null, .null, .null, .null, .null, .null, .null, .null, .int 0, .long 0, .long 0, .int 0, .int 0, .int 0, .int 0, .int 0]) (C := RX6) (T := TX6) (N := 17) hx hb hu uX6 tyX6 tyX6_ok hown (hv _ ul_0) (hv _ ul_1) (hv _ (uWV _ uww_67)) hK hP hD hS hA rfl (fun j hj => by rcases (show j = 0 ∨ j = 1 ∨ j = 2 ∨ j = 3 ∨ j = 4 ∨ j = 5 ∨ j = 6 ∨ j = 7 ∨ j = 8 ∨ j = 9 ∨ j = 10 ∨ j = 11 ∨ j = 12 ∨ j = 13 ∨ j = 14 ∨ j = 15 ∨ j = 16 by omega) with rfl | rfl | rfl | rfl | rfl | rfl | rfl | rfl | rfl | rfl | rfl | rfl | rfl | rfl | rfl | rfl | rfl <;> rfl) (by decide) (by decide) dL_law_0 (fun q0 H hP hD hS => ?_)
  have hP : va_P (dC, dI) vwCl ([(q0, .inr (5, [.null, .null, .null, .null, .null, .null, .null, .null, .null, .int 0, .long 0, .long 0, .int 0, .int 0, .int 0, .int 0, .int 0]))]) H := hP
  have hD : va_D (gA s) ([(q0, .inr (5, [.null, .null, .null, .null, .null, .null, .null, .null, .null, .int 0, .long 0, .long 0, .int 0, .int 0, .int 0, .int 0, .int 0]))]) := hD
  refine W.widen (k := 1) (n := 17) (by decide) (by decide) ?_
  refine lv_dup hx hb dL_law_3 rfl ?_
  have hPc := hP.sub (ws' := [(q0, .inr (5, [.null, .null, .null, .null, .null, .null, .null, .null, .null, .int 0, .long 0, .long 0, .int 0, .int 0, .int 0, .int 0, .int 0]))]) [0] rfl
  have hDc := hD.sub (ws' := [(q0, .inr (5, [.null, .null, .null, .null, .null, .null, .null, .null, .null, .int 0, .long 0, .long 0, .int 0, .int 0, .int 0, .int 0, .int 0]))]) [0] (by decide) rfl
  have hFc := va_free (wc := [(q0, .inr (5, [.null, .null, .null, .null, .null, .null, .null, .null, .null, .int 0, .long 0, .long 0, .int 0, .int 0, .int 0, .int 0, .int 0]))]) hD hS hA [0] rfl
  refine va_callv (va_runI (As := []) (rest := [.ref q0]) ⟨hx, hb, hml, hown, hv⟩ (ct_X6_init l dC dI q0 H.size) (cwI 0 hv (uIn3 (ks := []) uww_210 (fun _ h => nomatch h)) rfl rfl rfl (hv _ (uWV _ uww_67)) (hv _ ul_6) (hv _ ul_7) rfl (by decide +kernel) ⟨by decide, by decide⟩) ⟨ctPre_blind, fun U hU hW => ⟨rfl, by rw [hU], by rw [hU]; exact hPc, va_K.moved hW.alike hK, hDc.weaken (fun _ _ _ _ => trivial), cpNest_call hN hW⟩⟩ rfl rfl hl.1 rfl (lv_room (Nat.le_of_ble_eq_true rfl)) dL_law_4 ⟨by decide, by decide⟩) hS (fun q _ h => hFc q h) hFc (fun u t9 H1 locs ht hvm hw hB hz1 hk1 hS => ?_)
  obtain ⟨a, kA⟩ := u
  have ha0 : a 0 = q0 := hw
  obtain ⟨hP1, hK1, hD1⟩ := hB
  rw [ht] at hP1
  dsimp only at hP1 hK1 hD1
  have hKcp := va_K.moved hvm.symm hK1
  have hP : va_P (dC, dI) vwCl (cpWd a kA cpM0 cpL0) H1 := hP1
  have hD : va_D (gA s) (cpWd a kA cpM0 cpL0) := hD1.weaken (fun _ _ _ h => hFc _ h)
  generalize H1 = H at hP hS ⊢
  refine W.widen (k := 16) (n := 8347) (by decide) (by decide) ?_
  refine lv_astore_n (lv' := [(1, .ref q0), (0, .ref sc)]) hx hb dL_law_7 rfl hl (by decide) rfl (fun ls hl => ?_)
  refine va_new (ci := 6) (fs := [.int 0, .null, .int 0, .long 0, .long 0, .int 0, .int 0, .long 0, .long 0, .int 0, .int 0, .int 0, .int 0, .null, .int 0, .long 0, .long 0, .int 0, .long 0, .null, .int 0, .null, .int 0, .null, .int 0, .int 0, .int 0, .long 0, .long 0, .long 0, .long 0, .int 0, .int 0, .int 0, .int 0, .int 0, .int 0, .int 0, .int 0, .int 0, .int 0, .int 0, .int 0, .int 0]) (C := RX7) (T := TX7) (N := 44) hx hb hu uX7 tyX7 tyX7_ok hown (hv _ ul_2) (hv _ ul_3) (hv _ (uWV _ uww_563)) hK hP hD hS hA rfl (fun j hj => by rcases (show j = 0 ∨ j = 1 ∨ j = 2 ∨ j = 3 ∨ j = 4 ∨ j = 5 ∨ j = 6 ∨ j = 7 ∨ j = 8 ∨ j = 9 ∨ j = 10 ∨ j = 11 ∨ j = 12 ∨ j = 13 ∨ j = 14 ∨ j = 15 ∨ j = 16 ∨ j = 17 ∨ j = 18 ∨ j = 19 ∨ j = 20 ∨ j = 21 ∨ j = 22 ∨ j = 23 ∨ j = 24 ∨ j = 25 ∨ j = 26 ∨ j = 27 ∨ j = 28 ∨ j = 29 ∨ j = 30 ∨ j = 31 ∨ j = 32 ∨ j = 33 ∨ j = 34 ∨ j = 35 ∨ j = 36 ∨ j = 37 ∨ j = 38 ∨ j = 39 ∨ j = 40 ∨ j = 41 ∨ j = 42 ∨ j = 43 by omega) with rfl | rfl | rfl | rfl | rfl | rfl | rfl | rfl | rfl | rfl | rfl | rfl | rfl | rfl | rfl | rfl | rfl | rfl | rfl | rfl | rfl | rfl | rfl | rfl | rfl | rfl | rfl | rfl | rfl | rfl | rfl | rfl | rfl | rfl | rfl | rfl | rfl | rfl | rfl | rfl | rfl | rfl | rfl | rfl <;> rfl) (by decide) (by decide) dL_law_8 (fun q1 H hP hD hS => ?_)
  have hP : va_P (dC, dI) vwCl (cpWd a kA cpM0 cpL0 ++ [(q1, .inr (6, [.int 0, .null, .int 0, .long 0, .long 0, .int 0, .int 0, .long 0, .long 0, .int 0, .int 0, .int 0, .int 0, .null, .int 0, .long 0, .long 0, .int 0, .long 0, .null, .int 0, .null, .int 0, .null, .int 0, .int 0, .int 0, .long 0, .long 0, .long 0, .long 0, .int 0, .int 0, .int 0, .int 0, .int 0, .int 0, .int 0, .int 0, .int 0, .int 0, .int 0, .int 0, .int 0]))]) H := hP
  have hD : va_D (gA s) (cpWd a kA cpM0 cpL0 ++ [(q1, .inr (6, [.int 0, .null, .int 0, .long 0, .long 0, .int 0, .int 0, .long 0, .long 0, .int 0, .int 0, .int 0, .int 0, .null, .int 0, .long 0, .long 0, .int 0, .long 0, .null, .int 0, .null, .int 0, .null, .int 0, .int 0, .int 0, .long 0, .long 0, .long 0, .long 0, .int 0, .int 0, .int 0, .int 0, .int 0, .int 0, .int 0, .int 0, .int 0, .int 0, .int 0, .int 0, .int 0]))]) := hD
  refine W.widen (k := 17) (n := 8391) (by decide) (by decide) ?_
  refine lv_dup hx hb dL_law_11 rfl ?_
  have hPc := hP.sub (ws' := [(q1, .inr (6, [.int 0, .null, .int 0, .long 0, .long 0, .int 0, .int 0, .long 0, .long 0, .int 0, .int 0, .int 0, .int 0, .null, .int 0, .long 0, .long 0, .int 0, .long 0, .null, .int 0, .null, .int 0, .null, .int 0, .int 0, .int 0, .long 0, .long 0, .long 0, .long 0, .int 0, .int 0, .int 0, .int 0, .int 0, .int 0, .int 0, .int 0, .int 0, .int 0, .int 0, .int 0, .int 0]))]) [16] rfl
  have hDc := hD.sub (ws' := [(q1, .inr (6, [.int 0, .null, .int 0, .long 0, .long 0, .int 0, .int 0, .long 0, .long 0, .int 0, .int 0, .int 0, .int 0, .null, .int 0, .long 0, .long 0, .int 0, .long 0, .null, .int 0, .null, .int 0, .null, .int 0, .int 0, .int 0, .long 0, .long 0, .long 0, .long 0, .int 0, .int 0, .int 0, .int 0, .int 0, .int 0, .int 0, .int 0, .int 0, .int 0, .int 0, .int 0, .int 0]))]) [16] (by decide) rfl
  have hFc := va_free (wc := [(q1, .inr (6, [.int 0, .null, .int 0, .long 0, .long 0, .int 0, .int 0, .long 0, .long 0, .int 0, .int 0, .int 0, .int 0, .null, .int 0, .long 0, .long 0, .int 0, .long 0, .null, .int 0, .null, .int 0, .null, .int 0, .int 0, .int 0, .long 0, .long 0, .long 0, .long 0, .int 0, .int 0, .int 0, .int 0, .int 0, .int 0, .int 0, .int 0, .int 0, .int 0, .int 0, .int 0, .int 0]))]) hD hS hA [16] rfl
  refine va_callv (va_runI (As := []) (rest := [.ref q1]) ⟨hx, hb, hml, hown, hv⟩ (ct_X7_init l dC dI q1 H.size) (cwI 0 hv (uIn3 (ks := []) uww_536 (fun _ h => nomatch h)) rfl rfl rfl (hv _ (uWV _ uww_563)) (hv _ ul_8) (hv _ ul_9) rfl (by decide +kernel) ⟨by decide, by decide⟩) ⟨ctPre_blind, fun U hU hW => ⟨rfl, by rw [hU], by rw [hU]; exact hPc, va_K.moved hW.alike hK, hDc.weaken (fun _ _ _ _ => trivial), cpNest_call hN hW⟩⟩ rfl rfl hl.1 rfl (lv_room (Nat.le_of_ble_eq_true rfl)) dL_law_12 ⟨by decide, by decide⟩) hS (fun q _ h => hFc q h) hFc (fun u t9 H1 locs ht hvm hw hB hz1 hk1 hS => ?_)
  obtain ⟨b, kB⟩ := u
  have hb0 : b 0 = q1 := hw
  obtain ⟨hP1, hK1, hD1⟩ := hB
  rw [ht] at hP1
  dsimp only at hP1 hK1 hD1
  have hKrp := va_K.moved hvm.symm hK1
  obtain ⟨hP, hD⟩ := va_join (wr := cpWd a kA cpM0 cpL0) (w1 := rpWd b kB rpM0 rpL0) hP hD [16] [0, 1, 2, 3, 4, 5, 6, 7, 8, 9, 10, 11, 12, 13, 14, 15] rfl rfl (by decide) (by decide) hk1 hFc hP1 hD1
  generalize H1 = H at hP hS ⊢
  refine W.widen (k := 22) (n := 31903) (by decide) (by decide) ?_
  refine lv_astore_n (lv' := [(2, .ref q1), (1, .ref q0), (0, .ref sc)]) hx hb dL_law_15 rfl hl (by decide) rfl (fun ls hl => ?_)
  refine lv_iconst (v := (1 : Int32)) hx hb dL_law_16 (by decide) ?_
  refine va_newa (atype := .long) (n := (1 : Int32)) (N' := 1) (a0 := (1, .inr (.inl (fun _ => 0)))) (ty := .long) hx hb (hv (.arrayClass .long) ul_4) rfl hK hP hD hS hA (fun cA => vp_cell_l cA 1 (fun _ => 0)) (by decide) (by decide) (by decide) (by decide) (by decide) dL_law_17 (fun o kO H hKo hP hD hS => ?_)
  have hKo : va_K (dC, dI) vwCl [(kO, .long)] s := hKo
  refine W.widen (k := 23) (n := 31904) (by decide) (by decide) ?_
  refine lv_astore_n (lv' := [(3, .ref o), (2, .ref q1), (1, .ref q0), (0, .ref sc)]) hx hb dL_law_19 rfl hl (by decide) rfl (fun ls hl => ?_)
  refine lv_iconst (v := (0 : Int32)) hx hb dL_law_20 (by decide) ?_
  refine lv_istore (lv' := [(4, .int (0 : Int32)), (3, .ref o), (2, .ref q1), (1, .ref q0), (0, .ref sc)]) hx hb dL_law_21 hl (by decide) rfl (fun ls hl => ?_)
  have gc : ∀ i, i < 16 → ((cpWd a kA cpM0 cpL0 ++ rpWd b kB rpM0 rpL0) ++ [(o, .inl (kO, 1, .inr (.inl (fun _ => 0))))])[i]?.map (·.1) = some (a i) := by
    intro i hi
    obtain ⟨x, hx⟩ := cpAddr a kA cpM0 cpL0 hi
    have h1 : i < (cpWd a kA cpM0 cpL0).length := hi
    rw [List.getElem?_append_left (by rw [List.length_append]; omega), List.getElem?_append_left h1, hx]; rfl
  have gr : ∀ j, j < 6 → ((cpWd a kA cpM0 cpL0 ++ rpWd b kB rpM0 rpL0) ++ [(o, .inl (kO, 1, .inr (.inl (fun _ => 0))))])[16 + j]?.map (·.1) = some (b j) := by
    intro j hj
    obtain ⟨x, hx⟩ := rpAddr b kB rpM0 rpL0 hj
    have h1 : (cpWd a kA cpM0 cpL0).length = 16 := rfl
    have h2 : (rpWd b kB rpM0 rpL0).length = 6 := rfl
    rw [List.getElem?_append_left (by rw [List.length_append]; omega), List.getElem?_append_right (by omega), h1, Nat.add_sub_cancel_left, hx]; rfl
  have go : ((cpWd a kA cpM0 cpL0 ++ rpWd b kB rpM0 rpL0) ++ [(o, .inl (kO, 1, .inr (.inl (fun _ => 0))))])[22]?.map (·.1) = some o := rfl
  have ne : ∀ (i j x y : Nat), i ≠ j → ((cpWd a kA cpM0 cpL0 ++ rpWd b kB rpM0 rpL0) ++ [(o, .inl (kO, 1, .inr (.inl (fun _ => 0))))])[i]?.map (·.1) = some x → ((cpWd a kA cpM0 cpL0 ++ rpWd b kB rpM0 rpL0) ++ [(o, .inl (kO, 1, .inr (.inl (fun _ => 0))))])[j]?.map (·.1) = some y → x ≠ y := by
    intro i j x y hij hi hj e
    obtain ⟨p1, e1, e2⟩ := Option.map_eq_some_iff.mp hi
    obtain ⟨p2, e3, e4⟩ := Option.map_eq_some_iff.mp hj
    exact hij (hD.1 i j p1 p2 e1 e3 (by rw [e2, e4]; exact e))
  have hPl := va_P_left hP
  have hDc : va_D (gA s) (cpWd a kA cpM0 cpL0) := ⟨fun i j p q hi hj e => hD.1 i j p q (by rw [List.getElem?_append_left (by rw [List.length_append]; exact Nat.lt_of_lt_of_le (List.getElem?_eq_some_iff.mp hi).1 (Nat.le_add_right _ _)), List.getElem?_append_left (List.getElem?_eq_some_iff.mp hi).1]; exact hi) (by rw [List.getElem?_append_left (by rw [List.length_append]; exact Nat.lt_of_lt_of_le (List.getElem?_eq_some_iff.mp hj).1 (Nat.le_add_right _ _)), List.getElem?_append_left (List.getElem?_eq_some_iff.mp hj).1]; exact hj) e, fun k q hk => hD.2 k q (by rw [List.getElem?_append_left (by rw [List.length_append]; exact Nat.lt_of_lt_of_le (List.getElem?_eq_some_iff.mp hk).1 (Nat.le_add_right _ _)), List.getElem?_append_left (List.getElem?_eq_some_iff.mp hk).1]; exact hk)⟩
  have ex : ∀ k q, (rpWd b kB rpM0 rpL0)[k]? = some q → ((cpWd a kA cpM0 cpL0 ++ rpWd b kB rpM0 rpL0) ++ [(o, .inl (kO, 1, .inr (.inl (fun _ => 0))))])[16 + k]? = some q := by
    intro k q hk
    have h0 : k < 6 := (List.getElem?_eq_some_iff.mp hk).1
    have h1 : (cpWd a kA cpM0 cpL0).length = 16 := rfl
    have h2 : (rpWd b kB rpM0 rpL0).length = 6 := rfl
    rw [List.getElem?_append_left (by rw [List.length_append]; omega), List.getElem?_append_right (by omega), h1, Nat.add_sub_cancel_left]; exact hk
  have hDr : va_D (gA s) (rpWd b kB rpM0 rpL0) := ⟨fun i j p q hi hj e => by have := hD.1 (16 + i) (16 + j) p q (ex i p hi) (ex j q hj) e; omega, fun k q hk => hD.2 (16 + k) q (ex k q hk)⟩
  have f3 : s.heap.size ≤ o := by
    obtain ⟨p1, e1, e2⟩ := Option.map_eq_some_iff.mp go
    have h9 := hD.2 22 p1 e1
    rw [e2] at h9
    exact h9
  have f4 : ∀ i, i < 16 → ∀ j, j < 6 → a i ≠ b j := fun i hi j hj => ne i (16 + j) (a i) (b j) (by omega) (gc i hi) (gr j hj)
  have f5 : ∀ i, i < 16 → a i ≠ o := fun i hi => ne i 22 (a i) o (by omega) (gc i hi) go
  have f6 : ∀ j, j < 6 → b j ≠ o := fun j hj => ne (16 + j) 22 (b j) o (by omega) (gr j hj) go
  clear ne go gr gc ex
  have F : lwF dC dI a kA b kB o kO t sa s := ⟨fun _ _ => cpD_any hDc, fun _ _ => rpD_any hDr, f3, f4, f5, f6, hKcp, hKrp, hKo, hE, hXx⟩
  have hI : lwI dC dI a kA b kB o kO s cpM0 cpL0 rpM0 rpL0 (fun _ => 0) H _ := ⟨va_P_left hPl, va_P_right hPl, va_P_right hP, hS⟩
  have hl : lv_has ls 7 [(0, .ref sc), (1, .ref (a 0)), (2, .ref (b 0)), (3, .ref o), (4, .int (0 : Int32))] := by
    rw [ha0, hb0]
    exact lv_sub hl [4, 3, 2, 1, 0] rfl
  rw [← nI_0] at hl
  refine W.widen (k := 23 + 0) (n := 31904 + 11 * 0) (by decide) (by decide) ?_
  exact law_loop hls hL C0 hv F Inv IS (LL + 1) 0 cpM0 cpL0 rpM0 rpL0 (fun _ => 0) _ _ ls (Nat.zero_le _) (by omega) I0 hI hl
