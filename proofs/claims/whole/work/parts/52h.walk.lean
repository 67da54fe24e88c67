abbrev rm_X6_fixTransport_0_14 : Room := { frames := 2, cells := 0, slots := 0, locals := 49 }
abbrev av_X6_fixTransport_0_14 (a t : Nat → Nat) (p2 : Int32) (p3 : Int64) (p5 : Int32) (p6 : Int64) : List Value := [.ref (a 0), .ref (a 14), .int p2, .long p3, .int p5, .long p6]
abbrev qc_X6_fixTransport_0_14 (dC : Nat → ClassId) (dI : Nat → Nat → Nat) (a : Nat → Nat) (kA : Nat → ClassId) (sz : Nat) (M : cM) (L : cL) (Z : cM → Prop) : Array Value → State → Outcome → State → Prop := va_Qv (fun (u : cM × cL) => u.2 = L ∧ Z u.1) (cpAt dC dI a kA (cpA a sz)) (cpA a sz)
set_option maxHeartbeats 4000000 in
set_option maxRecDepth 100000 in
theorem met_X6_fixTransport_0_14 (l : Launch) (dC : Nat → ClassId) (dI : Nat → Nat → Nat) (a : Nat → Nat) (kA : Nat → ClassId) (t : Nat → Nat) (sz : Nat) (M : cM) (L : cL) (p2 : Int32) (p3 : Int64) (p5 : Int32) (p6 : Int64) (Z : cM → Prop) (h : wp_X6_fixTransport_0_14 M L p2 p3 p5 p6 Z) : Met l yX6_fixTransport (Cond.code yX6_fixTransport cX6_fixTransport 12 none :: uW) rm_X6_fixTransport_0_14 (va_Pc (av_X6_fixTransport_0_14 a t p2 p3 p5 p6) (cpPre dC dI a kA t M L sz)) (qc_X6_fixTransport_0_14 dC dI a kA sz M L Z) 0 0 (cpA a sz) := by
  refine cpenter (cc := cX6_fixTransport) (n := 12) (ret := none) (by decide) rfl (Nat.le_of_ble_eq_true rfl) ?_
  intro p e s m below meth c ls hx hb hml hr hlocks hown hts hK hE hsz hI hl hmn
  have hu : ∀ w ∈ uW, w.before (av_X6_fixTransport_0_14 a t p2 p3 p5 p6).toArray s = true := fun w h => hts w (List.mem_cons_of_mem _ h)
  have hown : s.vm.findClass RX6 = some m.cls := hown
  have hl : lv_has ls 12 [(0, .ref (a 0)), (1, .ref (a 14)), (2, .int p2), (3, .long p3), (5, .int p5), (6, .long p6)] := hl
  unfold wp_X6_fixTransport_0_14 at h
  refine lv_aload_n hx hb dX6_fixTransport_0 rfl (lv_at hl 1 rfl) ?_
  refine va_get (D := (dC, dI)) (ci := 4) (v := .int (M 14 3)) (C := RX5) (T := TX5) (N := 16) hx hb hu uX5 hown hK hI.1 14 rfl rfl 3 (by decide) (hu _ uww_321) (fun _ h9 => h9) rfl dX6_fixTransport_1 ?_
  refine lv_bipush (v := (17 : Int32)) hx hb dX6_fixTransport_4 (by decide) ?_
  obtain ⟨K16, hK16, h⟩ := h
  have J16 : ∀ (v1 : Int32) (H : Heap) (locs : List Loc) (ls : Array Slot), K16 v1 → cpI dC dI a kA (cpA a sz) s M L H locs → lv_has ls 12 [(0, .ref (a 0)), (1, .ref (a 14)), (2, .int p2), (3, .long p3), (5, .int p5), (6, .long p6)] → W p l e rm_X6_fixTransport_0_14 s m (av_X6_fixTransport_0_14 a t p2 p3 p5 p6).toArray below meth c H locs 0 0 (MQ below (qc_X6_fixTransport_0_14 dC dI a kA sz M L Z) (av_X6_fixTransport_0_14 a t p2 p3 p5 p6).toArray s 0 0 (cpA a sz)) (F0 m 16 ls [.int v1]) := by
    intro v1 H locs ls h hI hl
    have h := hK16 v1 h
    refine lv_istore (lv' := [(8, .int v1), (0, .ref (a 0)), (1, .ref (a 14)), (2, .int p2), (3, .long p3), (5, .int p5), (6, .long p6)]) hx hb dX6_fixTransport_16 hl (by decide) rfl (fun ls hl => ?_)
    refine lv_aload_n hx hb dX6_fixTransport_18 rfl (lv_at hl 2 rfl) ?_
    refine va_get (D := (dC, dI)) (ci := 4) (v := .int (M 14 3)) (C := RX5) (T := TX5) (N := 16) hx hb hu uX5 hown hK hI.1 14 rfl rfl 3 (by decide) (hu _ uww_321) (fun _ h9 => h9) rfl dX6_fixTransport_19 ?_
    refine lv_bipush (v := (17 : Int32)) hx hb dX6_fixTransport_22 (by decide) ?_
    obtain ⟨K41, hK41, h⟩ := h
    have J41 : ∀ (v2 : Int32) (H : Heap) (locs : List Loc) (ls : Array Slot), K41 v2 → cpI dC dI a kA (cpA a sz) s M L H locs → lv_has ls 12 [(0, .ref (a 0)), (1, .ref (a 14)), (2, .int p2), (3, .long p3), (5, .int p5), (6, .long p6), (8, .int v1)] → W p l e rm_X6_fixTransport_0_14 s m (av_X6_fixTransport_0_14 a t p2 p3 p5 p6).toArray below meth c H locs 0 0 (MQ below (qc_X6_fixTransport_0_14 dC dI a kA sz M L Z) (av_X6_fixTransport_0_14 a t p2 p3 p5 p6).toArray s 0 0 (cpA a sz)) (F0 m 41 ls [.int v2]) := by
      intro v2 H locs ls h hI hl
      have h := hK41 v2 h
      refine lv_istore (lv' := [(9, .int v2), (0, .ref (a 0)), (1, .ref (a 14)), (2, .int p2), (3, .long p3), (5, .int p5), (6, .long p6), (8, .int v1)]) hx hb dX6_fixTransport_41 hl (by decide) rfl (fun ls hl => ?_)
      refine lv_iload hx hb dX6_fixTransport_43 (lv_at hl 0 rfl) ?_
      refine lv_if_eq (tgt := 66) hx hb dX6_fixTransport_45 (by decide) (fun c3 => ?_) (fun c3 => ?_)
      · have h := h.1 c3
        exact cpvret (Z := (fun M' L' => L' = L ∧ Z M')) hx hb hr hlocks hK hI dX6_fixTransport_66 ⟨rfl, h⟩
      · have h := h.2 c3
        refine lv_aload_n hx hb dX6_fixTransport_48 rfl (lv_at hl 2 rfl) ?_
        refine va_get (D := (dC, dI)) (ci := 4) (v := .int (M 14 6)) (C := RX5) (T := TX5) (N := 16) hx hb hu uX5 hown hK hI.1 14 rfl rfl 6 (by decide) (hu _ uww_322) (fun _ h9 => h9) rfl dX6_fixTransport_49 ?_
        refine lv_if_ne (tgt := 66) hx hb dX6_fixTransport_52 (by decide) (fun c4 => ?_) (fun c4 => ?_)
        · have h := h.1 c4
          exact cpvret (Z := (fun M' L' => L' = L ∧ Z M')) hx hb hr hlocks hK hI dX6_fixTransport_66 ⟨rfl, h⟩
        · have h := h.2 c4
          refine lv_aload_n hx hb dX6_fixTransport_55 rfl (lv_at hl 2 rfl) ?_
          refine va_get (D := (dC, dI)) (ci := 4) (v := .int (M 14 9)) (C := RX5) (T := TX5) (N := 16) hx hb hu uX5 hown hK hI.1 14 rfl rfl 9 (by decide) (hu _ uww_400) (fun _ h9 => h9) rfl dX6_fixTransport_56 ?_
          refine lv_iload hx hb dX6_fixTransport_59 (lv_at hl 7 rfl) ?_
          refine lv_iconst (v := (2 : Int32)) hx hb dX6_fixTransport_61 (by decide) ?_
          refine lv_iadd hx hb dX6_fixTransport_62 ?_
          refine lv_icmp_ge (tgt := 67) hx hb dX6_fixTransport_63 (by decide) (fun c5 => ?_) (fun c5 => ?_)
          · have h := h.1 c5
            refine lv_aload_n hx hb dX6_fixTransport_67 rfl (lv_at hl 1 rfl) ?_
            refine va_get (D := (dC, dI)) (ci := 5) (v := .ref (a 3)) (C := RX6) (T := TX6) (N := 17) hx hb hu uX6 hown hK hI.1 0 rfl rfl 1 (by decide) (hu _ uww_214) (fun _ h9 => h9) rfl dX6_fixTransport_68 ?_
            refine lv_iload_n hx hb dX6_fixTransport_71 rfl (lv_at hl 3 rfl) ?_
            refine lv_iload hx hb dX6_fixTransport_72 (lv_at hl 7 rfl) ?_
            refine lv_iadd hx hb dX6_fixTransport_74 ?_
            refine cpcalli_p hsz hI (va_runV (As := [.int (p2 + v1)]) (rest := []) ⟨hx, hb, hml, hown, hu⟩ (met_X4_word_3 l dC dI a kA t _ M L (p2 + v1) _ h) (cwl_X6_272_X4 hu ⟨by decide, by decide⟩) (cppre (ci := 3) hK hE hsz hI rfl rfl) rfl rfl hl.1 rfl (lv_room (Nat.le_of_ble_eq_true rfl)) dX6_fixTransport_75 ⟨by decide, by decide⟩) (fun r6 H locs h hI => ?_)
            refine lv_istore (lv' := [(10, .int r6), (9, .int v2), (0, .ref (a 0)), (1, .ref (a 14)), (2, .int p2), (3, .long p3), (5, .int p5), (6, .long p6), (8, .int v1)]) hx hb dX6_fixTransport_78 hl (by decide) rfl (fun ls hl => ?_)
            refine lv_aload_n hx hb dX6_fixTransport_80 rfl (lv_at hl 3 rfl) ?_
            refine va_get (D := (dC, dI)) (ci := 4) (v := .int (M 14 3)) (C := RX5) (T := TX5) (N := 16) hx hb hu uX5 hown hK hI.1 14 rfl rfl 3 (by decide) (hu _ uww_321) (fun _ h9 => h9) rfl dX6_fixTransport_81 ?_
            refine lv_bipush (v := (6 : Int32)) hx hb dX6_fixTransport_84 (by decide) ?_
            refine lv_icmp_ne (tgt := 115) hx hb dX6_fixTransport_86 (by decide) (fun c7 => ?_) (fun c7 => ?_)
            · have h := h.1 c7
              refine lv_iload hx hb dX6_fixTransport_115 (lv_at hl 0 rfl) ?_
              refine lv_if_eq (tgt := 158) hx hb dX6_fixTransport_117 (by decide) (fun c8 => ?_) (fun c8 => ?_)
              · have h := h.1 c8
                exact cpvret (Z := (fun M' L' => L' = L ∧ Z M')) hx hb hr hlocks hK hI dX6_fixTransport_158 ⟨rfl, h⟩
              · have h := h.2 c8
                refine lv_iload hx hb dX6_fixTransport_120 (lv_at hl 0 rfl) ?_
                refine lv_lload_n hx hb dX6_fixTransport_122 rfl (lv_at hl 5 rfl) ?_
                refine lv_iload hx hb dX6_fixTransport_123 (lv_at hl 6 rfl) ?_
                refine lv_lload hx hb dX6_fixTransport_125 (lv_at hl 7 rfl) ?_
                refine cpcalli_p hsz hI (va_runS (As := [.int r6, .long p3, .int p5, .long p6]) (rest := []) ⟨hx, hb, hml, hown, hu⟩ (met_X6_adjusted l dC dI a kA t _ M L r6 p3 p5 p6 _ h) (cwl_X6_291_S hu ⟨by decide, by decide⟩) (cppreS hK hE hsz hI) rfl rfl hl.1 rfl (lv_room (Nat.le_of_ble_eq_true rfl)) dX6_fixTransport_127 ⟨by decide, by decide⟩) (fun r9 H locs h hI => ?_)
                refine lv_istore (lv' := [(11, .int r9), (10, .int r6), (9, .int v2), (0, .ref (a 0)), (1, .ref (a 14)), (2, .int p2), (3, .long p3), (5, .int p5), (6, .long p6), (8, .int v1)]) hx hb dX6_fixTransport_130 hl (by decide) rfl (fun ls hl => ?_)
                refine lv_aload_n hx hb dX6_fixTransport_132 rfl (lv_at hl 3 rfl) ?_
                refine va_get (D := (dC, dI)) (ci := 5) (v := .ref (a 3)) (C := RX6) (T := TX6) (N := 17) hx hb hu uX6 hown hK hI.1 0 rfl rfl 1 (by decide) (hu _ uww_214) (fun _ h9 => h9) rfl dX6_fixTransport_133 ?_
                refine lv_iload_n hx hb dX6_fixTransport_136 rfl (lv_at hl 5 rfl) ?_
                refine lv_iload hx hb dX6_fixTransport_137 (lv_at hl 9 rfl) ?_
                refine lv_iadd hx hb dX6_fixTransport_139 ?_
                refine lv_iconst (v := (2 : Int32)) hx hb dX6_fixTransport_140 (by decide) ?_
                refine lv_iload hx hb dX6_fixTransport_141 (lv_at hl 0 rfl) ?_
                obtain ⟨K155, hK155, h⟩ := h
                have J155 : ∀ (v10 : Int64) (H : Heap) (locs : List Loc) (ls : Array Slot), K155 v10 → cpI dC dI a kA (cpA a sz) s M L H locs → lv_has ls 12 [] → W p l e rm_X6_fixTransport_0_14 s m (av_X6_fixTransport_0_14 a t p2 p3 p5 p6).toArray below meth c H locs 0 0 (MQ below (qc_X6_fixTransport_0_14 dC dI a kA sz M L Z) (av_X6_fixTransport_0_14 a t p2 p3 p5 p6).toArray s 0 0 (cpA a sz)) (F0 m 155 ls [.long v10, .int (2 : Int32), .int (p2 + v1), .ref (a 3)]) := by
                  intro v10 H locs ls h hI hl
                  have h := hK155 v10 h
                  refine cpcallv_m hsz hI (va_runV (As := [.int (p2 + v1), .int (2 : Int32), .long v10]) (rest := []) ⟨hx, hb, hml, hown, hu⟩ (met_X4_put_3 l dC dI a kA t _ M L (p2 + v1) (2 : Int32) v10 _ h) (cwl_X6_99_X4 hu ⟨by decide, by decide⟩) (cppre (ci := 3) hK hE hsz hI rfl rfl) rfl rfl hl.1 rfl (lv_room (Nat.le_of_ble_eq_true rfl)) dX6_fixTransport_155 ⟨by decide, by decide⟩) (fun M11 H locs h hI => ?_)
                  exact cpvret (Z := (fun M' L' => L' = L ∧ Z M')) hx hb hr hlocks hK hI dX6_fixTransport_158 ⟨rfl, h⟩
                refine lv_if_ne (tgt := 152) hx hb dX6_fixTransport_143 (by decide) (fun c12 => ?_) (fun c12 => ?_)
                · have h := h.1 c12
                  refine lv_iload hx hb dX6_fixTransport_152 (lv_at hl 0 rfl) ?_
                  refine lv_i2l hx hb dX6_fixTransport_154 rfl ?_
                  exact J155 (r9.toInt64) _ _ _ h hI (lv_sub hl [] rfl)
                · have h := h.2 c12
                  refine lv_ldc2 (own := RX6) (v := (65535 : Int64)) hx hb hown (hu _ uww_69) dX6_fixTransport_146 ?_
                  refine lv_goto (tgt := 155) hx hb dX6_fixTransport_149 (by decide) ?_
                  exact J155 (65535 : Int64) _ _ _ h hI (lv_sub hl [] rfl)
            · have h := h.2 c7
              refine lv_aload_n hx hb dX6_fixTransport_89 rfl (lv_at hl 2 rfl) ?_
              refine va_get (D := (dC, dI)) (ci := 5) (v := .ref (a 3)) (C := RX6) (T := TX6) (N := 17) hx hb hu uX6 hown hK hI.1 0 rfl rfl 1 (by decide) (hu _ uww_214) (fun _ h9 => h9) rfl dX6_fixTransport_90 ?_
              refine lv_iload_n hx hb dX6_fixTransport_93 rfl (lv_at hl 4 rfl) ?_
              refine lv_iload hx hb dX6_fixTransport_94 (lv_at hl 8 rfl) ?_
              refine lv_iadd hx hb dX6_fixTransport_96 ?_
              refine lv_iconst (v := (2 : Int32)) hx hb dX6_fixTransport_97 (by decide) ?_
              refine lv_iload hx hb dX6_fixTransport_98 (lv_at hl 0 rfl) ?_
              refine lv_lload_n hx hb dX6_fixTransport_100 rfl (lv_at hl 5 rfl) ?_
              refine lv_iload hx hb dX6_fixTransport_101 (lv_at hl 6 rfl) ?_
              refine lv_lload hx hb dX6_fixTransport_103 (lv_at hl 7 rfl) ?_
              refine cpcalli_p hsz hI (va_runS (As := [.int r6, .long p3, .int p5, .long p6]) (rest := [.int (2 : Int32), .int (p2 + v1), .ref (a 3)]) ⟨hx, hb, hml, hown, hu⟩ (met_X6_adjusted l dC dI a kA t _ M L r6 p3 p5 p6 _ h) (cwl_X6_291_S hu ⟨by decide, by decide⟩) (cppreS hK hE hsz hI) rfl rfl hl.1 rfl (lv_room (Nat.le_of_ble_eq_true rfl)) dX6_fixTransport_105 ⟨by decide, by decide⟩) (fun r13 H locs h hI => ?_)
              refine lv_i2l hx hb dX6_fixTransport_108 rfl ?_
              refine cpcallv_m hsz hI (va_runV (As := [.int (p2 + v1), .int (2 : Int32), .long (r13.toInt64)]) (rest := []) ⟨hx, hb, hml, hown, hu⟩ (met_X4_put_3 l dC dI a kA t _ M L (p2 + v1) (2 : Int32) (r13.toInt64) _ h) (cwl_X6_99_X4 hu ⟨by decide, by decide⟩) (cppre (ci := 3) hK hE hsz hI rfl rfl) rfl rfl hl.1 rfl (lv_room (Nat.le_of_ble_eq_true rfl)) dX6_fixTransport_109 ⟨by decide, by decide⟩) (fun M14 H locs h hI => ?_)
              refine lv_goto (tgt := 158) hx hb dX6_fixTransport_112 (by decide) ?_
              exact cpvret (Z := (fun M' L' => L' = L ∧ Z M')) hx hb hr hlocks hK hI dX6_fixTransport_158 ⟨rfl, h⟩
          · have h := h.2 c5
            exact cpvret (Z := (fun M' L' => L' = L ∧ Z M')) hx hb hr hlocks hK hI dX6_fixTransport_66 ⟨rfl, h⟩
    obtain ⟨K36, hK36, h⟩ := h
    have J36 : ∀  (H : Heap) (locs : List Loc) (ls : Array Slot), K36  → cpI dC dI a kA (cpA a sz) s M L H locs → lv_has ls 12 [(0, .ref (a 0)), (1, .ref (a 14)), (2, .int p2), (3, .long p3), (5, .int p5), (6, .long p6), (8, .int v1)] → W p l e rm_X6_fixTransport_0_14 s m (av_X6_fixTransport_0_14 a t p2 p3 p5 p6).toArray below meth c H locs 0 0 (MQ below (qc_X6_fixTransport_0_14 dC dI a kA sz M L Z) (av_X6_fixTransport_0_14 a t p2 p3 p5 p6).toArray s 0 0 (cpA a sz)) (F0 m 36 ls []) := by
      intro  H locs ls h hI hl
      have h := hK36  h
      refine lv_iconst (v := (1 : Int32)) hx hb dX6_fixTransport_36 (by decide) ?_
      refine lv_goto (tgt := 41) hx hb dX6_fixTransport_37 (by decide) ?_
      exact J41 (1 : Int32) _ _ _ h hI (lv_sub hl [0, 1, 2, 3, 4, 5, 6] rfl)
    refine lv_icmp_eq (tgt := 36) hx hb dX6_fixTransport_24 (by decide) (fun c15 => ?_) (fun c15 => ?_)
    · have h := h.1 c15
      exact J36  _ _ _ h hI (lv_sub hl [1, 2, 3, 4, 5, 6, 0] rfl)
    · have h := h.2 c15
      refine lv_aload_n hx hb dX6_fixTransport_27 rfl (lv_at hl 2 rfl) ?_
      refine va_get (D := (dC, dI)) (ci := 4) (v := .int (M 14 3)) (C := RX5) (T := TX5) (N := 16) hx hb hu uX5 hown hK hI.1 14 rfl rfl 3 (by decide) (hu _ uww_321) (fun _ h9 => h9) rfl dX6_fixTransport_28 ?_
      refine lv_bipush (v := (6 : Int32)) hx hb dX6_fixTransport_31 (by decide) ?_
      refine lv_icmp_ne (tgt := 40) hx hb dX6_fixTransport_33 (by decide) (fun c16 => ?_) (fun c16 => ?_)
      · have h := h.1 c16
        refine lv_iconst (v := (0 : Int32)) hx hb dX6_fixTransport_40 (by decide) ?_
        exact J41 (0 : Int32) _ _ _ h hI (lv_sub hl [1, 2, 3, 4, 5, 6, 0] rfl)
      · have h := h.2 c16
        exact J36  _ _ _ h hI (lv_sub hl [1, 2, 3, 4, 5, 6, 0] rfl)
  refine lv_icmp_ne (tgt := 14) hx hb dX6_fixTransport_6 (by decide) (fun c17 => ?_) (fun c17 => ?_)
  · have h := h.1 c17
    refine lv_bipush (v := (16 : Int32)) hx hb dX6_fixTransport_14 (by decide) ?_
    exact J16 (16 : Int32) _ _ _ h hI (lv_sub hl [0, 1, 2, 3, 4, 5] rfl)
  · have h := h.2 c17
    refine lv_bipush (v := (6 : Int32)) hx hb dX6_fixTransport_9 (by decide) ?_
    refine lv_goto (tgt := 16) hx hb dX6_fixTransport_11 (by decide) ?_
    exact J16 (6 : Int32) _ _ _ h hI (lv_sub hl [0, 1, 2, 3, 4, 5] rfl)

abbrev rm_X6_fixToFour_0_14 : Room := { frames := 3, cells := 0, slots := 0, locals := 80 }
abbrev av_X6_fixToFour_0_14 (a t : Nat → Nat) (p2 : Int32) : List Value := [.ref (a 0), .ref (a 14), .int p2]
abbrev qc_X6_fixToFour_0_14 (dC : Nat → ClassId) (dI : Nat → Nat → Nat) (a : Nat → Nat) (kA : Nat → ClassId) (sz : Nat) (M : cM) (L : cL) (Z : cM → Prop) : Array Value → State → Outcome → State → Prop := va_Qv (fun (u : cM × cL) => u.2 = L ∧ Z u.1) (cpAt dC dI a kA (cpA a sz)) (cpA a sz)
set_option maxHeartbeats 4000000 in
set_option maxRecDepth 100000 in
theorem met_X6_fixToFour_0_14 (l : Launch) (dC : Nat → ClassId) (dI : Nat → Nat → Nat) (a : Nat → Nat) (kA : Nat → ClassId) (t : Nat → Nat) (sz : Nat) (M : cM) (L : cL) (p2 : Int32) (Z : cM → Prop) (h : wp_X6_fixToFour_0_14 M L p2 Z) : Met l yX6_fixToFour (Cond.code yX6_fixToFour cX6_fixToFour 8 none :: uW) rm_X6_fixToFour_0_14 (va_Pc (av_X6_fixToFour_0_14 a t p2) (cpPre dC dI a kA t M L sz)) (qc_X6_fixToFour_0_14 dC dI a kA sz M L Z) 0 0 (cpA a sz) := by
  refine cpenter (cc := cX6_fixToFour) (n := 8) (ret := none) (by decide) rfl (Nat.le_of_ble_eq_true rfl) ?_
  intro p e s m below meth c ls hx hb hml hr hlocks hown hts hK hE hsz hI hl hmn
  have hu : ∀ w ∈ uW, w.before (av_X6_fixToFour_0_14 a t p2).toArray s = true := fun w h => hts w (List.mem_cons_of_mem _ h)
  have hown : s.vm.findClass RX6 = some m.cls := hown
  have hl : lv_has ls 8 [(0, .ref (a 0)), (1, .ref (a 14)), (2, .int p2)] := hl
  unfold wp_X6_fixToFour_0_14 at h
  refine lv_aload_n hx hb dX6_fixToFour_0 rfl (lv_at hl 1 rfl) ?_
  refine va_get (D := (dC, dI)) (ci := 4) (v := .int (M 14 3)) (C := RX5) (T := TX5) (N := 16) hx hb hu uX5 hown hK hI.1 14 rfl rfl 3 (by decide) (hu _ uww_425) (u_same (hu _ uww_183)) rfl dX6_fixToFour_1 ?_
  refine lv_bipush (v := (58 : Int32)) hx hb dX6_fixToFour_4 (by decide) ?_
  refine lv_icmp_ne (tgt := 115) hx hb dX6_fixToFour_6 (by decide) (fun c1 => ?_) (fun c1 => ?_)
  · have h := h.1 c1
    refine lv_aload_n hx hb dX6_fixToFour_115 rfl (lv_at hl 0 rfl) ?_
    refine lv_aload_n hx hb dX6_fixToFour_116 rfl (lv_at hl 1 rfl) ?_
    refine lv_iload_n hx hb dX6_fixToFour_117 rfl (lv_at hl 2 rfl) ?_
    refine lv_aload_n hx hb dX6_fixToFour_118 rfl (lv_at hl 1 rfl) ?_
    refine va_get (D := (dC, dI)) (ci := 4) (v := .long (L 14 13)) (C := RX5) (T := TX5) (N := 16) hx hb hu uX5 hown hK hI.1 14 rfl rfl 13 (by decide) (hu _ uww_464) (u_same (hu _ uww_166)) rfl dX6_fixToFour_119 ?_
    refine lv_bipush (v := (16 : Int32)) hx hb dX6_fixToFour_122 (by decide) ?_
    refine lv_aload_n hx hb dX6_fixToFour_124 rfl (lv_at hl 1 rfl) ?_
    refine va_get (D := (dC, dI)) (ci := 4) (v := .long (L 14 12)) (C := RX5) (T := TX5) (N := 16) hx hb hu uX5 hown hK hI.1 14 rfl rfl 12 (by decide) (hu _ uww_508) (u_same (hu _ uww_206)) rfl dX6_fixToFour_125 ?_
    refine cpcallv_m hsz hI (va_runV (As := [.ref (a 14), .int p2, .long (L 14 13), .int (16 : Int32), .long (L 14 12)]) (rest := []) ⟨hx, hb, hml, hown, hu⟩ (met_X6_fixTransport_0_14 l dC dI a kA t _ M L p2 (L 14 13) (16 : Int32) (L 14 12) _ h) (cwl_X6_298_X6 hu ⟨by decide, by decide⟩) (cppre (ci := 5) hK hE hsz hI rfl rfl) rfl rfl hl.1 rfl (lv_room (Nat.le_of_ble_eq_true rfl)) dX6_fixToFour_128 ⟨by decide, by decide⟩) (fun M2 H locs h hI => ?_)
    exact cpvret (Z := (fun M' L' => L' = L ∧ Z M')) hx hb hr hlocks hK hI dX6_fixToFour_131 ⟨rfl, h⟩
  · have h := h.2 c1
    refine lv_aload_n hx hb dX6_fixToFour_9 rfl (lv_at hl 0 rfl) ?_
    refine va_get (D := (dC, dI)) (ci := 5) (v := .ref (a 3)) (C := RX6) (T := TX6) (N := 17) hx hb hu uX6 hown hK hI.1 0 rfl rfl 1 (by decide) (hu _ uww_214) (fun _ h9 => h9) rfl dX6_fixToFour_10 ?_
    refine lv_iload_n hx hb dX6_fixToFour_13 rfl (lv_at hl 2 rfl) ?_
    refine cpcalli_p hsz hI (va_runV (As := [.int p2]) (rest := []) ⟨hx, hb, hml, hown, hu⟩ (met_X4_word_3 l dC dI a kA t _ M L p2 _ h) (cwl_X6_272_X4 hu ⟨by decide, by decide⟩) (cppre (ci := 3) hK hE hsz hI rfl rfl) rfl rfl hl.1 rfl (lv_room (Nat.le_of_ble_eq_true rfl)) dX6_fixToFour_14 ⟨by decide, by decide⟩) (fun r3 H locs h hI => ?_)
    refine lv_istore_n (lv' := [(3, .int r3), (0, .ref (a 0)), (1, .ref (a 14)), (2, .int p2)]) hx hb dX6_fixToFour_17 rfl hl (by decide) rfl (fun ls hl => ?_)
    refine lv_iload_n hx hb dX6_fixToFour_18 rfl (lv_at hl 0 rfl) ?_
    refine lv_bipush (v := (8 : Int32)) hx hb dX6_fixToFour_19 (by decide) ?_
    refine lv_ishr hx hb dX6_fixToFour_21 ?_
    refine lv_sipush (v := (128 : Int32)) hx hb dX6_fixToFour_22 (by decide) ?_
    obtain ⟨K34, hK34, h⟩ := h
    have J34 : ∀ (v4 : Int32) (H : Heap) (locs : List Loc) (ls : Array Slot), K34 v4 → cpI dC dI a kA (cpA a sz) s M L H locs → lv_has ls 8 [(0, .ref (a 0)), (1, .ref (a 14)), (2, .int p2), (3, .int r3)] → W p l e rm_X6_fixToFour_0_14 s m (av_X6_fixToFour_0_14 a t p2).toArray below meth c H locs 0 0 (MQ below (qc_X6_fixToFour_0_14 dC dI a kA sz M L Z) (av_X6_fixToFour_0_14 a t p2).toArray s 0 0 (cpA a sz)) (F0 m 34 ls [.int v4]) := by
      intro v4 H locs ls h hI hl
      have h := hK34 v4 h
      refine lv_istore (lv' := [(4, .int v4), (0, .ref (a 0)), (1, .ref (a 14)), (2, .int p2), (3, .int r3)]) hx hb dX6_fixToFour_34 hl (by decide) rfl (fun ls hl => ?_)
      refine lv_iload hx hb dX6_fixToFour_36 (lv_at hl 0 rfl) ?_
      refine lv_bipush (v := (8 : Int32)) hx hb dX6_fixToFour_38 (by decide) ?_
      refine lv_ishl hx hb dX6_fixToFour_40 ?_
      refine lv_iload_n hx hb dX6_fixToFour_41 rfl (lv_at hl 4 rfl) ?_
      refine lv_sipush (v := (255 : Int32)) hx hb dX6_fixToFour_42 (by decide) ?_
      refine lv_iand hx hb dX6_fixToFour_45 ?_
      refine lv_ior hx hb dX6_fixToFour_46 ?_
      refine lv_topi (fun x5 ex5 => ?_)
      have h := h x5 ex5
      refine lv_istore (lv' := [(5, .int x5), (4, .int v4), (0, .ref (a 0)), (1, .ref (a 14)), (2, .int p2), (3, .int r3)]) hx hb dX6_fixToFour_47 hl (by decide) rfl (fun ls hl => ?_)
      refine lv_aload_n hx hb dX6_fixToFour_49 rfl (lv_at hl 2 rfl) ?_
      refine va_get (D := (dC, dI)) (ci := 5) (v := .ref (a 3)) (C := RX6) (T := TX6) (N := 17) hx hb hu uX6 hown hK hI.1 0 rfl rfl 1 (by decide) (hu _ uww_214) (fun _ h9 => h9) rfl dX6_fixToFour_50 ?_
      refine lv_iload_n hx hb dX6_fixToFour_53 rfl (lv_at hl 4 rfl) ?_
      refine lv_iconst (v := (2 : Int32)) hx hb dX6_fixToFour_54 (by decide) ?_
      refine lv_iload hx hb dX6_fixToFour_55 (lv_at hl 0 rfl) ?_
      refine lv_i2l hx hb dX6_fixToFour_57 rfl ?_
      refine cpcallv_m hsz hI (va_runV (As := [.int p2, .int (2 : Int32), .long (x5.toInt64)]) (rest := []) ⟨hx, hb, hml, hown, hu⟩ (met_X4_put_3 l dC dI a kA t _ M L p2 (2 : Int32) (x5.toInt64) _ h) (cwl_X6_99_X4 hu ⟨by decide, by decide⟩) (cppre (ci := 3) hK hE hsz hI rfl rfl) rfl rfl hl.1 rfl (lv_room (Nat.le_of_ble_eq_true rfl)) dX6_fixToFour_58 ⟨by decide, by decide⟩) (fun M6 H locs h hI => ?_)
      refine lv_iload_n hx hb dX6_fixToFour_61 rfl (lv_at hl 5 rfl) ?_
      refine lv_i2l hx hb dX6_fixToFour_62 rfl ?_
      refine lv_aload_n hx hb dX6_fixToFour_63 rfl (lv_at hl 3 rfl) ?_
      refine va_get (D := (dC, dI)) (ci := 4) (v := .long (L 14 13)) (C := RX5) (T := TX5) (N := 16) hx hb hu uX5 hown hK hI.1 14 rfl rfl 13 (by decide) (hu _ uww_464) (u_same (hu _ uww_166)) rfl dX6_fixToFour_64 ?_
      refine lv_ladd hx hb dX6_fixToFour_67 ?_
      refine lv_aload_n hx hb dX6_fixToFour_68 rfl (lv_at hl 3 rfl) ?_
      refine va_get (D := (dC, dI)) (ci := 4) (v := .int (M6 14 8)) (C := RX5) (T := TX5) (N := 16) hx hb hu uX5 hown hK hI.1 14 rfl rfl 8 (by decide) (hu _ uww_441) (u_same (hu _ uww_152)) rfl dX6_fixToFour_69 ?_
      refine lv_i2l hx hb dX6_fixToFour_72 rfl ?_
      refine lv_ladd hx hb dX6_fixToFour_73 ?_
      refine lv_ldc2 (own := RX6) (v := (58 : Int64)) hx hb hown (hu _ uww_342) dX6_fixToFour_74 ?_
      refine lv_ladd hx hb dX6_fixToFour_77 ?_
      refine lv_topl (fun x7 ex7 => ?_)
      have h := h x7 ex7
      refine lv_lstore (lv' := [(6, .long x7), (5, .int x5), (4, .int v4), (0, .ref (a 0)), (1, .ref (a 14)), (2, .int p2), (3, .int r3)]) hx hb dX6_fixToFour_78 hl (by decide) rfl (fun ls hl => ?_)
      refine lv_aload_n hx hb dX6_fixToFour_80 rfl (lv_at hl 3 rfl) ?_
      refine va_get (D := (dC, dI)) (ci := 5) (v := .ref (a 3)) (C := RX6) (T := TX6) (N := 17) hx hb hu uX6 hown hK hI.1 0 rfl rfl 1 (by decide) (hu _ uww_214) (fun _ h9 => h9) rfl dX6_fixToFour_81 ?_
      refine lv_iload_n hx hb dX6_fixToFour_84 rfl (lv_at hl 5 rfl) ?_
      refine lv_iconst (v := (2 : Int32)) hx hb dX6_fixToFour_85 (by decide) ?_
      refine lv_iadd hx hb dX6_fixToFour_86 ?_
      refine lv_iconst (v := (2 : Int32)) hx hb dX6_fixToFour_87 (by decide) ?_
      refine lv_aload_n hx hb dX6_fixToFour_88 rfl (lv_at hl 3 rfl) ?_
      refine va_get (D := (dC, dI)) (ci := 5) (v := .ref (a 3)) (C := RX6) (T := TX6) (N := 17) hx hb hu uX6 hown hK hI.1 0 rfl rfl 1 (by decide) (hu _ uww_214) (fun _ h9 => h9) rfl dX6_fixToFour_89 ?_
      refine lv_iload_n hx hb dX6_fixToFour_92 rfl (lv_at hl 5 rfl) ?_
      refine lv_iconst (v := (2 : Int32)) hx hb dX6_fixToFour_93 (by decide) ?_
      refine lv_iadd hx hb dX6_fixToFour_94 ?_
      refine cpcalli_p hsz hI (va_runV (As := [.int (p2 + (2 : Int32))]) (rest := [.int (2 : Int32), .int (p2 + (2 : Int32)), .ref (a 3)]) ⟨hx, hb, hml, hown, hu⟩ (met_X4_word_3 l dC dI a kA t _ M6 L (p2 + (2 : Int32)) _ h) (cwl_X6_272_X4 hu ⟨by decide, by decide⟩) (cppre (ci := 3) hK hE hsz hI rfl rfl) rfl rfl hl.1 rfl (lv_room (Nat.le_of_ble_eq_true rfl)) dX6_fixToFour_95 ⟨by decide, by decide⟩) (fun r8 H locs h hI => ?_)
      refine lv_lload hx hb dX6_fixToFour_98 (lv_at hl 0 rfl) ?_
      refine lv_bipush (v := (21 : Int32)) hx hb dX6_fixToFour_100 (by decide) ?_
      refine lv_iload hx hb dX6_fixToFour_102 (lv_at hl 1 rfl) ?_
      refine lv_i2l hx hb dX6_fixToFour_104 rfl ?_
      refine cpcalli_p hsz hI (va_runS (As := [.int r8, .long x7, .int (21 : Int32), .long (x5.toInt64)]) (rest := [.int (2 : Int32), .int (p2 + (2 : Int32)), .ref (a 3)]) ⟨hx, hb, hml, hown, hu⟩ (met_X6_adjusted l dC dI a kA t _ M6 L r8 x7 (21 : Int32) (x5.toInt64) _ h) (cwl_X6_291_S hu ⟨by decide, by decide⟩) (cppreS hK hE hsz hI) rfl rfl hl.1 rfl (lv_room (Nat.le_of_ble_eq_true rfl)) dX6_fixToFour_105 ⟨by decide, by decide⟩) (fun r9 H locs h hI => ?_)
      refine lv_i2l hx hb dX6_fixToFour_108 rfl ?_
      refine cpcallv_m hsz hI (va_runV (As := [.int (p2 + (2 : Int32)), .int (2 : Int32), .long (r9.toInt64)]) (rest := []) ⟨hx, hb, hml, hown, hu⟩ (met_X4_put_3 l dC dI a kA t _ M6 L (p2 + (2 : Int32)) (2 : Int32) (r9.toInt64) _ h) (cwl_X6_99_X4 hu ⟨by decide, by decide⟩) (cppre (ci := 3) hK hE hsz hI rfl rfl) rfl rfl hl.1 rfl (lv_room (Nat.le_of_ble_eq_true rfl)) dX6_fixToFour_109 ⟨by decide, by decide⟩) (fun M10 H locs h hI => ?_)
      refine lv_goto (tgt := 131) hx hb dX6_fixToFour_112 (by decide) ?_
      exact cpvret (Z := (fun M' L' => L' = L ∧ Z M')) hx hb hr hlocks hK hI dX6_fixToFour_131 ⟨rfl, h⟩
    refine lv_icmp_ne (tgt := 33) hx hb dX6_fixToFour_25 (by decide) (fun c11 => ?_) (fun c11 => ?_)
    · have h := h.1 c11
      refine lv_iconst (v := (0 : Int32)) hx hb dX6_fixToFour_33 (by decide) ?_
      exact J34 (0 : Int32) _ _ _ h hI (lv_sub hl [1, 2, 3, 0] rfl)
    · have h := h.2 c11
      refine lv_bipush (v := (8 : Int32)) hx hb dX6_fixToFour_28 (by decide) ?_
      refine lv_goto (tgt := 34) hx hb dX6_fixToFour_30 (by decide) ?_
      exact J34 (8 : Int32) _ _ _ h hI (lv_sub hl [1, 2, 3, 0] rfl)

abbrev rm_X6_errorFromSix_0_13_14 : Room := { frames := 4, cells := 0, slots := 0, locals := 108 }
abbrev av_X6_errorFromSix_0_13_14 (a t : Nat → Nat)  : List Value := [.ref (a 0), .ref (a 13), .ref (a 14)]
abbrev qc_X6_errorFromSix_0_13_14 (dC : Nat → ClassId) (dI : Nat → Nat → Nat) (a : Nat → Nat) (kA : Nat → ClassId) (sz : Nat) (M : cM) (L : cL) (Z : Int32 → cM → cL → Prop) : Array Value → State → Outcome → State → Prop := va_Qi (fun r (u : cM × cL) => Z r u.1 u.2) (cpAt dC dI a kA (cpA a sz)) (cpA a sz)
set_option maxHeartbeats 4000000 in
set_option maxRecDepth 100000 in
theorem met_X6_errorFromSix_0_13_14 (l : Launch) (dC : Nat → ClassId) (dI : Nat → Nat → Nat) (a : Nat → Nat) (kA : Nat → ClassId) (t : Nat → Nat) (sz : Nat) (M : cM) (L : cL)  (Z : Int32 → cM → cL → Prop) (h : wp_X6_errorFromSix_0_13_14 M L  Z) : Met l yX6_errorFromSix (Cond.code yX6_errorFromSix cX6_errorFromSix 7 (some .int) :: uW) rm_X6_errorFromSix_0_13_14 (va_Pc (av_X6_errorFromSix_0_13_14 a t ) (cpPre dC dI a kA t M L sz)) (qc_X6_errorFromSix_0_13_14 dC dI a kA sz M L Z) 0 0 (cpA a sz) := by
  refine cpenter (cc := cX6_errorFromSix) (n := 7) (ret := (some .int)) (by decide) rfl (Nat.le_of_ble_eq_true rfl) ?_
  intro p e s m below meth c ls hx hb hml hr hlocks hown hts hK hE hsz hI hl hmn
  have hu : ∀ w ∈ uW, w.before (av_X6_errorFromSix_0_13_14 a t ).toArray s = true := fun w h => hts w (List.mem_cons_of_mem _ h)
  have hown : s.vm.findClass RX6 = some m.cls := hown
  have hl : lv_has ls 7 [(0, .ref (a 0)), (1, .ref (a 13)), (2, .ref (a 14))] := hl
  unfold wp_X6_errorFromSix_0_13_14 at h
  refine lv_aload_n hx hb dX6_errorFromSix_0 rfl (lv_at hl 1 rfl) ?_
  refine va_get (D := (dC, dI)) (ci := 4) (v := .int (M 13 7)) (C := RX5) (T := TX5) (N := 16) hx hb hu uX5 hown hK hI.1 13 rfl rfl 7 (by decide) (hu _ uww_426) (u_same (hu _ uww_169)) rfl dX6_errorFromSix_1 ?_
  refine lv_aload_n hx hb dX6_errorFromSix_4 rfl (lv_at hl 1 rfl) ?_
  refine va_get (D := (dC, dI)) (ci := 4) (v := .int (M 13 8)) (C := RX5) (T := TX5) (N := 16) hx hb hu uX5 hown hK hI.1 13 rfl rfl 8 (by decide) (hu _ uww_441) (u_same (hu _ uww_152)) rfl dX6_errorFromSix_5 ?_
  refine lv_iadd hx hb dX6_errorFromSix_8 ?_
  refine lv_topi (fun x1 ex1 => ?_)
  have h := h x1 ex1
  refine lv_istore_n (lv' := [(3, .int x1), (0, .ref (a 0)), (1, .ref (a 13)), (2, .ref (a 14))]) hx hb dX6_errorFromSix_9 rfl hl (by decide) rfl (fun ls hl => ?_)
  refine lv_aload_n hx hb dX6_errorFromSix_10 rfl (lv_at hl 2 rfl) ?_
  refine va_get (D := (dC, dI)) (ci := 4) (v := .long (L 13 13)) (C := RX5) (T := TX5) (N := 16) hx hb hu uX5 hown hK hI.1 13 rfl rfl 13 (by decide) (hu _ uww_464) (u_same (hu _ uww_166)) rfl dX6_errorFromSix_11 ?_
  refine lv_aload_n hx hb dX6_errorFromSix_14 rfl (lv_at hl 2 rfl) ?_
  refine va_get (D := (dC, dI)) (ci := 4) (v := .int (M 13 8)) (C := RX5) (T := TX5) (N := 16) hx hb hu uX5 hown hK hI.1 13 rfl rfl 8 (by decide) (hu _ uww_441) (u_same (hu _ uww_152)) rfl dX6_errorFromSix_15 ?_
  refine lv_i2l hx hb dX6_errorFromSix_18 rfl ?_
  refine lv_ladd hx hb dX6_errorFromSix_19 ?_
  refine lv_ldc2 (own := RX6) (v := (58 : Int64)) hx hb hown (hu _ uww_342) dX6_errorFromSix_20 ?_
  refine lv_ladd hx hb dX6_errorFromSix_23 ?_
  refine lv_aload_n hx hb dX6_errorFromSix_24 rfl (lv_at hl 1 rfl) ?_
  refine va_get (D := (dC, dI)) (ci := 5) (v := .ref (a 1)) (C := RX6) (T := TX6) (N := 17) hx hb hu uX6 hown hK hI.1 0 rfl rfl 0 (by decide) (hu _ uww_213) (fun _ h9 => h9) rfl dX6_errorFromSix_25 ?_
  refine lv_aload_n hx hb dX6_errorFromSix_28 rfl (lv_at hl 2 rfl) ?_
  refine va_get (D := (dC, dI)) (ci := 4) (v := .int (M 13 7)) (C := RX5) (T := TX5) (N := 16) hx hb hu uX5 hown hK hI.1 13 rfl rfl 7 (by decide) (hu _ uww_426) (u_same (hu _ uww_169)) rfl dX6_errorFromSix_29 ?_
  refine lv_iload_n hx hb dX6_errorFromSix_32 rfl (lv_at hl 0 rfl) ?_
  refine cpcalll_p hsz hI (va_runV (As := [.int (M 13 7), .int x1]) (rest := [.long (((L 13 13) + ((M 13 8).toInt64)) + (58 : Int64))]) ⟨hx, hb, hml, hown, hu⟩ (met_X4_sum_1 l dC dI a kA t _ M L (M 13 7) x1 _ h) (cwl_X6_163_X4 hu ⟨by decide, by decide⟩) (cppre (ci := 3) hK hE hsz hI rfl rfl) rfl rfl hl.1 rfl (lv_room (Nat.le_of_ble_eq_true rfl)) dX6_errorFromSix_33 ⟨by decide, by decide⟩) (fun r2 H locs h hI => ?_)
  refine lv_ladd hx hb dX6_errorFromSix_36 ?_
  refine cpcalli_p hsz hI (va_runS (As := [.long ((((L 13 13) + ((M 13 8).toInt64)) + (58 : Int64)) + r2)]) (rest := []) ⟨hx, hb, hml, hown, hu⟩ (met_X6_folded l dC dI a kA t _ M L ((((L 13 13) + ((M 13 8).toInt64)) + (58 : Int64)) + r2) _ h) (cwl_X6_305_S hu ⟨by decide, by decide⟩) (cppreS hK hE hsz hI) rfl rfl hl.1 rfl (lv_room (Nat.le_of_ble_eq_true rfl)) dX6_errorFromSix_37 ⟨by decide, by decide⟩) (fun r3 H locs h hI => ?_)
  refine lv_ldcw (own := RX6) (v := (65535 : Int32)) hx hb hown (hu _ uww_300) dX6_errorFromSix_40 ?_
  refine lv_icmp_eq (tgt := 48) hx hb dX6_errorFromSix_43 (by decide) (fun c4 => ?_) (fun c4 => ?_)
  · have h := h.1 c4
    refine lv_aload_n hx hb dX6_errorFromSix_48 rfl (lv_at hl 1 rfl) ?_
    refine va_get (D := (dC, dI)) (ci := 5) (v := .ref (a 1)) (C := RX6) (T := TX6) (N := 17) hx hb hu uX6 hown hK hI.1 0 rfl rfl 0 (by decide) (hu _ uww_213) (fun _ h9 => h9) rfl dX6_errorFromSix_49 ?_
    refine lv_aload_n hx hb dX6_errorFromSix_52 rfl (lv_at hl 2 rfl) ?_
    refine va_get (D := (dC, dI)) (ci := 4) (v := .int (M 13 7)) (C := RX5) (T := TX5) (N := 16) hx hb hu uX5 hown hK hI.1 13 rfl rfl 7 (by decide) (hu _ uww_426) (u_same (hu _ uww_169)) rfl dX6_errorFromSix_53 ?_
    refine cpcalli_p hsz hI (va_runV (As := [.int (M 13 7)]) (rest := []) ⟨hx, hb, hml, hown, hu⟩ (met_X4_at_1 l dC dI a kA t _ M L (M 13 7) _ h) (cwl_X6_158_X4 hu ⟨by decide, by decide⟩) (cppre (ci := 3) hK hE hsz hI rfl rfl) rfl rfl hl.1 rfl (lv_room (Nat.le_of_ble_eq_true rfl)) dX6_errorFromSix_56 ⟨by decide, by decide⟩) (fun r5 H locs h hI => ?_)
    refine lv_aload_n hx hb dX6_errorFromSix_59 rfl (lv_at hl 1 rfl) ?_
    refine va_get (D := (dC, dI)) (ci := 5) (v := .ref (a 1)) (C := RX6) (T := TX6) (N := 17) hx hb hu uX6 hown hK hI.1 0 rfl rfl 0 (by decide) (hu _ uww_213) (fun _ h9 => h9) rfl dX6_errorFromSix_60 ?_
    refine lv_aload_n hx hb dX6_errorFromSix_63 rfl (lv_at hl 2 rfl) ?_
    refine va_get (D := (dC, dI)) (ci := 4) (v := .int (M 13 7)) (C := RX5) (T := TX5) (N := 16) hx hb hu uX5 hown hK hI.1 13 rfl rfl 7 (by decide) (hu _ uww_426) (u_same (hu _ uww_169)) rfl dX6_errorFromSix_64 ?_
    refine lv_iconst (v := (1 : Int32)) hx hb dX6_errorFromSix_67 (by decide) ?_
    refine lv_iadd hx hb dX6_errorFromSix_68 ?_
    refine cpcalli_p hsz hI (va_runV (As := [.int ((M 13 7) + (1 : Int32))]) (rest := [.int r5]) ⟨hx, hb, hml, hown, hu⟩ (met_X4_at_1 l dC dI a kA t _ M L ((M 13 7) + (1 : Int32)) _ h) (cwl_X6_158_X4 hu ⟨by decide, by decide⟩) (cppre (ci := 3) hK hE hsz hI rfl rfl) rfl rfl hl.1 rfl (lv_room (Nat.le_of_ble_eq_true rfl)) dX6_errorFromSix_69 ⟨by decide, by decide⟩) (fun r6 H locs h hI => ?_)
    refine cpcalli_p hsz hI (va_runS (As := [.int r5, .int r6]) (rest := []) ⟨hx, hb, hml, hown, hu⟩ (met_X6_errorToFour l dC dI a kA t _ M L r5 r6 _ h) (cwl_X6_440_S hu ⟨by decide, by decide⟩) (cppreS hK hE hsz hI) rfl rfl hl.1 rfl (lv_room (Nat.le_of_ble_eq_true rfl)) dX6_errorFromSix_72 ⟨by decide, by decide⟩) (fun r7 H locs h hI => ?_)
    refine lv_istore (lv' := [(4, .int r7), (3, .int x1), (0, .ref (a 0)), (1, .ref (a 13)), (2, .ref (a 14))]) hx hb dX6_errorFromSix_75 hl (by decide) rfl (fun ls hl => ?_)
    refine lv_iload hx hb dX6_errorFromSix_77 (lv_at hl 0 rfl) ?_
    refine lv_iconst (v := (-1 : Int32)) hx hb dX6_errorFromSix_79 (by decide) ?_
    refine lv_icmp_eq (tgt := 110) hx hb dX6_errorFromSix_80 (by decide) (fun c8 => ?_) (fun c8 => ?_)
    · have h := h.1 c8
      refine lv_bipush (v := (8 : Int32)) hx hb dX6_errorFromSix_110 (by decide) ?_
      exact cpiret (Z := (fun r M' L' => Z r M' L')) hx hb hr hlocks hK hI dX6_errorFromSix_112 h
    · have h := h.2 c8
      refine lv_aload_n hx hb dX6_errorFromSix_83 rfl (lv_at hl 4 rfl) ?_
      refine lv_aload_n hx hb dX6_errorFromSix_84 rfl (lv_at hl 2 rfl) ?_
      refine va_get (D := (dC, dI)) (ci := 5) (v := .ref (a 1)) (C := RX6) (T := TX6) (N := 17) hx hb hu uX6 hown hK hI.1 0 rfl rfl 0 (by decide) (hu _ uww_213) (fun _ h9 => h9) rfl dX6_errorFromSix_85 ?_
      refine lv_aload_n hx hb dX6_errorFromSix_88 rfl (lv_at hl 3 rfl) ?_
      refine va_get (D := (dC, dI)) (ci := 4) (v := .int (M 13 7)) (C := RX5) (T := TX5) (N := 16) hx hb hu uX5 hown hK hI.1 13 rfl rfl 7 (by decide) (hu _ uww_426) (u_same (hu _ uww_169)) rfl dX6_errorFromSix_89 ?_
      refine lv_bipush (v := (8 : Int32)) hx hb dX6_errorFromSix_92 (by decide) ?_
      refine lv_iadd hx hb dX6_errorFromSix_94 ?_
      refine lv_iload_n hx hb dX6_errorFromSix_95 rfl (lv_at hl 1 rfl) ?_
      refine cpcalli hsz hI (va_runV (As := [.ref (a 1), .int ((M 13 7) + (8 : Int32)), .int x1]) (rest := []) ⟨hx, hb, hml, hown, hu⟩ (met_X5_read_14_1 l dC dI a kA t _ M L ((M 13 7) + (8 : Int32)) x1 _ h) (cwl_X6_443_X5 hu ⟨by decide, by decide⟩) (cppre (ci := 4) hK hE hsz hI rfl rfl) rfl rfl hl.1 rfl (lv_room (Nat.le_of_ble_eq_true rfl)) dX6_errorFromSix_96 ⟨by decide, by decide⟩) (fun r9 M10 L11 H locs h hI => ?_)
      refine lv_if_eq (tgt := 110) hx hb dX6_errorFromSix_99 (by decide) (fun c12 => ?_) (fun c12 => ?_)
      · have h := h.1 c12
        refine lv_bipush (v := (8 : Int32)) hx hb dX6_errorFromSix_110 (by decide) ?_
        exact cpiret (Z := (fun r M' L' => Z r M' L')) hx hb hr hlocks hK hI dX6_errorFromSix_112 h
      · have h := h.2 c12
        refine lv_aload_n hx hb dX6_errorFromSix_102 rfl (lv_at hl 2 rfl) ?_
        refine lv_aload_n hx hb dX6_errorFromSix_103 rfl (lv_at hl 4 rfl) ?_
        refine cpcalli hsz hI (va_runV (As := [.ref (a 14)]) (rest := []) ⟨hx, hb, hml, hown, hu⟩ (met_X6_innerSixFits_0_14 l dC dI a kA t _ M10 L11  _ h) (cwl_X6_444_X6 hu ⟨by decide, by decide⟩) (cppre (ci := 5) hK hE hsz hI rfl rfl) rfl rfl hl.1 rfl (lv_room (Nat.le_of_ble_eq_true rfl)) dX6_errorFromSix_104 ⟨by decide, by decide⟩) (fun r13 M14 L15 H locs h hI => ?_)
        refine lv_if_ne (tgt := 113) hx hb dX6_errorFromSix_107 (by decide) (fun c16 => ?_) (fun c16 => ?_)
        · have h := h.1 c16
          refine lv_aload_n hx hb dX6_errorFromSix_113 rfl (lv_at hl 2 rfl) ?_
          refine lv_iload hx hb dX6_errorFromSix_114 (lv_at hl 0 rfl) ?_
          refine lv_aload_n hx hb dX6_errorFromSix_116 rfl (lv_at hl 2 rfl) ?_
          refine va_get (D := (dC, dI)) (ci := 5) (v := .ref (a 1)) (C := RX6) (T := TX6) (N := 17) hx hb hu uX6 hown hK hI.1 0 rfl rfl 0 (by decide) (hu _ uww_213) (fun _ h9 => h9) rfl dX6_errorFromSix_117 ?_
          refine lv_aload_n hx hb dX6_errorFromSix_120 rfl (lv_at hl 3 rfl) ?_
          refine va_get (D := (dC, dI)) (ci := 4) (v := .int (M14 13 7)) (C := RX5) (T := TX5) (N := 16) hx hb hu uX5 hown hK hI.1 13 rfl rfl 7 (by decide) (hu _ uww_426) (u_same (hu _ uww_169)) rfl dX6_errorFromSix_121 ?_
          refine lv_iconst (v := (4 : Int32)) hx hb dX6_errorFromSix_124 (by decide) ?_
          refine lv_iadd hx hb dX6_errorFromSix_125 ?_
          refine lv_iconst (v := (4 : Int32)) hx hb dX6_errorFromSix_126 (by decide) ?_
          refine cpcalll_p hsz hI (va_runV (As := [.int ((M14 13 7) + (4 : Int32)), .int (4 : Int32)]) (rest := [.int r7, .ref (a 0)]) ⟨hx, hb, hml, hown, hu⟩ (met_X4_number_1 l dC dI a kA t _ M14 L15 ((M14 13 7) + (4 : Int32)) (4 : Int32) _ h) (cwl_X6_388_X4 hu ⟨by decide, by decide⟩) (cppre (ci := 3) hK hE hsz hI rfl rfl) rfl rfl hl.1 rfl (lv_room (Nat.le_of_ble_eq_true rfl)) dX6_errorFromSix_127 ⟨by decide, by decide⟩) (fun r17 H locs h hI => ?_)
          refine cpcalli_p hsz hI (va_runV (As := [.int r7, .long r17]) (rest := []) ⟨hx, hb, hml, hown, hu⟩ (met_X6_secondToFour_0 l dC dI a kA t _ M14 L15 r7 r17 _ h) (cwl_X6_448_X6 hu ⟨by decide, by decide⟩) (cppre (ci := 5) hK hE hsz hI rfl rfl) rfl rfl hl.1 rfl (lv_room (Nat.le_of_ble_eq_true rfl)) dX6_errorFromSix_130 ⟨by decide, by decide⟩) (fun r18 H locs h hI => ?_)
          refine lv_istore (lv' := [(5, .int r18), (4, .int r7), (3, .int x1), (0, .ref (a 0)), (1, .ref (a 13)), (2, .ref (a 14))]) hx hb dX6_errorFromSix_133 hl (by decide) rfl (fun ls hl => ?_)
          refine lv_iload hx hb dX6_errorFromSix_135 (lv_at hl 0 rfl) ?_
          refine lv_iconst (v := (-1 : Int32)) hx hb dX6_errorFromSix_137 (by decide) ?_
          refine lv_icmp_ne (tgt := 144) hx hb dX6_errorFromSix_138 (by decide) (fun c19 => ?_) (fun c19 => ?_)
          · have h := h.1 c19
            refine lv_aload_n hx hb dX6_errorFromSix_144 rfl (lv_at hl 3 rfl) ?_
            refine lv_aload_n hx hb dX6_errorFromSix_145 rfl (lv_at hl 5 rfl) ?_
            refine cpcalli_m hsz hI (va_runV (As := [.ref (a 14)]) (rest := []) ⟨hx, hb, hml, hown, hu⟩ (met_X6_putInnerFour_0_14 l dC dI a kA t _ M14 L15  _ h) (cwl_X6_452_X6 hu ⟨by decide, by decide⟩) (cppre (ci := 5) hK hE hsz hI rfl rfl) rfl rfl hl.1 rfl (lv_room (Nat.le_of_ble_eq_true rfl)) dX6_errorFromSix_146 ⟨by decide, by decide⟩) (fun r20 M21 H locs h hI => ?_)
            refine lv_istore (lv' := [(6, .int r20), (5, .int r18), (4, .int r7), (3, .int x1), (0, .ref (a 0)), (1, .ref (a 13)), (2, .ref (a 14))]) hx hb dX6_errorFromSix_149 hl (by decide) rfl (fun ls hl => ?_)
            refine lv_aload_n hx hb dX6_errorFromSix_151 rfl (lv_at hl 4 rfl) ?_
            refine lv_aload_n hx hb dX6_errorFromSix_152 rfl (lv_at hl 6 rfl) ?_
            refine lv_iload hx hb dX6_errorFromSix_153 (lv_at hl 0 rfl) ?_
            refine cpcallv_m hsz hI (va_runV (As := [.ref (a 14), .int r20]) (rest := []) ⟨hx, hb, hml, hown, hu⟩ (met_X6_fixToFour_0_14 l dC dI a kA t _ M21 L15 r20 _ h) (cwl_X6_434_X6 hu ⟨by decide, by decide⟩) (cppre (ci := 5) hK hE hsz hI rfl rfl) rfl rfl hl.1 rfl (lv_room (Nat.le_of_ble_eq_true rfl)) dX6_errorFromSix_155 ⟨by decide, by decide⟩) (fun M22 H locs h hI => ?_)
            refine lv_aload_n hx hb dX6_errorFromSix_158 rfl (lv_at hl 4 rfl) ?_
            refine va_get (D := (dC, dI)) (ci := 5) (v := .ref (a 3)) (C := RX6) (T := TX6) (N := 17) hx hb hu uX6 hown hK hI.1 0 rfl rfl 1 (by decide) (hu _ uww_214) (fun _ h9 => h9) rfl dX6_errorFromSix_159 ?_
            refine lv_iload hx hb dX6_errorFromSix_162 (lv_at hl 0 rfl) ?_
            refine lv_aload_n hx hb dX6_errorFromSix_164 rfl (lv_at hl 6 rfl) ?_
            refine va_get (D := (dC, dI)) (ci := 4) (v := .int (M22 14 9)) (C := RX5) (T := TX5) (N := 16) hx hb hu uX5 hown hK hI.1 14 rfl rfl 9 (by decide) (hu _ uww_465) (u_same (hu _ uww_171)) rfl dX6_errorFromSix_165 ?_
            refine lv_iadd hx hb dX6_errorFromSix_168 ?_
            refine lv_sipush (v := (556 : Int32)) hx hb dX6_errorFromSix_169 (by decide) ?_
            refine va_mmin hx hb (hml.trans hl.1.symm) hown (hu _ uww_286) (hu _ uww_42) (hu _ uww_43) (hu _ uww_44) (Nat.le_of_ble_eq_true rfl) (Nat.le_of_ble_eq_true rfl) (Nat.le_of_ble_eq_true rfl) (Nat.le_of_ble_eq_true rfl) dX6_errorFromSix_172 ?_
            refine cpputN (ci := 3) (C := RX4) (T := TX4) (N := 2) (ty := .int) hx hb hu uX4 tyX4 tyX4_ok nmX4 hown hK hI 3 rfl rfl 1 (by decide) (va_Nw.use rfl (hE.1 _ cpn_1)) (fun _ h9 => h9) rfl (by decide +kernel) rfl rfl (Nat.le_of_ble_eq_true rfl) (cpset_3_1 _ _ _ _ _) dX6_errorFromSix_175 (fun H locs M23 eM23 hI => ?_)
            have h := h M23 eM23
            refine lv_aload_n hx hb dX6_errorFromSix_178 rfl (lv_at hl 4 rfl) ?_
            refine lv_iload hx hb dX6_errorFromSix_179 (lv_at hl 2 rfl) ?_
            refine lv_iload hx hb dX6_errorFromSix_181 (lv_at hl 1 rfl) ?_
            refine lv_lconst (v := (0 : Int64)) hx hb dX6_errorFromSix_183 (by decide) ?_
            refine cpcallv_m hsz hI (va_runV (As := [.int r7, .int r18, .long (0 : Int64)]) (rest := []) ⟨hx, hb, hml, hown, hu⟩ (met_X6_putMessage_0 l dC dI a kA t _ M23 L15 r7 r18 (0 : Int64) _ h) (cwl_X6_334_X6 hu ⟨by decide, by decide⟩) (cppre (ci := 5) hK hE hsz hI rfl rfl) rfl rfl hl.1 rfl (lv_room (Nat.le_of_ble_eq_true rfl)) dX6_errorFromSix_184 ⟨by decide, by decide⟩) (fun M24 H locs h hI => ?_)
            refine lv_iconst (v := (0 : Int32)) hx hb dX6_errorFromSix_187 (by decide) ?_
            exact cpiret (Z := (fun r M' L' => Z r M' L')) hx hb hr hlocks hK hI dX6_errorFromSix_188 h
          · have h := h.2 c19
            refine lv_bipush (v := (8 : Int32)) hx hb dX6_errorFromSix_141 (by decide) ?_
            exact cpiret (Z := (fun r M' L' => Z r M' L')) hx hb hr hlocks hK hI dX6_errorFromSix_143 h
        · have h := h.2 c16
          refine lv_bipush (v := (8 : Int32)) hx hb dX6_errorFromSix_110 (by decide) ?_
          exact cpiret (Z := (fun r M' L' => Z r M' L')) hx hb hr hlocks hK hI dX6_errorFromSix_112 h
  · have h := h.2 c4
    refine lv_iconst (v := (4 : Int32)) hx hb dX6_errorFromSix_46 (by decide) ?_
    exact cpiret (Z := (fun r M' L' => Z r M' L')) hx hb hr hlocks hK hI dX6_errorFromSix_47 h

abbrev rm_X6_verdictOnSix_0_13 : Room := { frames := 5, cells := 0, slots := 0, locals := 134 }
abbrev av_X6_verdictOnSix_0_13 (a t : Nat → Nat)  : List Value := [.ref (a 0), .ref (a 13)]
abbrev qc_X6_verdictOnSix_0_13 (dC : Nat → ClassId) (dI : Nat → Nat → Nat) (a : Nat → Nat) (kA : Nat → ClassId) (sz : Nat) (M : cM) (L : cL) (Z : Int32 → cM → cL → Prop) : Array Value → State → Outcome → State → Prop := va_Qi (fun r (u : cM × cL) => Z r u.1 u.2) (cpAt dC dI a kA (cpA a sz)) (cpA a sz)
set_option maxHeartbeats 4000000 in
set_option maxRecDepth 100000 in
theorem met_X6_verdictOnSix_0_13 (l : Launch) (dC : Nat → ClassId) (dI : Nat → Nat → Nat) (a : Nat → Nat) (kA : Nat → ClassId) (t : Nat → Nat) (sz : Nat) (M : cM) (L : cL)  (Z : Int32 → cM → cL → Prop) (h : wp_X6_verdictOnSix_0_13 M L  Z) : Met l yX6_verdictOnSix (Cond.code yX6_verdictOnSix cX6_verdictOnSix 8 (some .int) :: uW) rm_X6_verdictOnSix_0_13 (va_Pc (av_X6_verdictOnSix_0_13 a t ) (cpPre dC dI a kA t M L sz)) (qc_X6_verdictOnSix_0_13 dC dI a kA sz M L Z) 0 0 (cpA a sz) := by
  refine cpenter (cc := cX6_verdictOnSix) (n := 8) (ret := (some .int)) (by decide) rfl (Nat.le_of_ble_eq_true rfl) ?_
  intro p e s m below meth c ls hx hb hml hr hlocks hown hts hK hE hsz hI hl hmn
  have hu : ∀ w ∈ uW, w.before (av_X6_verdictOnSix_0_13 a t ).toArray s = true := fun w h => hts w (List.mem_cons_of_mem _ h)
  have hown : s.vm.findClass RX6 = some m.cls := hown
  have hl : lv_has ls 8 [(0, .ref (a 0)), (1, .ref (a 13))] := hl
  unfold wp_X6_verdictOnSix_0_13 at h
  refine lv_aload_n hx hb dX6_verdictOnSix_0 rfl (lv_at hl 1 rfl) ?_
  refine lv_aload_n hx hb dX6_verdictOnSix_1 rfl (lv_at hl 0 rfl) ?_
  refine va_get (D := (dC, dI)) (ci := 5) (v := .ref (a 1)) (C := RX6) (T := TX6) (N := 17) hx hb hu uX6 hown hK hI.1 0 rfl rfl 0 (by decide) (hu _ uww_213) (fun _ h9 => h9) rfl dX6_verdictOnSix_2 ?_
  refine cpcalli hsz hI (va_runV (As := [.ref (a 1)]) (rest := []) ⟨hx, hb, hml, hown, hu⟩ (met_X5_readWhole_13_1 l dC dI a kA t _ M L  _ h) (cwl_X6_387_X5 hu ⟨by decide, by decide⟩) (cppre (ci := 4) hK hE hsz hI rfl rfl) rfl rfl hl.1 rfl (lv_room (Nat.le_of_ble_eq_true rfl)) dX6_verdictOnSix_5 ⟨by decide, by decide⟩) (fun r1 M2 L3 H locs h hI => ?_)
  refine lv_if_ne (tgt := 13) hx hb dX6_verdictOnSix_8 (by decide) (fun c4 => ?_) (fun c4 => ?_)
  · have h := h.1 c4
    refine lv_aload_n hx hb dX6_verdictOnSix_13 rfl (lv_at hl 0 rfl) ?_
    refine va_get (D := (dC, dI)) (ci := 5) (v := .ref (a 10)) (C := RX6) (T := TX6) (N := 17) hx hb hu uX6 hown hK hI.1 0 rfl rfl 3 (by decide) (hu _ uww_221) (fun _ h9 => h9) rfl dX6_verdictOnSix_14 ?_
    refine lv_aload_n hx hb dX6_verdictOnSix_17 rfl (lv_at hl 0 rfl) ?_
    refine va_get (D := (dC, dI)) (ci := 5) (v := .ref (a 1)) (C := RX6) (T := TX6) (N := 17) hx hb hu uX6 hown hK hI.1 0 rfl rfl 0 (by decide) (hu _ uww_213) (fun _ h9 => h9) rfl dX6_verdictOnSix_18 ?_
    refine lv_bipush (v := (8 : Int32)) hx hb dX6_verdictOnSix_21 (by decide) ?_
    refine lv_bipush (v := (8 : Int32)) hx hb dX6_verdictOnSix_23 (by decide) ?_
    refine cpcalll_p hsz hI (va_runV (As := [.int (8 : Int32), .int (8 : Int32)]) (rest := [.ref (a 10)]) ⟨hx, hb, hml, hown, hu⟩ (met_X4_number_1 l dC dI a kA t _ M2 L3 (8 : Int32) (8 : Int32) _ h) (cwl_X6_388_X4 hu ⟨by decide, by decide⟩) (cppre (ci := 3) hK hE hsz hI rfl rfl) rfl rfl hl.1 rfl (lv_room (Nat.le_of_ble_eq_true rfl)) dX6_verdictOnSix_25 ⟨by decide, by decide⟩) (fun r5 H locs h hI => ?_)
    refine lv_aload_n hx hb dX6_verdictOnSix_28 rfl (lv_at hl 0 rfl) ?_
    refine va_get (D := (dC, dI)) (ci := 5) (v := .ref (a 1)) (C := RX6) (T := TX6) (N := 17) hx hb hu uX6 hown hK hI.1 0 rfl rfl 0 (by decide) (hu _ uww_213) (fun _ h9 => h9) rfl dX6_verdictOnSix_29 ?_
    refine lv_bipush (v := (16 : Int32)) hx hb dX6_verdictOnSix_32 (by decide) ?_
    refine lv_bipush (v := (8 : Int32)) hx hb dX6_verdictOnSix_34 (by decide) ?_
    refine cpcalll_p hsz hI (va_runV (As := [.int (16 : Int32), .int (8 : Int32)]) (rest := [.long r5, .ref (a 10)]) ⟨hx, hb, hml, hown, hu⟩ (met_X4_number_1 l dC dI a kA t _ M2 L3 (16 : Int32) (8 : Int32) _ h) (cwl_X6_388_X4 hu ⟨by decide, by decide⟩) (cppre (ci := 3) hK hE hsz hI rfl rfl) rfl rfl hl.1 rfl (lv_room (Nat.le_of_ble_eq_true rfl)) dX6_verdictOnSix_36 ⟨by decide, by decide⟩) (fun r6 H locs h hI => ?_)
    refine cpcalll_p hsz hI (va_runV (As := [.long r5, .long r6]) (rest := []) ⟨hx, hb, hml, hown, hu⟩ (met_X1_fourOf_10 l dC dI a kA t _ M2 L3 r5 r6 _ h) (cwl_X6_182_X1 hu ⟨by decide, by decide⟩) (cppre (ci := 1) hK hE hsz hI rfl rfl) rfl rfl hl.1 rfl (lv_room (Nat.le_of_ble_eq_true rfl)) dX6_verdictOnSix_39 ⟨by decide, by decide⟩) (fun r7 H locs h hI => ?_)
    refine lv_lstore_n (lv' := [(2, .long r7), (0, .ref (a 0)), (1, .ref (a 13))]) hx hb dX6_verdictOnSix_42 rfl hl (by decide) rfl (fun ls hl => ?_)
    refine lv_lload_n hx hb dX6_verdictOnSix_43 rfl (lv_at hl 0 rfl) ?_
    refine lv_ldc2 (own := RX6) (v := (-1 : Int64)) hx hb hown (hu _ uww_423) dX6_verdictOnSix_44 ?_
    refine W.lcmp hx hb dX6_verdictOnSix_47 ?_
    refine lv_if_ne (tgt := 53) hx hb dX6_verdictOnSix_48 (by decide) (fun c8 => ?_) (fun c8 => ?_)
    · have h := h.1 c8
      refine lv_aload_n hx hb dX6_verdictOnSix_53 rfl (lv_at hl 1 rfl) ?_
      refine va_get (D := (dC, dI)) (ci := 5) (v := .ref (a 10)) (C := RX6) (T := TX6) (N := 17) hx hb hu uX6 hown hK hI.1 0 rfl rfl 3 (by decide) (hu _ uww_221) (fun _ h9 => h9) rfl dX6_verdictOnSix_54 ?_
      refine lv_aload_n hx hb dX6_verdictOnSix_57 rfl (lv_at hl 1 rfl) ?_
      refine va_get (D := (dC, dI)) (ci := 5) (v := .ref (a 1)) (C := RX6) (T := TX6) (N := 17) hx hb hu uX6 hown hK hI.1 0 rfl rfl 0 (by decide) (hu _ uww_213) (fun _ h9 => h9) rfl dX6_verdictOnSix_58 ?_
      refine lv_bipush (v := (24 : Int32)) hx hb dX6_verdictOnSix_61 (by decide) ?_
      refine lv_bipush (v := (8 : Int32)) hx hb dX6_verdictOnSix_63 (by decide) ?_
      refine cpcalll_p hsz hI (va_runV (As := [.int (24 : Int32), .int (8 : Int32)]) (rest := [.ref (a 10)]) ⟨hx, hb, hml, hown, hu⟩ (met_X4_number_1 l dC dI a kA t _ M2 L3 (24 : Int32) (8 : Int32) _ h) (cwl_X6_388_X4 hu ⟨by decide, by decide⟩) (cppre (ci := 3) hK hE hsz hI rfl rfl) rfl rfl hl.1 rfl (lv_room (Nat.le_of_ble_eq_true rfl)) dX6_verdictOnSix_65 ⟨by decide, by decide⟩) (fun r9 H locs h hI => ?_)
      refine lv_aload_n hx hb dX6_verdictOnSix_68 rfl (lv_at hl 1 rfl) ?_
      refine va_get (D := (dC, dI)) (ci := 5) (v := .ref (a 1)) (C := RX6) (T := TX6) (N := 17) hx hb hu uX6 hown hK hI.1 0 rfl rfl 0 (by decide) (hu _ uww_213) (fun _ h9 => h9) rfl dX6_verdictOnSix_69 ?_
      refine lv_bipush (v := (32 : Int32)) hx hb dX6_verdictOnSix_72 (by decide) ?_
      refine lv_bipush (v := (8 : Int32)) hx hb dX6_verdictOnSix_74 (by decide) ?_
      refine cpcalll_p hsz hI (va_runV (As := [.int (32 : Int32), .int (8 : Int32)]) (rest := [.long r9, .ref (a 10)]) ⟨hx, hb, hml, hown, hu⟩ (met_X4_number_1 l dC dI a kA t _ M2 L3 (32 : Int32) (8 : Int32) _ h) (cwl_X6_388_X4 hu ⟨by decide, by decide⟩) (cppre (ci := 3) hK hE hsz hI rfl rfl) rfl rfl hl.1 rfl (lv_room (Nat.le_of_ble_eq_true rfl)) dX6_verdictOnSix_76 ⟨by decide, by decide⟩) (fun r10 H locs h hI => ?_)
      refine cpcalll_p hsz hI (va_runV (As := [.long r9, .long r10]) (rest := []) ⟨hx, hb, hml, hown, hu⟩ (met_X1_fourOf_10 l dC dI a kA t _ M2 L3 r9 r10 _ h) (cwl_X6_182_X1 hu ⟨by decide, by decide⟩) (cppre (ci := 1) hK hE hsz hI rfl rfl) rfl rfl hl.1 rfl (lv_room (Nat.le_of_ble_eq_true rfl)) dX6_verdictOnSix_79 ⟨by decide, by decide⟩) (fun r11 H locs h hI => ?_)
      refine lv_lstore (lv' := [(4, .long r11), (2, .long r7), (0, .ref (a 0)), (1, .ref (a 13))]) hx hb dX6_verdictOnSix_82 hl (by decide) rfl (fun ls hl => ?_)
      refine lv_lload hx hb dX6_verdictOnSix_84 (lv_at hl 0 rfl) ?_
      refine lv_ldc2 (own := RX6) (v := (-1 : Int64)) hx hb hown (hu _ uww_423) dX6_verdictOnSix_86 ?_
      refine W.lcmp hx hb dX6_verdictOnSix_89 ?_
      refine lv_if_ne (tgt := 95) hx hb dX6_verdictOnSix_90 (by decide) (fun c12 => ?_) (fun c12 => ?_)
      · have h := h.1 c12
        refine lv_aload_n hx hb dX6_verdictOnSix_95 rfl (lv_at hl 3 rfl) ?_
        refine lv_lload_n hx hb dX6_verdictOnSix_96 rfl (lv_at hl 1 rfl) ?_
        refine lv_lload hx hb dX6_verdictOnSix_97 (lv_at hl 0 rfl) ?_
        refine cpcallv hsz hI (va_runV (As := [.long r7, .long r11]) (rest := []) ⟨hx, hb, hml, hown, hu⟩ (met_X5_setFour_13 l dC dI a kA t _ M2 L3 r7 r11 _ h) (cwl_X6_392_X5 hu ⟨by decide, by decide⟩) (cppre (ci := 4) hK hE hsz hI rfl rfl) rfl rfl hl.1 rfl (lv_room (Nat.le_of_ble_eq_true rfl)) dX6_verdictOnSix_99 ⟨by decide, by decide⟩) (fun M13 L14 H locs h hI => ?_)
        refine lv_aload_n hx hb dX6_verdictOnSix_102 rfl (lv_at hl 3 rfl) ?_
        refine va_getN (D := (dC, dI)) (ci := 4) (v := .int (M13 13 15)) (C := RX5) (T := TX5) (N := 16) hx hb hu uX5 hown hK hI.1 13 rfl rfl 15 (by decide) (va_Nw.use rfl (hE.1 _ cpn_14)) (fun _ h9 => h9) rfl dX6_verdictOnSix_103 ?_
        refine lv_iconst (v := (-1 : Int32)) hx hb dX6_verdictOnSix_106 (by decide) ?_
        refine lv_icmp_eq (tgt := 123) hx hb dX6_verdictOnSix_107 (by decide) (fun c15 => ?_) (fun c15 => ?_)
        · have h := h.1 c15
          refine lv_aload_n hx hb dX6_verdictOnSix_123 rfl (lv_at hl 3 rfl) ?_
          refine va_get (D := (dC, dI)) (ci := 4) (v := .int (M13 13 2)) (C := RX5) (T := TX5) (N := 16) hx hb hu uX5 hown hK hI.1 13 rfl rfl 2 (by decide) (hu _ uww_424) (u_same (hu _ uww_164)) rfl dX6_verdictOnSix_124 ?_
          refine lv_iconst (v := (1 : Int32)) hx hb dX6_verdictOnSix_127 (by decide) ?_
          refine lv_icmp_gt (tgt := 141) hx hb dX6_verdictOnSix_128 (by decide) (fun c16 => ?_) (fun c16 => ?_)
          · have h := h.1 c16
            refine lv_aload_n hx hb dX6_verdictOnSix_141 rfl (lv_at hl 2 rfl) ?_
            refine lv_aload_n hx hb dX6_verdictOnSix_142 rfl (lv_at hl 3 rfl) ?_
            refine cpcalli_p hsz hI (va_runV (As := [.ref (a 13)]) (rest := []) ⟨hx, hb, hml, hown, hu⟩ (met_X6_faultOfSix_0_13 l dC dI a kA t _ M13 L14  _ h) (cwl_X6_404_X6 hu ⟨by decide, by decide⟩) (cppre (ci := 5) hK hE hsz hI rfl rfl) rfl rfl hl.1 rfl (lv_room (Nat.le_of_ble_eq_true rfl)) dX6_verdictOnSix_143 ⟨by decide, by decide⟩) (fun r17 H locs h hI => ?_)
            refine lv_istore (lv' := [(6, .int r17), (4, .long r11), (2, .long r7), (0, .ref (a 0)), (1, .ref (a 13))]) hx hb dX6_verdictOnSix_146 hl (by decide) rfl (fun ls hl => ?_)
            refine lv_iload hx hb dX6_verdictOnSix_148 (lv_at hl 0 rfl) ?_
            refine lv_if_eq (tgt := 156) hx hb dX6_verdictOnSix_150 (by decide) (fun c18 => ?_) (fun c18 => ?_)
            · have h := h.1 c18
              refine lv_aload_n hx hb dX6_verdictOnSix_156 rfl (lv_at hl 4 rfl) ?_
              refine va_get (D := (dC, dI)) (ci := 4) (v := .int (M13 13 3)) (C := RX5) (T := TX5) (N := 16) hx hb hu uX5 hown hK hI.1 13 rfl rfl 3 (by decide) (hu _ uww_425) (u_same (hu _ uww_183)) rfl dX6_verdictOnSix_157 ?_
              refine lv_bipush (v := (58 : Int32)) hx hb dX6_verdictOnSix_160 (by decide) ?_
              obtain ⟨K201, hK201, h⟩ := h
              have J201 : ∀ (x19 : Int32) (M20 : cM) (L21 : cL) (H : Heap) (locs : List Loc) (ls : Array Slot), K201 x19 M20 L21 → cpI dC dI a kA (cpA a sz) s M20 L21 H locs → lv_has ls 8 [(0, .ref (a 0)), (1, .ref (a 13)), (6, .int x19)] → W p l e rm_X6_verdictOnSix_0_13 s m (av_X6_verdictOnSix_0_13 a t ).toArray below meth c H locs 0 0 (MQ below (qc_X6_verdictOnSix_0_13 dC dI a kA sz M L Z) (av_X6_verdictOnSix_0_13 a t ).toArray s 0 0 (cpA a sz)) (F0 m 201 ls []) := by
                intro x19 M20 L21 H locs ls h hI hl
                have h := hK201 x19 M20 L21 h
                refine lv_iload hx hb dX6_verdictOnSix_201 (lv_at hl 2 rfl) ?_
                refine lv_if_eq (tgt := 209) hx hb dX6_verdictOnSix_203 (by decide) (fun c22 => ?_) (fun c22 => ?_)
                · have h := h.1 c22
                  refine lv_bipush (v := (20 : Int32)) hx hb dX6_verdictOnSix_209 (by decide) ?_
                  refine lv_aload_n hx hb dX6_verdictOnSix_211 rfl (lv_at hl 0 rfl) ?_
                  refine va_get (D := (dC, dI)) (ci := 5) (v := .ref (a 3)) (C := RX6) (T := TX6) (N := 17) hx hb hu uX6 hown hK hI.1 0 rfl rfl 1 (by decide) (hu _ uww_214) (fun _ h9 => h9) rfl dX6_verdictOnSix_212 ?_
                  refine va_getN (D := (dC, dI)) (ci := 3) (v := .int (M20 3 1)) (C := RX4) (T := TX4) (N := 2) hx hb hu uX4 hown hK hI.1 3 rfl rfl 1 (by decide) (va_Nw.use rfl (hE.1 _ cpn_1)) (fun _ h9 => h9) rfl dX6_verdictOnSix_215 ?_
                  refine lv_iadd hx hb dX6_verdictOnSix_218 ?_
                  refine lv_topi (fun x23 ex23 => ?_)
                  have h := h x23 ex23
                  refine lv_istore (lv' := [(7, .int x23), (0, .ref (a 0)), (1, .ref (a 13)), (6, .int x19)]) hx hb dX6_verdictOnSix_219 hl (by decide) rfl (fun ls hl => ?_)
                  refine lv_iload hx hb dX6_verdictOnSix_221 (lv_at hl 0 rfl) ?_
                  refine lv_ldcw (own := RX6) (v := (65535 : Int32)) hx hb hown (hu _ uww_300) dX6_verdictOnSix_223 ?_
                  refine lv_icmp_le (tgt := 231) hx hb dX6_verdictOnSix_226 (by decide) (fun c24 => ?_) (fun c24 => ?_)
                  · have h := h.1 c24
                    refine lv_aload_n hx hb dX6_verdictOnSix_231 rfl (lv_at hl 2 rfl) ?_
                    refine va_getN (D := (dC, dI)) (ci := 4) (v := .int (M20 13 14)) (C := RX5) (T := TX5) (N := 16) hx hb hu uX5 hown hK hI.1 13 rfl rfl 14 (by decide) (va_Nw.use rfl (hE.1 _ cpn_13)) (fun _ h9 => h9) rfl dX6_verdictOnSix_232 ?_
                    obtain ⟨K271, hK271, h⟩ := h
                    have J271 : ∀  (H : Heap) (locs : List Loc) (ls : Array Slot), K271  → cpI dC dI a kA (cpA a sz) s M20 L21 H locs → lv_has ls 8 [(0, .ref (a 0)), (1, .ref (a 13))] → W p l e rm_X6_verdictOnSix_0_13 s m (av_X6_verdictOnSix_0_13 a t ).toArray below meth c H locs 0 0 (MQ below (qc_X6_verdictOnSix_0_13 dC dI a kA sz M L Z) (av_X6_verdictOnSix_0_13 a t ).toArray s 0 0 (cpA a sz)) (F0 m 271 ls []) := by
                      intro  H locs ls h hI hl
                      have h := hK271  h
                      refine lv_aload_n hx hb dX6_verdictOnSix_271 rfl (lv_at hl 0 rfl) ?_
                      refine lv_aload_n hx hb dX6_verdictOnSix_272 rfl (lv_at hl 1 rfl) ?_
                      refine cpcallv_m hsz hI (va_runV (As := [.ref (a 13)]) (rest := []) ⟨hx, hb, hml, hown, hu⟩ (met_X6_sendFour_0_13 l dC dI a kA t _ M20 L21  _ h) (cwl_X6_423_X6 hu ⟨by decide, by decide⟩) (cppre (ci := 5) hK hE hsz hI rfl rfl) rfl rfl hl.1 rfl (lv_room (Nat.le_of_ble_eq_true rfl)) dX6_verdictOnSix_273 ⟨by decide, by decide⟩) (fun M25 H locs h hI => ?_)
                      refine lv_iconst (v := (0 : Int32)) hx hb dX6_verdictOnSix_276 (by decide) ?_
                      exact cpiret (Z := (fun r M' L' => Z r M' L')) hx hb hr hlocks hK hI dX6_verdictOnSix_277 h
                    refine lv_if_ne (tgt := 271) hx hb dX6_verdictOnSix_235 (by decide) (fun c26 => ?_) (fun c26 => ?_)
                    · have h := h.1 c26
                      exact J271  _ _ _ h hI (lv_sub hl [1, 2] rfl)
                    · have h := h.2 c26
                      refine lv_iload hx hb dX6_verdictOnSix_238 (lv_at hl 0 rfl) ?_
                      refine lv_sipush (v := (1260 : Int32)) hx hb dX6_verdictOnSix_240 (by decide) ?_
                      refine lv_icmp_le (tgt := 271) hx hb dX6_verdictOnSix_243 (by decide) (fun c27 => ?_) (fun c27 => ?_)
                      · have h := h.1 c27
                        exact J271  _ _ _ h hI (lv_sub hl [1, 2] rfl)
                      · have h := h.2 c27
                        refine lv_iload hx hb dX6_verdictOnSix_246 (lv_at hl 0 rfl) ?_
                        refine lv_aload_n hx hb dX6_verdictOnSix_248 rfl (lv_at hl 1 rfl) ?_
                        refine va_get (D := (dC, dI)) (ci := 5) (v := .int (M20 0 12)) (C := RX6) (T := TX6) (N := 17) hx hb hu uX6 hown hK hI.1 0 rfl rfl 12 (by decide) (hu _ uww_236) (fun _ h9 => h9) rfl dX6_verdictOnSix_249 ?_
                        refine lv_icmp_le (tgt := 271) hx hb dX6_verdictOnSix_252 (by decide) (fun c28 => ?_) (fun c28 => ?_)
                        · have h := h.1 c28
                          exact J271  _ _ _ h hI (lv_sub hl [1, 2] rfl)
                        · have h := h.2 c28
                          refine lv_aload_n hx hb dX6_verdictOnSix_255 rfl (lv_at hl 1 rfl) ?_
                          refine lv_aload_n hx hb dX6_verdictOnSix_256 rfl (lv_at hl 2 rfl) ?_
                          refine lv_sipush (v := (512 : Int32)) hx hb dX6_verdictOnSix_257 (by decide) ?_
                          refine lv_aload_n hx hb dX6_verdictOnSix_260 rfl (lv_at hl 1 rfl) ?_
                          refine va_get (D := (dC, dI)) (ci := 5) (v := .int (M20 0 12)) (C := RX6) (T := TX6) (N := 17) hx hb hu uX6 hown hK hI.1 0 rfl rfl 12 (by decide) (hu _ uww_236) (fun _ h9 => h9) rfl dX6_verdictOnSix_261 ?_
                          refine lv_bipush (v := (20 : Int32)) hx hb dX6_verdictOnSix_264 (by decide) ?_
                          refine lv_iadd hx hb dX6_verdictOnSix_266 ?_
                          refine cpcalli_m hsz hI (va_runV (As := [.ref (a 13), .int (512 : Int32), .int ((M20 0 12) + (20 : Int32))]) (rest := []) ⟨hx, hb, hml, hown, hu⟩ (met_X6_answerSix_0_13 l dC dI a kA t _ M20 L21 (512 : Int32) ((M20 0 12) + (20 : Int32)) _ h) (cwl_X6_399_X6 hu ⟨by decide, by decide⟩) (cppre (ci := 5) hK hE hsz hI rfl rfl) rfl rfl hl.1 rfl (lv_room (Nat.le_of_ble_eq_true rfl)) dX6_verdictOnSix_267 ⟨by decide, by decide⟩) (fun r29 M30 H locs h hI => ?_)
                          exact cpiret (Z := (fun r M' L' => Z r M' L')) hx hb hr hlocks hK hI dX6_verdictOnSix_270 h
                  · have h := h.2 c24
                    refine lv_iconst (v := (4 : Int32)) hx hb dX6_verdictOnSix_229 (by decide) ?_
                    exact cpiret (Z := (fun r M' L' => Z r M' L')) hx hb hr hlocks hK hI dX6_verdictOnSix_230 h
                · have h := h.2 c22
                  refine lv_iload hx hb dX6_verdictOnSix_206 (lv_at hl 2 rfl) ?_
                  exact cpiret (Z := (fun r M' L' => Z r M' L')) hx hb hr hlocks hK hI dX6_verdictOnSix_208 h
              obtain ⟨K196, hK196, h⟩ := h
              have J196 : ∀  (H : Heap) (locs : List Loc) (ls : Array Slot), K196  → cpI dC dI a kA (cpA a sz) s M13 L14 H locs → lv_has ls 8 [(0, .ref (a 0)), (1, .ref (a 13)), (6, .int r17)] → W p l e rm_X6_verdictOnSix_0_13 s m (av_X6_verdictOnSix_0_13 a t ).toArray below meth c H locs 0 0 (MQ below (qc_X6_verdictOnSix_0_13 dC dI a kA sz M L Z) (av_X6_verdictOnSix_0_13 a t ).toArray s 0 0 (cpA a sz)) (F0 m 196 ls []) := by
                intro  H locs ls h hI hl
                have h := hK196  h
                refine lv_aload_n hx hb dX6_verdictOnSix_196 rfl (lv_at hl 0 rfl) ?_
                refine lv_aload_n hx hb dX6_verdictOnSix_197 rfl (lv_at hl 1 rfl) ?_
                refine cpcallv_m hsz hI (va_runV (As := [.ref (a 13)]) (rest := []) ⟨hx, hb, hml, hown, hu⟩ (met_X6_bodyFromSix_0_13 l dC dI a kA t _ M13 L14  _ h) (cwl_X6_416_X6 hu ⟨by decide, by decide⟩) (cppre (ci := 5) hK hE hsz hI rfl rfl) rfl rfl hl.1 rfl (lv_room (Nat.le_of_ble_eq_true rfl)) dX6_verdictOnSix_198 ⟨by decide, by decide⟩) (fun M31 H locs h hI => ?_)
                exact J201 r17 M31 L14 _ _ _ h hI (lv_sub hl [0, 1, 2] rfl)
              refine lv_icmp_ne (tgt := 196) hx hb dX6_verdictOnSix_162 (by decide) (fun c32 => ?_) (fun c32 => ?_)
              · have h := h.1 c32
                exact J196  _ _ _ h hI (lv_sub hl [3, 4, 0] rfl)
              · have h := h.2 c32
                refine lv_aload_n hx hb dX6_verdictOnSix_165 rfl (lv_at hl 3 rfl) ?_
                refine va_get (D := (dC, dI)) (ci := 5) (v := .ref (a 1)) (C := RX6) (T := TX6) (N := 17) hx hb hu uX6 hown hK hI.1 0 rfl rfl 0 (by decide) (hu _ uww_213) (fun _ h9 => h9) rfl dX6_verdictOnSix_166 ?_
                refine lv_aload_n hx hb dX6_verdictOnSix_169 rfl (lv_at hl 4 rfl) ?_
                refine va_get (D := (dC, dI)) (ci := 4) (v := .int (M13 13 7)) (C := RX5) (T := TX5) (N := 16) hx hb hu uX5 hown hK hI.1 13 rfl rfl 7 (by decide) (hu _ uww_426) (u_same (hu _ uww_169)) rfl dX6_verdictOnSix_170 ?_
                refine cpcalli_p hsz hI (va_runV (As := [.int (M13 13 7)]) (rest := []) ⟨hx, hb, hml, hown, hu⟩ (met_X4_at_1 l dC dI a kA t _ M13 L14 (M13 13 7) _ h) (cwl_X6_158_X4 hu ⟨by decide, by decide⟩) (cppre (ci := 3) hK hE hsz hI rfl rfl) rfl rfl hl.1 rfl (lv_room (Nat.le_of_ble_eq_true rfl)) dX6_verdictOnSix_173 ⟨by decide, by decide⟩) (fun r33 H locs h hI => ?_)
                refine cpcalli_p hsz hI (va_runS (As := [.int r33]) (rest := []) ⟨hx, hb, hml, hown, hu⟩ (met_X6_isErrorSix l dC dI a kA t _ M13 L14 r33 _ h) (cwl_X6_409_S hu ⟨by decide, by decide⟩) (cppreS hK hE hsz hI) rfl rfl hl.1 rfl (lv_room (Nat.le_of_ble_eq_true rfl)) dX6_verdictOnSix_176 ⟨by decide, by decide⟩) (fun r34 H locs h hI => ?_)
                refine lv_if_eq (tgt := 196) hx hb dX6_verdictOnSix_179 (by decide) (fun c35 => ?_) (fun c35 => ?_)
                · have h := h.1 c35
                  exact J196  _ _ _ h hI (lv_sub hl [3, 4, 0] rfl)
                · have h := h.2 c35
                  refine lv_aload_n hx hb dX6_verdictOnSix_182 rfl (lv_at hl 3 rfl) ?_
                  refine lv_aload_n hx hb dX6_verdictOnSix_183 rfl (lv_at hl 4 rfl) ?_
                  refine lv_aload_n hx hb dX6_verdictOnSix_184 rfl (lv_at hl 3 rfl) ?_
                  refine va_get (D := (dC, dI)) (ci := 5) (v := .ref (a 14)) (C := RX6) (T := TX6) (N := 17) hx hb hu uX6 hown hK hI.1 0 rfl rfl 7 (by decide) (hu _ uww_229) (fun _ h9 => h9) rfl dX6_verdictOnSix_185 ?_
                  refine cpcalli hsz hI (va_runV (As := [.ref (a 13), .ref (a 14)]) (rest := []) ⟨hx, hb, hml, hown, hu⟩ (met_X6_errorFromSix_0_13_14 l dC dI a kA t _ M13 L14  _ h) (cwl_X6_412_X6 hu ⟨by decide, by decide⟩) (cppre (ci := 5) hK hE hsz hI rfl rfl) rfl rfl hl.1 rfl (lv_room (Nat.le_of_ble_eq_true rfl)) dX6_verdictOnSix_188 ⟨by decide, by decide⟩) (fun r36 M37 L38 H locs h hI => ?_)
                  refine lv_istore (lv' := [(6, .int r36), (4, .long r11), (2, .long r7), (0, .ref (a 0)), (1, .ref (a 13))]) hx hb dX6_verdictOnSix_191 hl (by decide) rfl (fun ls hl => ?_)
                  refine lv_goto (tgt := 201) hx hb dX6_verdictOnSix_193 (by decide) ?_
                  exact J201 r36 M37 L38 _ _ _ h hI (lv_sub hl [3, 4, 0] rfl)
            · have h := h.2 c18
              refine lv_iload hx hb dX6_verdictOnSix_153 (lv_at hl 0 rfl) ?_
              exact cpiret (Z := (fun r M' L' => Z r M' L')) hx hb hr hlocks hK hI dX6_verdictOnSix_155 h
          · have h := h.2 c16
            refine lv_aload_n hx hb dX6_verdictOnSix_131 rfl (lv_at hl 2 rfl) ?_
            refine lv_aload_n hx hb dX6_verdictOnSix_132 rfl (lv_at hl 3 rfl) ?_
            refine lv_sipush (v := (768 : Int32)) hx hb dX6_verdictOnSix_133 (by decide) ?_
            refine lv_iconst (v := (0 : Int32)) hx hb dX6_verdictOnSix_136 (by decide) ?_
            refine cpcalli_m hsz hI (va_runV (As := [.ref (a 13), .int (768 : Int32), .int (0 : Int32)]) (rest := []) ⟨hx, hb, hml, hown, hu⟩ (met_X6_answerSix_0_13 l dC dI a kA t _ M13 L14 (768 : Int32) (0 : Int32) _ h) (cwl_X6_399_X6 hu ⟨by decide, by decide⟩) (cppre (ci := 5) hK hE hsz hI rfl rfl) rfl rfl hl.1 rfl (lv_room (Nat.le_of_ble_eq_true rfl)) dX6_verdictOnSix_137 ⟨by decide, by decide⟩) (fun r39 M40 H locs h hI => ?_)
            exact cpiret (Z := (fun r M' L' => Z r M' L')) hx hb hr hlocks hK hI dX6_verdictOnSix_140 h
        · have h := h.2 c15
          refine lv_aload_n hx hb dX6_verdictOnSix_110 rfl (lv_at hl 2 rfl) ?_
          refine lv_aload_n hx hb dX6_verdictOnSix_111 rfl (lv_at hl 3 rfl) ?_
          refine lv_sipush (v := (1024 : Int32)) hx hb dX6_verdictOnSix_112 (by decide) ?_
          refine lv_aload_n hx hb dX6_verdictOnSix_115 rfl (lv_at hl 3 rfl) ?_
          refine va_getN (D := (dC, dI)) (ci := 4) (v := .int (M13 13 15)) (C := RX5) (T := TX5) (N := 16) hx hb hu uX5 hown hK hI.1 13 rfl rfl 15 (by decide) (va_Nw.use rfl (hE.1 _ cpn_14)) (fun _ h9 => h9) rfl dX6_verdictOnSix_116 ?_
          refine cpcalli_m hsz hI (va_runV (As := [.ref (a 13), .int (1024 : Int32), .int (M13 13 15)]) (rest := []) ⟨hx, hb, hml, hown, hu⟩ (met_X6_answerSix_0_13 l dC dI a kA t _ M13 L14 (1024 : Int32) (M13 13 15) _ h) (cwl_X6_399_X6 hu ⟨by decide, by decide⟩) (cppre (ci := 5) hK hE hsz hI rfl rfl) rfl rfl hl.1 rfl (lv_room (Nat.le_of_ble_eq_true rfl)) dX6_verdictOnSix_119 ⟨by decide, by decide⟩) (fun r41 M42 H locs h hI => ?_)
          exact cpiret (Z := (fun r M' L' => Z r M' L')) hx hb hr hlocks hK hI dX6_verdictOnSix_122 h
      · have h := h.2 c12
        refine lv_iconst (v := (3 : Int32)) hx hb dX6_verdictOnSix_93 (by decide) ?_
        exact cpiret (Z := (fun r M' L' => Z r M' L')) hx hb hr hlocks hK hI dX6_verdictOnSix_94 h
    · have h := h.2 c8
      refine lv_iconst (v := (2 : Int32)) hx hb dX6_verdictOnSix_51 (by decide) ?_
      exact cpiret (Z := (fun r M' L' => Z r M' L')) hx hb hr hlocks hK hI dX6_verdictOnSix_52 h
  · have h := h.2 c4
    refine lv_iconst (v := (1 : Int32)) hx hb dX6_verdictOnSix_11 (by decide) ?_
    exact cpiret (Z := (fun r M' L' => Z r M' L')) hx hb hr hlocks hK hI dX6_verdictOnSix_12 h

abbrev rm_X6_six_0 : Room := { frames := 6, cells := 0, slots := 0, locals := 161 }
abbrev av_X6_six_0 (a t : Nat → Nat)  : List Value := [.ref (a 0)]
abbrev qc_X6_six_0 (dC : Nat → ClassId) (dI : Nat → Nat → Nat) (a : Nat → Nat) (kA : Nat → ClassId) (sz : Nat) (M : cM) (L : cL) (Z : Int32 → cM → cL → Prop) : Array Value → State → Outcome → State → Prop := va_Qi (fun r (u : cM × cL) => Z r u.1 u.2) (cpAt dC dI a kA (cpA a sz)) (cpA a sz)
set_option maxHeartbeats 4000000 in
set_option maxRecDepth 100000 in
theorem met_X6_six_0 (l : Launch) (dC : Nat → ClassId) (dI : Nat → Nat → Nat) (a : Nat → Nat) (kA : Nat → ClassId) (t : Nat → Nat) (sz : Nat) (M : cM) (L : cL)  (Z : Int32 → cM → cL → Prop) (h : wp_X6_six_0 M L  Z) : Met l yX6_six (Cond.code yX6_six cX6_six 2 (some .int) :: uW) rm_X6_six_0 (va_Pc (av_X6_six_0 a t ) (cpPre dC dI a kA t M L sz)) (qc_X6_six_0 dC dI a kA sz M L Z) 0 0 (cpA a sz) := by
  refine cpenter (cc := cX6_six) (n := 2) (ret := (some .int)) (by decide) rfl (Nat.le_of_ble_eq_true rfl) ?_
  intro p e s m below meth c ls hx hb hml hr hlocks hown hts hK hE hsz hI hl hmn
  have hu : ∀ w ∈ uW, w.before (av_X6_six_0 a t ).toArray s = true := fun w h => hts w (List.mem_cons_of_mem _ h)
  have hown : s.vm.findClass RX6 = some m.cls := hown
  have hl : lv_has ls 2 [(0, .ref (a 0))] := hl
  unfold wp_X6_six_0 at h
  refine lv_aload_n hx hb dX6_six_0 rfl (lv_at hl 0 rfl) ?_
  refine va_get (D := (dC, dI)) (ci := 5) (v := .ref (a 5)) (C := RX6) (T := TX6) (N := 17) hx hb hu uX6 hown hK hI.1 0 rfl rfl 2 (by decide) (hu _ uww_218) (fun _ h9 => h9) rfl dX6_six_1 ?_
  refine cpcallv_m hsz hI (va_runV (As := []) (rest := []) ⟨hx, hb, hml, hown, hu⟩ (met_X3_clear_5 l dC dI a kA t _ M L  _ h) (cwl_X6_125_X3 hu ⟨by decide, by decide⟩) (cppre (ci := 2) hK hE hsz hI rfl rfl) rfl rfl hl.1 rfl (lv_room (Nat.le_of_ble_eq_true rfl)) dX6_six_4 ⟨by decide, by decide⟩) (fun M1 H locs h hI => ?_)
  refine lv_aload_n hx hb dX6_six_7 rfl (lv_at hl 0 rfl) ?_
  refine lv_aload_n hx hb dX6_six_8 rfl (lv_at hl 0 rfl) ?_
  refine va_get (D := (dC, dI)) (ci := 5) (v := .ref (a 13)) (C := RX6) (T := TX6) (N := 17) hx hb hu uX6 hown hK hI.1 0 rfl rfl 6 (by decide) (hu _ uww_228) (fun _ h9 => h9) rfl dX6_six_9 ?_
  refine cpcalli hsz hI (va_runV (As := [.ref (a 13)]) (rest := []) ⟨hx, hb, hml, hown, hu⟩ (met_X6_verdictOnSix_0_13 l dC dI a kA t _ M1 L  _ h) (cwl_X6_136_X6 hu ⟨by decide, by decide⟩) (cppre (ci := 5) hK hE hsz hI rfl rfl) rfl rfl hl.1 rfl (lv_room (Nat.le_of_ble_eq_true rfl)) dX6_six_12 ⟨by decide, by decide⟩) (fun r2 M3 L4 H locs h hI => ?_)
  refine lv_istore_n (lv' := [(1, .int r2), (0, .ref (a 0))]) hx hb dX6_six_15 rfl hl (by decide) rfl (fun ls hl => ?_)
  refine lv_aload_n hx hb dX6_six_16 rfl (lv_at hl 1 rfl) ?_
  refine lv_iload_n hx hb dX6_six_17 rfl (lv_at hl 0 rfl) ?_
  refine cpcallv_m hsz hI (va_runV (As := [.int r2]) (rest := []) ⟨hx, hb, hml, hown, hu⟩ (met_X6_finish_0 l dC dI a kA t _ M3 L4 r2 _ h) (cwl_X6_132_X6 hu ⟨by decide, by decide⟩) (cppre (ci := 5) hK hE hsz hI rfl rfl) rfl rfl hl.1 rfl (lv_room (Nat.le_of_ble_eq_true rfl)) dX6_six_18 ⟨by decide, by decide⟩) (fun M5 H locs h hI => ?_)
  refine lv_iload_n hx hb dX6_six_21 rfl (lv_at hl 0 rfl) ?_
  exact cpiret (Z := (fun r M' L' => Z r M' L')) hx hb hr hlocks hK hI dX6_six_22 h

abbrev rm_X6_parts_0 : Room := { frames := 0, cells := 0, slots := 0, locals := 0 }
abbrev av_X6_parts_0 (a t : Nat → Nat)  : List Value := [.ref (a 0)]
abbrev qc_X6_parts_0 (dC : Nat → ClassId) (dI : Nat → Nat → Nat) (a : Nat → Nat) (kA : Nat → ClassId) (sz : Nat) (M : cM) (L : cL) (Z : Int32 → Prop) : Array Value → State → Outcome → State → Prop := va_Qi (fun r (u : cM × cL) => u.1 = M ∧ u.2 = L ∧ Z r) (cpAt dC dI a kA (cpA a sz)) (cpA a sz)
set_option maxHeartbeats 4000000 in
set_option maxRecDepth 100000 in
theorem met_X6_parts_0 (l : Launch) (dC : Nat → ClassId) (dI : Nat → Nat → Nat) (a : Nat → Nat) (kA : Nat → ClassId) (t : Nat → Nat) (sz : Nat) (M : cM) (L : cL)  (Z : Int32 → Prop) (h : wp_X6_parts_0 M L  Z) : Met l yX6_parts (Cond.code yX6_parts cX6_parts 1 (some .int) :: uW) rm_X6_parts_0 (va_Pc (av_X6_parts_0 a t ) (cpPre dC dI a kA t M L sz)) (qc_X6_parts_0 dC dI a kA sz M L Z) 0 0 (cpA a sz) := by
  refine cpenter (cc := cX6_parts) (n := 1) (ret := (some .int)) (by decide) rfl (Nat.le_of_ble_eq_true rfl) ?_
  intro p e s m below meth c ls hx hb hml hr hlocks hown hts hK hE hsz hI hl hmn
  have hu : ∀ w ∈ uW, w.before (av_X6_parts_0 a t ).toArray s = true := fun w h => hts w (List.mem_cons_of_mem _ h)
  have hown : s.vm.findClass RX6 = some m.cls := hown
  have hl : lv_has ls 1 [(0, .ref (a 0))] := hl
  unfold wp_X6_parts_0 at h
  refine lv_aload_n hx hb dX6_parts_0 rfl (lv_at hl 0 rfl) ?_
  refine va_get (D := (dC, dI)) (ci := 5) (v := .ref (a 5)) (C := RX6) (T := TX6) (N := 17) hx hb hu uX6 hown hK hI.1 0 rfl rfl 2 (by decide) (hu _ uww_218) (fun _ h9 => h9) rfl dX6_parts_1 ?_
  refine va_getN (D := (dC, dI)) (ci := 2) (v := .int (M 5 3)) (C := RX3) (T := TX3) (N := 4) hx hb hu uX3 hown hK hI.1 5 rfl rfl 3 (by decide) (va_Nw.use rfl (hE.1 _ cpn_5)) (fun _ h9 => h9) rfl dX6_parts_4 ?_
  exact cpiret (Z := (fun r M' L' => M' = M ∧ L' = L ∧ Z r)) hx hb hr hlocks hK hI dX6_parts_7 ⟨rfl, rfl, h⟩

abbrev rm_X3_sizeOf_5 : Room := { frames := 0, cells := 0, slots := 0, locals := 0 }
abbrev av_X3_sizeOf_5 (a t : Nat → Nat) (p1 : Int32) : List Value := [.ref (a 5), .int p1]
abbrev qc_X3_sizeOf_5 (dC : Nat → ClassId) (dI : Nat → Nat → Nat) (a : Nat → Nat) (kA : Nat → ClassId) (sz : Nat) (M : cM) (L : cL) (Z : Int32 → Prop) : Array Value → State → Outcome → State → Prop := va_Qi (fun r (u : cM × cL) => u.1 = M ∧ u.2 = L ∧ Z r) (cpAt dC dI a kA (cpA a sz)) (cpA a sz)
set_option maxHeartbeats 4000000 in
set_option maxRecDepth 100000 in
theorem met_X3_sizeOf_5 (l : Launch) (dC : Nat → ClassId) (dI : Nat → Nat → Nat) (a : Nat → Nat) (kA : Nat → ClassId) (t : Nat → Nat) (sz : Nat) (M : cM) (L : cL) (p1 : Int32) (Z : Int32 → Prop) (h : wp_X3_sizeOf_5 M L p1 Z) : Met l yX3_sizeOf (Cond.code yX3_sizeOf cX3_sizeOf 2 (some .int) :: uW) rm_X3_sizeOf_5 (va_Pc (av_X3_sizeOf_5 a t p1) (cpPre dC dI a kA t M L sz)) (qc_X3_sizeOf_5 dC dI a kA sz M L Z) 0 0 (cpA a sz) := by
  refine cpenter (cc := cX3_sizeOf) (n := 2) (ret := (some .int)) (by decide) rfl (Nat.le_of_ble_eq_true rfl) ?_
  intro p e s m below meth c ls hx hb hml hr hlocks hown hts hK hE hsz hI hl hmn
  have hu : ∀ w ∈ uW, w.before (av_X3_sizeOf_5 a t p1).toArray s = true := fun w h => hts w (List.mem_cons_of_mem _ h)
  have hown : s.vm.findClass RX3 = some m.cls := hown
  have hl : lv_has ls 2 [(0, .ref (a 5)), (1, .int p1)] := hl
  unfold wp_X3_sizeOf_5 at h
  refine lv_iload_n hx hb dX3_sizeOf_0 rfl (lv_at hl 1 rfl) ?_
  refine lv_if_lt (tgt := 30) hx hb dX3_sizeOf_1 (by decide) (fun c1 => ?_) (fun c1 => ?_)
  · have h := h.1 c1
    refine lv_iconst (v := (-1 : Int32)) hx hb dX3_sizeOf_30 (by decide) ?_
    exact cpiret (Z := (fun r M' L' => M' = M ∧ L' = L ∧ Z r)) hx hb hr hlocks hK hI dX3_sizeOf_31 ⟨rfl, rfl, h⟩
  · have h := h.2 c1
    refine lv_iload_n hx hb dX3_sizeOf_4 rfl (lv_at hl 1 rfl) ?_
    refine lv_aload_n hx hb dX3_sizeOf_5 rfl (lv_at hl 0 rfl) ?_
    refine va_get (D := (dC, dI)) (ci := 2) (v := .int (M 5 3)) (C := RX3) (T := TX3) (N := 4) hx hb hu uX3 hown hK hI.1 5 rfl rfl 3 (by decide) (hu _ uww_137) (fun _ h9 => h9) rfl dX3_sizeOf_6 ?_
    refine lv_icmp_ge (tgt := 30) hx hb dX3_sizeOf_9 (by decide) (fun c2 => ?_) (fun c2 => ?_)
    · have h := h.1 c2
      refine lv_iconst (v := (-1 : Int32)) hx hb dX3_sizeOf_30 (by decide) ?_
      exact cpiret (Z := (fun r M' L' => M' = M ∧ L' = L ∧ Z r)) hx hb hr hlocks hK hI dX3_sizeOf_31 ⟨rfl, rfl, h⟩
    · have h := h.2 c2
      refine lv_iload_n hx hb dX3_sizeOf_12 rfl (lv_at hl 1 rfl) ?_
      refine lv_aload_n hx hb dX3_sizeOf_13 rfl (lv_at hl 0 rfl) ?_
      refine va_get (D := (dC, dI)) (ci := 2) (v := .ref (a 9)) (C := RX3) (T := TX3) (N := 4) hx hb hu uX3 hown hK hI.1 5 rfl rfl 2 (by decide) (hu _ uww_131) (fun _ h9 => h9) rfl dX3_sizeOf_14 ?_
      refine va_alen (v := (49 : Int32)) hx hb hK hI.1 9 4 rfl rfl rfl dX3_sizeOf_17 ?_
      refine lv_icmp_ge (tgt := 30) hx hb dX3_sizeOf_18 (by decide) (fun c3 => ?_) (fun c3 => ?_)
      · have h := h.1 c3
        refine lv_iconst (v := (-1 : Int32)) hx hb dX3_sizeOf_30 (by decide) ?_
        exact cpiret (Z := (fun r M' L' => M' = M ∧ L' = L ∧ Z r)) hx hb hr hlocks hK hI dX3_sizeOf_31 ⟨rfl, rfl, h⟩
      · have h := h.2 c3
        refine lv_aload_n hx hb dX3_sizeOf_21 rfl (lv_at hl 0 rfl) ?_
        refine va_get (D := (dC, dI)) (ci := 2) (v := .ref (a 9)) (C := RX3) (T := TX3) (N := 4) hx hb hu uX3 hown hK hI.1 5 rfl rfl 2 (by decide) (hu _ uww_131) (fun _ h9 => h9) rfl dX3_sizeOf_22 ?_
        refine lv_iload_n hx hb dX3_sizeOf_25 rfl (lv_at hl 1 rfl) ?_
        refine va_iald hx hb hK hI.1 9 4 rfl rfl h.1 dX3_sizeOf_26 ?_
        have h := h.2
        refine lv_goto (tgt := 31) hx hb dX3_sizeOf_27 (by decide) ?_
        exact cpiret (Z := (fun r M' L' => M' = M ∧ L' = L ∧ Z r)) hx hb hr hlocks hK hI dX3_sizeOf_31 ⟨rfl, rfl, h⟩

abbrev rm_X6_size_0 : Room := { frames := 1, cells := 0, slots := 0, locals := 21 }
abbrev av_X6_size_0 (a t : Nat → Nat) (p1 : Int32) : List Value := [.ref (a 0), .int p1]
abbrev qc_X6_size_0 (dC : Nat → ClassId) (dI : Nat → Nat → Nat) (a : Nat → Nat) (kA : Nat → ClassId) (sz : Nat) (M : cM) (L : cL) (Z : Int32 → Prop) : Array Value → State → Outcome → State → Prop := va_Qi (fun r (u : cM × cL) => u.1 = M ∧ u.2 = L ∧ Z r) (cpAt dC dI a kA (cpA a sz)) (cpA a sz)
set_option maxHeartbeats 4000000 in
set_option maxRecDepth 100000 in
theorem met_X6_size_0 (l : Launch) (dC : Nat → ClassId) (dI : Nat → Nat → Nat) (a : Nat → Nat) (kA : Nat → ClassId) (t : Nat → Nat) (sz : Nat) (M : cM) (L : cL) (p1 : Int32) (Z : Int32 → Prop) (h : wp_X6_size_0 M L p1 Z) : Met l yX6_size (Cond.code yX6_size cX6_size 2 (some .int) :: uW) rm_X6_size_0 (va_Pc (av_X6_size_0 a t p1) (cpPre dC dI a kA t M L sz)) (qc_X6_size_0 dC dI a kA sz M L Z) 0 0 (cpA a sz) := by
  refine cpenter (cc := cX6_size) (n := 2) (ret := (some .int)) (by decide) rfl (Nat.le_of_ble_eq_true rfl) ?_
  intro p e s m below meth c ls hx hb hml hr hlocks hown hts hK hE hsz hI hl hmn
  have hu : ∀ w ∈ uW, w.before (av_X6_size_0 a t p1).toArray s = true := fun w h => hts w (List.mem_cons_of_mem _ h)
  have hown : s.vm.findClass RX6 = some m.cls := hown
  have hl : lv_has ls 2 [(0, .ref (a 0)), (1, .int p1)] := hl
  unfold wp_X6_size_0 at h
  refine lv_aload_n hx hb dX6_size_0 rfl (lv_at hl 0 rfl) ?_
  refine va_get (D := (dC, dI)) (ci := 5) (v := .ref (a 5)) (C := RX6) (T := TX6) (N := 17) hx hb hu uX6 hown hK hI.1 0 rfl rfl 2 (by decide) (hu _ uww_218) (fun _ h9 => h9) rfl dX6_size_1 ?_
  refine lv_iload_n hx hb dX6_size_4 rfl (lv_at hl 1 rfl) ?_
  refine cpcalli_p hsz hI (va_runV (As := [.int p1]) (rest := []) ⟨hx, hb, hml, hown, hu⟩ (met_X3_sizeOf_5 l dC dI a kA t _ M L p1 _ h) (cwl_X6_143_X3 hu ⟨by decide, by decide⟩) (cppre (ci := 2) hK hE hsz hI rfl rfl) rfl rfl hl.1 rfl (lv_room (Nat.le_of_ble_eq_true rfl)) dX6_size_5 ⟨by decide, by decide⟩) (fun r1 H locs h hI => ?_)
  exact cpiret (Z := (fun r M' L' => M' = M ∧ L' = L ∧ Z r)) hx hb hr hlocks hK hI dX6_size_8 ⟨rfl, rfl, h⟩

abbrev rm_X6_image_0 : Room := { frames := 2, cells := 0, slots := 0, locals := 45 }
abbrev av_X6_image_0 (a t : Nat → Nat) (p1 : Int32) (p2 : Int32) : List Value := [.ref (a 0), .int p1, .int p2]
abbrev qc_X6_image_0 (dC : Nat → ClassId) (dI : Nat → Nat → Nat) (a : Nat → Nat) (kA : Nat → ClassId) (sz : Nat) (M : cM) (L : cL) (Z : Int64 → Prop) : Array Value → State → Outcome → State → Prop := va_Ql (fun r (u : cM × cL) => u.1 = M ∧ u.2 = L ∧ Z r) (cpAt dC dI a kA (cpA a sz)) (cpA a sz)
set_option maxHeartbeats 4000000 in
set_option maxRecDepth 100000 in
theorem met_X6_image_0 (l : Launch) (dC : Nat → ClassId) (dI : Nat → Nat → Nat) (a : Nat → Nat) (kA : Nat → ClassId) (t : Nat → Nat) (sz : Nat) (M : cM) (L : cL) (p1 : Int32) (p2 : Int32) (Z : Int64 → Prop) (h : wp_X6_image_0 M L p1 p2 Z) : Met l yX6_image (Cond.code yX6_image cX6_image 3 (some .long) :: uW) rm_X6_image_0 (va_Pc (av_X6_image_0 a t p1 p2) (cpPre dC dI a kA t M L sz)) (qc_X6_image_0 dC dI a kA sz M L Z) 0 0 (cpA a sz) := by
  refine cpenter (cc := cX6_image) (n := 3) (ret := (some .long)) (by decide) rfl (Nat.le_of_ble_eq_true rfl) ?_
  intro p e s m below meth c ls hx hb hml hr hlocks hown hts hK hE hsz hI hl hmn
  have hu : ∀ w ∈ uW, w.before (av_X6_image_0 a t p1 p2).toArray s = true := fun w h => hts w (List.mem_cons_of_mem _ h)
  have hown : s.vm.findClass RX6 = some m.cls := hown
  have hl : lv_has ls 3 [(0, .ref (a 0)), (1, .int p1), (2, .int p2)] := hl
  unfold wp_X6_image_0 at h
  refine lv_aload_n hx hb dX6_image_0 rfl (lv_at hl 0 rfl) ?_
  refine va_get (D := (dC, dI)) (ci := 5) (v := .ref (a 10)) (C := RX6) (T := TX6) (N := 17) hx hb hu uX6 hown hK hI.1 0 rfl rfl 3 (by decide) (hu _ uww_221) (fun _ h9 => h9) rfl dX6_image_1 ?_
  refine lv_iload_n hx hb dX6_image_4 rfl (lv_at hl 1 rfl) ?_
  refine cpcalli_p hsz hI (va_runV (As := [.int p1]) (rest := []) ⟨hx, hb, hml, hown, hu⟩ (met_X1_mappable_10 l dC dI a kA t _ M L p1 _ h) (cwl_X6_171_X1 hu ⟨by decide, by decide⟩) (cppre (ci := 1) hK hE hsz hI rfl rfl) rfl rfl hl.1 rfl (lv_room (Nat.le_of_ble_eq_true rfl)) dX6_image_5 ⟨by decide, by decide⟩) (fun r1 H locs h hI => ?_)
  refine lv_if_ne (tgt := 13) hx hb dX6_image_8 (by decide) (fun c2 => ?_) (fun c2 => ?_)
  · have h := h.1 c2
    refine lv_iload_n hx hb dX6_image_13 rfl (lv_at hl 2 rfl) ?_
    refine lv_if_eq (tgt := 28) hx hb dX6_image_14 (by decide) (fun c3 => ?_) (fun c3 => ?_)
    · have h := h.1 c3
      refine lv_aload_n hx hb dX6_image_28 rfl (lv_at hl 0 rfl) ?_
      refine va_get (D := (dC, dI)) (ci := 5) (v := .ref (a 10)) (C := RX6) (T := TX6) (N := 17) hx hb hu uX6 hown hK hI.1 0 rfl rfl 3 (by decide) (hu _ uww_221) (fun _ h9 => h9) rfl dX6_image_29 ?_
      refine lv_iload_n hx hb dX6_image_32 rfl (lv_at hl 1 rfl) ?_
      refine cpcalll_p hsz hI (va_runV (As := [.int p1]) (rest := []) ⟨hx, hb, hml, hown, hu⟩ (met_X1_upperOf_10 l dC dI a kA t _ M L p1 _ h) (cwl_X6_179_X1 hu ⟨by decide, by decide⟩) (cppre (ci := 1) hK hE hsz hI rfl rfl) rfl rfl hl.1 rfl (lv_room (Nat.le_of_ble_eq_true rfl)) dX6_image_33 ⟨by decide, by decide⟩) (fun r4 H locs h hI => ?_)
      exact cplret (Z := (fun r M' L' => M' = M ∧ L' = L ∧ Z r)) hx hb hr hlocks hK hI dX6_image_36 ⟨rfl, rfl, h⟩
    · have h := h.2 c3
      refine lv_aload_n hx hb dX6_image_17 rfl (lv_at hl 0 rfl) ?_
      refine va_get (D := (dC, dI)) (ci := 5) (v := .ref (a 10)) (C := RX6) (T := TX6) (N := 17) hx hb hu uX6 hown hK hI.1 0 rfl rfl 3 (by decide) (hu _ uww_221) (fun _ h9 => h9) rfl dX6_image_18 ?_
      refine lv_iload_n hx hb dX6_image_21 rfl (lv_at hl 1 rfl) ?_
      refine cpcalll_p hsz hI (va_runV (As := [.int p1]) (rest := []) ⟨hx, hb, hml, hown, hu⟩ (met_X1_lowerOf_10 l dC dI a kA t _ M L p1 _ h) (cwl_X6_175_X1 hu ⟨by decide, by decide⟩) (cppre (ci := 1) hK hE hsz hI rfl rfl) rfl rfl hl.1 rfl (lv_room (Nat.le_of_ble_eq_true rfl)) dX6_image_22 ⟨by decide, by decide⟩) (fun r5 H locs h hI => ?_)
      refine lv_goto (tgt := 36) hx hb dX6_image_25 (by decide) ?_
      exact cplret (Z := (fun r M' L' => M' = M ∧ L' = L ∧ Z r)) hx hb hr hlocks hK hI dX6_image_36 ⟨rfl, rfl, h⟩
  · have h := h.2 c2
    refine lv_lconst (v := (0 : Int64)) hx hb dX6_image_11 (by decide) ?_
    exact cplret (Z := (fun r M' L' => M' = M ∧ L' = L ∧ Z r)) hx hb hr hlocks hK hI dX6_image_12 ⟨rfl, rfl, h⟩

abbrev rm_X6_address_0 : Room := { frames := 3, cells := 0, slots := 0, locals := 73 }
abbrev av_X6_address_0 (a t : Nat → Nat) (p1 : Int64) (p3 : Int64) : List Value := [.ref (a 0), .long p1, .long p3]
abbrev qc_X6_address_0 (dC : Nat → ClassId) (dI : Nat → Nat → Nat) (a : Nat → Nat) (kA : Nat → ClassId) (sz : Nat) (M : cM) (L : cL) (Z : Int64 → Prop) : Array Value → State → Outcome → State → Prop := va_Ql (fun r (u : cM × cL) => u.1 = M ∧ u.2 = L ∧ Z r) (cpAt dC dI a kA (cpA a sz)) (cpA a sz)
set_option maxHeartbeats 4000000 in
set_option maxRecDepth 100000 in
theorem met_X6_address_0 (l : Launch) (dC : Nat → ClassId) (dI : Nat → Nat → Nat) (a : Nat → Nat) (kA : Nat → ClassId) (t : Nat → Nat) (sz : Nat) (M : cM) (L : cL) (p1 : Int64) (p3 : Int64) (Z : Int64 → Prop) (h : wp_X6_address_0 M L p1 p3 Z) : Met l yX6_address (Cond.code yX6_address cX6_address 5 (some .long) :: uW) rm_X6_address_0 (va_Pc (av_X6_address_0 a t p1 p3) (cpPre dC dI a kA t M L sz)) (qc_X6_address_0 dC dI a kA sz M L Z) 0 0 (cpA a sz) := by
  refine cpenter (cc := cX6_address) (n := 5) (ret := (some .long)) (by decide) rfl (Nat.le_of_ble_eq_true rfl) ?_
  intro p e s m below meth c ls hx hb hml hr hlocks hown hts hK hE hsz hI hl hmn
  have hu : ∀ w ∈ uW, w.before (av_X6_address_0 a t p1 p3).toArray s = true := fun w h => hts w (List.mem_cons_of_mem _ h)
  have hown : s.vm.findClass RX6 = some m.cls := hown
  have hl : lv_has ls 5 [(0, .ref (a 0)), (1, .long p1), (3, .long p3)] := hl
  unfold wp_X6_address_0 at h
  refine lv_aload_n hx hb dX6_address_0 rfl (lv_at hl 0 rfl) ?_
  refine va_get (D := (dC, dI)) (ci := 5) (v := .ref (a 10)) (C := RX6) (T := TX6) (N := 17) hx hb hu uX6 hown hK hI.1 0 rfl rfl 3 (by decide) (hu _ uww_221) (fun _ h9 => h9) rfl dX6_address_1 ?_
  refine lv_lload_n hx hb dX6_address_4 rfl (lv_at hl 1 rfl) ?_
  refine lv_lload_n hx hb dX6_address_5 rfl (lv_at hl 2 rfl) ?_
  refine cpcalll_p hsz hI (va_runV (As := [.long p1, .long p3]) (rest := []) ⟨hx, hb, hml, hown, hu⟩ (met_X1_fourOf_10 l dC dI a kA t _ M L p1 p3 _ h) (cwl_X6_182_X1 hu ⟨by decide, by decide⟩) (cppre (ci := 1) hK hE hsz hI rfl rfl) rfl rfl hl.1 rfl (lv_room (Nat.le_of_ble_eq_true rfl)) dX6_address_6 ⟨by decide, by decide⟩) (fun r1 H locs h hI => ?_)
  exact cplret (Z := (fun r M' L' => M' = M ∧ L' = L ∧ Z r)) hx hb hr hlocks hK hI dX6_address_9 ⟨rfl, rfl, h⟩

abbrev rm_X6_count_0 : Room := { frames := 0, cells := 0, slots := 0, locals := 0 }
abbrev av_X6_count_0 (a t : Nat → Nat) (p1 : Int32) : List Value := [.ref (a 0), .int p1]
abbrev qc_X6_count_0 (dC : Nat → ClassId) (dI : Nat → Nat → Nat) (a : Nat → Nat) (kA : Nat → ClassId) (sz : Nat) (M : cM) (L : cL) (Z : Int32 → Prop) : Array Value → State → Outcome → State → Prop := va_Qi (fun r (u : cM × cL) => u.1 = M ∧ u.2 = L ∧ Z r) (cpAt dC dI a kA (cpA a sz)) (cpA a sz)
set_option maxHeartbeats 4000000 in
set_option maxRecDepth 100000 in
theorem met_X6_count_0 (l : Launch) (dC : Nat → ClassId) (dI : Nat → Nat → Nat) (a : Nat → Nat) (kA : Nat → ClassId) (t : Nat → Nat) (sz : Nat) (M : cM) (L : cL) (p1 : Int32) (Z : Int32 → Prop) (h : wp_X6_count_0 M L p1 Z) : Met l yX6_count (Cond.code yX6_count cX6_count 2 (some .int) :: uW) rm_X6_count_0 (va_Pc (av_X6_count_0 a t p1) (cpPre dC dI a kA t M L sz)) (qc_X6_count_0 dC dI a kA sz M L Z) 0 0 (cpA a sz) := by
  refine cpenter (cc := cX6_count) (n := 2) (ret := (some .int)) (by decide) rfl (Nat.le_of_ble_eq_true rfl) ?_
  intro p e s m below meth c ls hx hb hml hr hlocks hown hts hK hE hsz hI hl hmn
  have hu : ∀ w ∈ uW, w.before (av_X6_count_0 a t p1).toArray s = true := fun w h => hts w (List.mem_cons_of_mem _ h)
  have hown : s.vm.findClass RX6 = some m.cls := hown
  have hl : lv_has ls 2 [(0, .ref (a 0)), (1, .int p1)] := hl
  unfold wp_X6_count_0 at h
  refine lv_iload_n hx hb dX6_count_0 rfl (lv_at hl 1 rfl) ?_
  obtain ⟨K20, hK20, h⟩ := h
  have J20 : ∀  (H : Heap) (locs : List Loc) (ls : Array Slot), K20  → cpI dC dI a kA (cpA a sz) s M L H locs → lv_has ls 2 [(0, .ref (a 0)), (1, .int p1)] → W p l e rm_X6_count_0 s m (av_X6_count_0 a t p1).toArray below meth c H locs 0 0 (MQ below (qc_X6_count_0 dC dI a kA sz M L Z) (av_X6_count_0 a t p1).toArray s 0 0 (cpA a sz)) (F0 m 20 ls []) := by
    intro  H locs ls h hI hl
    have h := hK20  h
    refine lv_iload_n hx hb dX6_count_20 rfl (lv_at hl 1 rfl) ?_
    by_cases c21_0 : p1 = (11 : Int32)
    · have h := h.1 c21_0
      refine lv_tableIn (off := 35) (tgt := 56) hx hb dX6_count_21 (by rw [c21_0]; decide) (by rw [c21_0]; decide) (by rw [c21_0]; rfl) (by decide) ?_
      refine lv_aload_n hx hb dX6_count_56 rfl (lv_at hl 0 rfl) ?_
      refine va_get (D := (dC, dI)) (ci := 5) (v := .ref (a 1)) (C := RX6) (T := TX6) (N := 17) hx hb hu uX6 hown hK hI.1 0 rfl rfl 0 (by decide) (hu _ uww_213) (fun _ h9 => h9) rfl dX6_count_57 ?_
      refine va_getN (D := (dC, dI)) (ci := 3) (v := .int (M 1 1)) (C := RX4) (T := TX4) (N := 2) hx hb hu uX4 hown hK hI.1 1 rfl rfl 1 (by decide) (va_Nw.use rfl (hE.1 _ cpn_1)) (fun _ h9 => h9) rfl dX6_count_60 ?_
      exact cpiret (Z := (fun r M' L' => M' = M ∧ L' = L ∧ Z r)) hx hb hr hlocks hK hI dX6_count_63 ⟨rfl, rfl, h⟩
    · have h := h.2 c21_0
      by_cases c21_1 : p1 = (12 : Int32)
      · have h := h.1 c21_1
        refine lv_tableIn (off := 43) (tgt := 64) hx hb dX6_count_21 (by rw [c21_1]; decide) (by rw [c21_1]; decide) (by rw [c21_1]; rfl) (by decide) ?_
        refine lv_aload_n hx hb dX6_count_64 rfl (lv_at hl 0 rfl) ?_
        refine va_get (D := (dC, dI)) (ci := 5) (v := .int (M 0 16)) (C := RX6) (T := TX6) (N := 17) hx hb hu uX6 hown hK hI.1 0 rfl rfl 16 (by decide) (hu _ uww_240) (fun _ h9 => h9) rfl dX6_count_65 ?_
        exact cpiret (Z := (fun r M' L' => M' = M ∧ L' = L ∧ Z r)) hx hb hr hlocks hK hI dX6_count_68 ⟨rfl, rfl, h⟩
      · have h := h.2 c21_1
        by_cases c21_2 : p1 = (13 : Int32)
        · have h := h.1 c21_2
          refine lv_tableIn (off := 48) (tgt := 69) hx hb dX6_count_21 (by rw [c21_2]; decide) (by rw [c21_2]; decide) (by rw [c21_2]; rfl) (by decide) ?_
          refine lv_aload_n hx hb dX6_count_69 rfl (lv_at hl 0 rfl) ?_
          refine va_get (D := (dC, dI)) (ci := 5) (v := .int (M 0 12)) (C := RX6) (T := TX6) (N := 17) hx hb hu uX6 hown hK hI.1 0 rfl rfl 12 (by decide) (hu _ uww_236) (fun _ h9 => h9) rfl dX6_count_70 ?_
          exact cpiret (Z := (fun r M' L' => M' = M ∧ L' = L ∧ Z r)) hx hb hr hlocks hK hI dX6_count_73 ⟨rfl, rfl, h⟩
        · have h := h.2 c21_2
          by_cases c21_3 : p1 = (14 : Int32)
          · have h := h.1 c21_3
            refine lv_tableIn (off := 53) (tgt := 74) hx hb dX6_count_21 (by rw [c21_3]; decide) (by rw [c21_3]; decide) (by rw [c21_3]; rfl) (by decide) ?_
            refine lv_aload_n hx hb dX6_count_74 rfl (lv_at hl 0 rfl) ?_
            refine va_get (D := (dC, dI)) (ci := 5) (v := .int (M 0 13)) (C := RX6) (T := TX6) (N := 17) hx hb hu uX6 hown hK hI.1 0 rfl rfl 13 (by decide) (hu _ uww_237) (fun _ h9 => h9) rfl dX6_count_75 ?_
            exact cpiret (Z := (fun r M' L' => M' = M ∧ L' = L ∧ Z r)) hx hb hr hlocks hK hI dX6_count_78 ⟨rfl, rfl, h⟩
          · have h := h.2 c21_3
            by_cases c21_4 : p1 = (15 : Int32)
            · have h := h.1 c21_4
              refine lv_tableIn (off := 58) (tgt := 79) hx hb dX6_count_21 (by rw [c21_4]; decide) (by rw [c21_4]; decide) (by rw [c21_4]; rfl) (by decide) ?_
              refine lv_aload_n hx hb dX6_count_79 rfl (lv_at hl 0 rfl) ?_
              refine va_get (D := (dC, dI)) (ci := 5) (v := .ref (a 10)) (C := RX6) (T := TX6) (N := 17) hx hb hu uX6 hown hK hI.1 0 rfl rfl 3 (by decide) (hu _ uww_221) (fun _ h9 => h9) rfl dX6_count_80 ?_
              refine va_getN (D := (dC, dI)) (ci := 1) (v := .int (M 10 2)) (C := RX1) (T := TX1) (N := 3) hx hb hu uX1 hown hK hI.1 10 rfl rfl 2 (by decide) (va_Nw.use rfl (hE.1 _ cpn_8)) (fun _ h9 => h9) rfl dX6_count_83 ?_
              exact cpiret (Z := (fun r M' L' => M' = M ∧ L' = L ∧ Z r)) hx hb hr hlocks hK hI dX6_count_86 ⟨rfl, rfl, h⟩
            · have h := h.2 c21_4
              have nc21_0 := lv_neT (a := 11) c21_0 (by decide)
              have nc21_1 := lv_neT (a := 12) c21_1 (by decide)
              have nc21_2 := lv_neT (a := 13) c21_2 (by decide)
              have nc21_3 := lv_neT (a := 14) c21_3 (by decide)
              have nc21_4 := lv_neT (a := 15) c21_4 (by decide)
              refine lv_tableOut (tgt := 87) hx hb dX6_count_21 (by omega) (by decide) ?_
              refine lv_iconst (v := (-1 : Int32)) hx hb dX6_count_87 (by decide) ?_
              exact cpiret (Z := (fun r M' L' => M' = M ∧ L' = L ∧ Z r)) hx hb hr hlocks hK hI dX6_count_88 ⟨rfl, rfl, h⟩
  refine lv_if_lt (tgt := 20) hx hb dX6_count_1 (by decide) (fun c1 => ?_) (fun c1 => ?_)
  · have h := h.1 c1
    exact J20  _ _ _ h hI (lv_sub hl [0, 1] rfl)
  · have h := h.2 c1
    refine lv_iload_n hx hb dX6_count_4 rfl (lv_at hl 1 rfl) ?_
    refine lv_aload_n hx hb dX6_count_5 rfl (lv_at hl 0 rfl) ?_
    refine va_get (D := (dC, dI)) (ci := 5) (v := .ref (a 15)) (C := RX6) (T := TX6) (N := 17) hx hb hu uX6 hown hK hI.1 0 rfl rfl 8 (by decide) (hu _ uww_230) (fun _ h9 => h9) rfl dX6_count_6 ?_
    refine va_alen (v := (11 : Int32)) hx hb hK hI.1 15 5 rfl rfl rfl dX6_count_9 ?_
    refine lv_icmp_ge (tgt := 20) hx hb dX6_count_10 (by decide) (fun c2 => ?_) (fun c2 => ?_)
    · have h := h.1 c2
      exact J20  _ _ _ h hI (lv_sub hl [0, 1] rfl)
    · have h := h.2 c2
      refine lv_aload_n hx hb dX6_count_13 rfl (lv_at hl 0 rfl) ?_
      refine va_get (D := (dC, dI)) (ci := 5) (v := .ref (a 15)) (C := RX6) (T := TX6) (N := 17) hx hb hu uX6 hown hK hI.1 0 rfl rfl 8 (by decide) (hu _ uww_230) (fun _ h9 => h9) rfl dX6_count_14 ?_
      refine lv_iload_n hx hb dX6_count_17 rfl (lv_at hl 1 rfl) ?_
      refine va_iald hx hb hK hI.1 15 5 rfl rfl h.1 dX6_count_18 ?_
      have h := h.2
      exact cpiret (Z := (fun r M' L' => M' = M ∧ L' = L ∧ Z r)) hx hb hr hlocks hK hI dX6_count_19 ⟨rfl, rfl, h⟩
