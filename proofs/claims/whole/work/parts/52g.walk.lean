abbrev rm_X6_fixToFour_0_13 : Room := { frames := 3, cells := 0, slots := 0, locals := 80 }
abbrev av_X6_fixToFour_0_13 (a t : Nat → Nat) (p2 : Int32) : List Value := [.ref (a 0), .ref (a 13), .int p2]
abbrev qc_X6_fixToFour_0_13 (dC : Nat → ClassId) (dI : Nat → Nat → Nat) (a : Nat → Nat) (kA : Nat → ClassId) (sz : Nat) (M : cM) (L : cL) (Z : cM → Prop) : Array Value → State → Outcome → State → Prop := va_Qv (fun (u : cM × cL) => u.2 = L ∧ Z u.1) (cpAt dC dI a kA (cpA a sz)) (cpA a sz)
set_option maxHeartbeats 4000000 in
set_option maxRecDepth 100000 in
theorem met_X6_fixToFour_0_13 (l : Launch) (dC : Nat → ClassId) (dI : Nat → Nat → Nat) (a : Nat → Nat) (kA : Nat → ClassId) (t : Nat → Nat) (sz : Nat) (M : cM) (L : cL) (p2 : Int32) (Z : cM → Prop) (h : wp_X6_fixToFour_0_13 M L p2 Z) : Met l yX6_fixToFour (Cond.code yX6_fixToFour cX6_fixToFour 8 none :: uW) rm_X6_fixToFour_0_13 (va_Pc (av_X6_fixToFour_0_13 a t p2) (cpPre dC dI a kA t M L sz)) (qc_X6_fixToFour_0_13 dC dI a kA sz M L Z) 0 0 (cpA a sz) := by
  refine cpenter (cc := cX6_fixToFour) (n := 8) (ret := none) (by decide) rfl (Nat.le_of_ble_eq_true rfl) ?_
  intro p e s m below meth c ls hx hb hml hr hlocks hown hts hK hE hsz hI hl hmn
  have hu : ∀ w ∈ uW, w.before (av_X6_fixToFour_0_13 a t p2).toArray s = true := fun w h => hts w (List.mem_cons_of_mem _ h)
  have hown : s.vm.findClass RX6 = some m.cls := hown
  have hl : lv_has ls 8 [(0, .ref (a 0)), (1, .ref (a 13)), (2, .int p2)] := hl
  unfold wp_X6_fixToFour_0_13 at h
  refine lv_aload_n hx hb dX6_fixToFour_0 rfl (lv_at hl 1 rfl) ?_
  refine va_get (D := (dC, dI)) (ci := 4) (v := .int (M 13 3)) (C := RX5) (T := TX5) (N := 16) hx hb hu uX5 hown hK hI.1 13 rfl rfl 3 (by decide) (hu _ uww_425) (u_same (hu _ uww_183)) rfl dX6_fixToFour_1 ?_
  refine lv_bipush (v := (58 : Int32)) hx hb dX6_fixToFour_4 (by decide) ?_
  refine lv_icmp_ne (tgt := 115) hx hb dX6_fixToFour_6 (by decide) (fun c1 => ?_) (fun c1 => ?_)
  · have h := h.1 c1
    refine lv_aload_n hx hb dX6_fixToFour_115 rfl (lv_at hl 0 rfl) ?_
    refine lv_aload_n hx hb dX6_fixToFour_116 rfl (lv_at hl 1 rfl) ?_
    refine lv_iload_n hx hb dX6_fixToFour_117 rfl (lv_at hl 2 rfl) ?_
    refine lv_aload_n hx hb dX6_fixToFour_118 rfl (lv_at hl 1 rfl) ?_
    refine va_get (D := (dC, dI)) (ci := 4) (v := .long (L 13 13)) (C := RX5) (T := TX5) (N := 16) hx hb hu uX5 hown hK hI.1 13 rfl rfl 13 (by decide) (hu _ uww_464) (u_same (hu _ uww_166)) rfl dX6_fixToFour_119 ?_
    refine lv_bipush (v := (16 : Int32)) hx hb dX6_fixToFour_122 (by decide) ?_
    refine lv_aload_n hx hb dX6_fixToFour_124 rfl (lv_at hl 1 rfl) ?_
    refine va_get (D := (dC, dI)) (ci := 4) (v := .long (L 13 12)) (C := RX5) (T := TX5) (N := 16) hx hb hu uX5 hown hK hI.1 13 rfl rfl 12 (by decide) (hu _ uww_508) (u_same (hu _ uww_206)) rfl dX6_fixToFour_125 ?_
    refine cpcallv_m hsz hI (va_runV (As := [.ref (a 13), .int p2, .long (L 13 13), .int (16 : Int32), .long (L 13 12)]) (rest := []) ⟨hx, hb, hml, hown, hu⟩ (met_X6_fixTransport_0_13 l dC dI a kA t _ M L p2 (L 13 13) (16 : Int32) (L 13 12) _ h) (cwl_X6_298_X6 hu ⟨by decide, by decide⟩) (cppre (ci := 5) hK hE hsz hI rfl rfl) rfl rfl hl.1 rfl (lv_room (Nat.le_of_ble_eq_true rfl)) dX6_fixToFour_128 ⟨by decide, by decide⟩) (fun M2 H locs h hI => ?_)
    exact cpvret (Z := (fun M' L' => L' = L ∧ Z M')) hx hb hr hlocks hK hI dX6_fixToFour_131 ⟨rfl, h⟩
  · have h := h.2 c1
    refine lv_aload_n hx hb dX6_fixToFour_9 rfl (lv_at hl 0 rfl) ?_
    refine va_get (D := (dC, dI)) (ci := 5) (v := .ref (a 3)) (C := RX6) (T := TX6) (N := 17) hx hb hu uX6 hown hK hI.1 0 rfl rfl 1 (by decide) (hu _ uww_214) (fun _ h9 => h9) rfl dX6_fixToFour_10 ?_
    refine lv_iload_n hx hb dX6_fixToFour_13 rfl (lv_at hl 2 rfl) ?_
    refine cpcalli_p hsz hI (va_runV (As := [.int p2]) (rest := []) ⟨hx, hb, hml, hown, hu⟩ (met_X4_word_3 l dC dI a kA t _ M L p2 _ h) (cwl_X6_272_X4 hu ⟨by decide, by decide⟩) (cppre (ci := 3) hK hE hsz hI rfl rfl) rfl rfl hl.1 rfl (lv_room (Nat.le_of_ble_eq_true rfl)) dX6_fixToFour_14 ⟨by decide, by decide⟩) (fun r3 H locs h hI => ?_)
    refine lv_istore_n (lv' := [(3, .int r3), (0, .ref (a 0)), (1, .ref (a 13)), (2, .int p2)]) hx hb dX6_fixToFour_17 rfl hl (by decide) rfl (fun ls hl => ?_)
    refine lv_iload_n hx hb dX6_fixToFour_18 rfl (lv_at hl 0 rfl) ?_
    refine lv_bipush (v := (8 : Int32)) hx hb dX6_fixToFour_19 (by decide) ?_
    refine lv_ishr hx hb dX6_fixToFour_21 ?_
    refine lv_sipush (v := (128 : Int32)) hx hb dX6_fixToFour_22 (by decide) ?_
    obtain ⟨K34, hK34, h⟩ := h
    have J34 : ∀ (v4 : Int32) (H : Heap) (locs : List Loc) (ls : Array Slot), K34 v4 → cpI dC dI a kA (cpA a sz) s M L H locs → lv_has ls 8 [(0, .ref (a 0)), (1, .ref (a 13)), (2, .int p2), (3, .int r3)] → W p l e rm_X6_fixToFour_0_13 s m (av_X6_fixToFour_0_13 a t p2).toArray below meth c H locs 0 0 (MQ below (qc_X6_fixToFour_0_13 dC dI a kA sz M L Z) (av_X6_fixToFour_0_13 a t p2).toArray s 0 0 (cpA a sz)) (F0 m 34 ls [.int v4]) := by
      intro v4 H locs ls h hI hl
      have h := hK34 v4 h
      refine lv_istore (lv' := [(4, .int v4), (0, .ref (a 0)), (1, .ref (a 13)), (2, .int p2), (3, .int r3)]) hx hb dX6_fixToFour_34 hl (by decide) rfl (fun ls hl => ?_)
      refine lv_iload hx hb dX6_fixToFour_36 (lv_at hl 0 rfl) ?_
      refine lv_bipush (v := (8 : Int32)) hx hb dX6_fixToFour_38 (by decide) ?_
      refine lv_ishl hx hb dX6_fixToFour_40 ?_
      refine lv_iload_n hx hb dX6_fixToFour_41 rfl (lv_at hl 4 rfl) ?_
      refine lv_sipush (v := (255 : Int32)) hx hb dX6_fixToFour_42 (by decide) ?_
      refine lv_iand hx hb dX6_fixToFour_45 ?_
      refine lv_ior hx hb dX6_fixToFour_46 ?_
      refine lv_topi (fun x5 ex5 => ?_)
      have h := h x5 ex5
      refine lv_istore (lv' := [(5, .int x5), (4, .int v4), (0, .ref (a 0)), (1, .ref (a 13)), (2, .int p2), (3, .int r3)]) hx hb dX6_fixToFour_47 hl (by decide) rfl (fun ls hl => ?_)
      refine lv_aload_n hx hb dX6_fixToFour_49 rfl (lv_at hl 2 rfl) ?_
      refine va_get (D := (dC, dI)) (ci := 5) (v := .ref (a 3)) (C := RX6) (T := TX6) (N := 17) hx hb hu uX6 hown hK hI.1 0 rfl rfl 1 (by decide) (hu _ uww_214) (fun _ h9 => h9) rfl dX6_fixToFour_50 ?_
      refine lv_iload_n hx hb dX6_fixToFour_53 rfl (lv_at hl 4 rfl) ?_
      refine lv_iconst (v := (2 : Int32)) hx hb dX6_fixToFour_54 (by decide) ?_
      refine lv_iload hx hb dX6_fixToFour_55 (lv_at hl 0 rfl) ?_
      refine lv_i2l hx hb dX6_fixToFour_57 rfl ?_
      refine cpcallv_m hsz hI (va_runV (As := [.int p2, .int (2 : Int32), .long (x5.toInt64)]) (rest := []) ⟨hx, hb, hml, hown, hu⟩ (met_X4_put_3 l dC dI a kA t _ M L p2 (2 : Int32) (x5.toInt64) _ h) (cwl_X6_99_X4 hu ⟨by decide, by decide⟩) (cppre (ci := 3) hK hE hsz hI rfl rfl) rfl rfl hl.1 rfl (lv_room (Nat.le_of_ble_eq_true rfl)) dX6_fixToFour_58 ⟨by decide, by decide⟩) (fun M6 H locs h hI => ?_)
      refine lv_iload_n hx hb dX6_fixToFour_61 rfl (lv_at hl 5 rfl) ?_
      refine lv_i2l hx hb dX6_fixToFour_62 rfl ?_
      refine lv_aload_n hx hb dX6_fixToFour_63 rfl (lv_at hl 3 rfl) ?_
      refine va_get (D := (dC, dI)) (ci := 4) (v := .long (L 13 13)) (C := RX5) (T := TX5) (N := 16) hx hb hu uX5 hown hK hI.1 13 rfl rfl 13 (by decide) (hu _ uww_464) (u_same (hu _ uww_166)) rfl dX6_fixToFour_64 ?_
      refine lv_ladd hx hb dX6_fixToFour_67 ?_
      refine lv_aload_n hx hb dX6_fixToFour_68 rfl (lv_at hl 3 rfl) ?_
      refine va_get (D := (dC, dI)) (ci := 4) (v := .int (M6 13 8)) (C := RX5) (T := TX5) (N := 16) hx hb hu uX5 hown hK hI.1 13 rfl rfl 8 (by decide) (hu _ uww_441) (u_same (hu _ uww_152)) rfl dX6_fixToFour_69 ?_
      refine lv_i2l hx hb dX6_fixToFour_72 rfl ?_
      refine lv_ladd hx hb dX6_fixToFour_73 ?_
      refine lv_ldc2 (own := RX6) (v := (58 : Int64)) hx hb hown (hu _ uww_342) dX6_fixToFour_74 ?_
      refine lv_ladd hx hb dX6_fixToFour_77 ?_
      refine lv_topl (fun x7 ex7 => ?_)
      have h := h x7 ex7
      refine lv_lstore (lv' := [(6, .long x7), (5, .int x5), (4, .int v4), (0, .ref (a 0)), (1, .ref (a 13)), (2, .int p2), (3, .int r3)]) hx hb dX6_fixToFour_78 hl (by decide) rfl (fun ls hl => ?_)
      refine lv_aload_n hx hb dX6_fixToFour_80 rfl (lv_at hl 3 rfl) ?_
      refine va_get (D := (dC, dI)) (ci := 5) (v := .ref (a 3)) (C := RX6) (T := TX6) (N := 17) hx hb hu uX6 hown hK hI.1 0 rfl rfl 1 (by decide) (hu _ uww_214) (fun _ h9 => h9) rfl dX6_fixToFour_81 ?_
      refine lv_iload_n hx hb dX6_fixToFour_84 rfl (lv_at hl 5 rfl) ?_
      refine lv_iconst (v := (2 : Int32)) hx hb dX6_fixToFour_85 (by decide) ?_
      refine lv_iadd hx hb dX6_fixToFour_86 ?_
      refine lv_iconst (v := (2 : Int32)) hx hb dX6_fixToFour_87 (by decide) ?_
      refine lv_aload_n hx hb dX6_fixToFour_88 rfl (lv_at hl 3 rfl) ?_
      refine va_get (D := (dC, dI)) (ci := 5) (v := .ref (a 3)) (C := RX6) (T := TX6) (N := 17) hx hb hu uX6 hown hK hI.1 0 rfl rfl 1 (by decide) (hu _ uww_214) (fun _ h9 => h9) rfl dX6_fixToFour_89 ?_
      refine lv_iload_n hx hb dX6_fixToFour_92 rfl (lv_at hl 5 rfl) ?_
      refine lv_iconst (v := (2 : Int32)) hx hb dX6_fixToFour_93 (by decide) ?_
      refine lv_iadd hx hb dX6_fixToFour_94 ?_
      refine cpcalli_p hsz hI (va_runV (As := [.int (p2 + (2 : Int32))]) (rest := [.int (2 : Int32), .int (p2 + (2 : Int32)), .ref (a 3)]) ⟨hx, hb, hml, hown, hu⟩ (met_X4_word_3 l dC dI a kA t _ M6 L (p2 + (2 : Int32)) _ h) (cwl_X6_272_X4 hu ⟨by decide, by decide⟩) (cppre (ci := 3) hK hE hsz hI rfl rfl) rfl rfl hl.1 rfl (lv_room (Nat.le_of_ble_eq_true rfl)) dX6_fixToFour_95 ⟨by decide, by decide⟩) (fun r8 H locs h hI => ?_)
      refine lv_lload hx hb dX6_fixToFour_98 (lv_at hl 0 rfl) ?_
      refine lv_bipush (v := (21 : Int32)) hx hb dX6_fixToFour_100 (by decide) ?_
      refine lv_iload hx hb dX6_fixToFour_102 (lv_at hl 1 rfl) ?_
      refine lv_i2l hx hb dX6_fixToFour_104 rfl ?_
      refine cpcalli_p hsz hI (va_runS (As := [.int r8, .long x7, .int (21 : Int32), .long (x5.toInt64)]) (rest := [.int (2 : Int32), .int (p2 + (2 : Int32)), .ref (a 3)]) ⟨hx, hb, hml, hown, hu⟩ (met_X6_adjusted l dC dI a kA t _ M6 L r8 x7 (21 : Int32) (x5.toInt64) _ h) (cwl_X6_291_S hu ⟨by decide, by decide⟩) (cppreS hK hE hsz hI) rfl rfl hl.1 rfl (lv_room (Nat.le_of_ble_eq_true rfl)) dX6_fixToFour_105 ⟨by decide, by decide⟩) (fun r9 H locs h hI => ?_)
      refine lv_i2l hx hb dX6_fixToFour_108 rfl ?_
      refine cpcallv_m hsz hI (va_runV (As := [.int (p2 + (2 : Int32)), .int (2 : Int32), .long (r9.toInt64)]) (rest := []) ⟨hx, hb, hml, hown, hu⟩ (met_X4_put_3 l dC dI a kA t _ M6 L (p2 + (2 : Int32)) (2 : Int32) (r9.toInt64) _ h) (cwl_X6_99_X4 hu ⟨by decide, by decide⟩) (cppre (ci := 3) hK hE hsz hI rfl rfl) rfl rfl hl.1 rfl (lv_room (Nat.le_of_ble_eq_true rfl)) dX6_fixToFour_109 ⟨by decide, by decide⟩) (fun M10 H locs h hI => ?_)
      refine lv_goto (tgt := 131) hx hb dX6_fixToFour_112 (by decide) ?_
      exact cpvret (Z := (fun M' L' => L' = L ∧ Z M')) hx hb hr hlocks hK hI dX6_fixToFour_131 ⟨rfl, h⟩
    refine lv_icmp_ne (tgt := 33) hx hb dX6_fixToFour_25 (by decide) (fun c11 => ?_) (fun c11 => ?_)
    · have h := h.1 c11
      refine lv_iconst (v := (0 : Int32)) hx hb dX6_fixToFour_33 (by decide) ?_
      exact J34 (0 : Int32) _ _ _ h hI (lv_sub hl [1, 2, 3, 0] rfl)
    · have h := h.2 c11
      refine lv_bipush (v := (8 : Int32)) hx hb dX6_fixToFour_28 (by decide) ?_
      refine lv_goto (tgt := 34) hx hb dX6_fixToFour_30 (by decide) ?_
      exact J34 (8 : Int32) _ _ _ h hI (lv_sub hl [1, 2, 3, 0] rfl)

abbrev rm_X6_bodyFromSix_0_13 : Room := { frames := 4, cells := 0, slots := 0, locals := 107 }
abbrev av_X6_bodyFromSix_0_13 (a t : Nat → Nat)  : List Value := [.ref (a 0), .ref (a 13)]
abbrev qc_X6_bodyFromSix_0_13 (dC : Nat → ClassId) (dI : Nat → Nat → Nat) (a : Nat → Nat) (kA : Nat → ClassId) (sz : Nat) (M : cM) (L : cL) (Z : cM → Prop) : Array Value → State → Outcome → State → Prop := va_Qv (fun (u : cM × cL) => u.2 = L ∧ Z u.1) (cpAt dC dI a kA (cpA a sz)) (cpA a sz)
set_option maxHeartbeats 4000000 in
set_option maxRecDepth 100000 in
theorem met_X6_bodyFromSix_0_13 (l : Launch) (dC : Nat → ClassId) (dI : Nat → Nat → Nat) (a : Nat → Nat) (kA : Nat → ClassId) (t : Nat → Nat) (sz : Nat) (M : cM) (L : cL)  (Z : cM → Prop) (h : wp_X6_bodyFromSix_0_13 M L  Z) : Met l yX6_bodyFromSix (Cond.code yX6_bodyFromSix cX6_bodyFromSix 2 none :: uW) rm_X6_bodyFromSix_0_13 (va_Pc (av_X6_bodyFromSix_0_13 a t ) (cpPre dC dI a kA t M L sz)) (qc_X6_bodyFromSix_0_13 dC dI a kA sz M L Z) 0 0 (cpA a sz) := by
  refine cpenter (cc := cX6_bodyFromSix) (n := 2) (ret := none) (by decide) rfl (Nat.le_of_ble_eq_true rfl) ?_
  intro p e s m below meth c ls hx hb hml hr hlocks hown hts hK hE hsz hI hl hmn
  have hu : ∀ w ∈ uW, w.before (av_X6_bodyFromSix_0_13 a t ).toArray s = true := fun w h => hts w (List.mem_cons_of_mem _ h)
  have hown : s.vm.findClass RX6 = some m.cls := hown
  have hl : lv_has ls 2 [(0, .ref (a 0)), (1, .ref (a 13))] := hl
  unfold wp_X6_bodyFromSix_0_13 at h
  refine lv_aload_n hx hb dX6_bodyFromSix_0 rfl (lv_at hl 0 rfl) ?_
  refine va_get (D := (dC, dI)) (ci := 5) (v := .ref (a 3)) (C := RX6) (T := TX6) (N := 17) hx hb hu uX6 hown hK hI.1 0 rfl rfl 1 (by decide) (hu _ uww_214) (fun _ h9 => h9) rfl dX6_bodyFromSix_1 ?_
  refine lv_aload_n hx hb dX6_bodyFromSix_4 rfl (lv_at hl 0 rfl) ?_
  refine va_get (D := (dC, dI)) (ci := 5) (v := .ref (a 1)) (C := RX6) (T := TX6) (N := 17) hx hb hu uX6 hown hK hI.1 0 rfl rfl 0 (by decide) (hu _ uww_213) (fun _ h9 => h9) rfl dX6_bodyFromSix_5 ?_
  refine lv_aload_n hx hb dX6_bodyFromSix_8 rfl (lv_at hl 1 rfl) ?_
  refine va_get (D := (dC, dI)) (ci := 4) (v := .int (M 13 7)) (C := RX5) (T := TX5) (N := 16) hx hb hu uX5 hown hK hI.1 13 rfl rfl 7 (by decide) (hu _ uww_426) (u_same (hu _ uww_169)) rfl dX6_bodyFromSix_9 ?_
  refine lv_iconst (v := (0 : Int32)) hx hb dX6_bodyFromSix_12 (by decide) ?_
  refine lv_aload_n hx hb dX6_bodyFromSix_13 rfl (lv_at hl 1 rfl) ?_
  refine va_get (D := (dC, dI)) (ci := 4) (v := .int (M 13 8)) (C := RX5) (T := TX5) (N := 16) hx hb hu uX5 hown hK hI.1 13 rfl rfl 8 (by decide) (hu _ uww_441) (u_same (hu _ uww_152)) rfl dX6_bodyFromSix_14 ?_
  refine cpcallv_m hsz hI (va_runV (As := [.ref (a 1), .int (M 13 7), .int (0 : Int32), .int (M 13 8)]) (rest := []) ⟨hx, hb, hml, hown, hu⟩ (met_X4_copy_3_1 l dC dI a kA t _ M L (M 13 7) (0 : Int32) (M 13 8) _ h) (cwl_X6_276_X4 hu ⟨by decide, by decide⟩) (cppre (ci := 3) hK hE hsz hI rfl rfl) rfl rfl hl.1 rfl (lv_room (Nat.le_of_ble_eq_true rfl)) dX6_bodyFromSix_17 ⟨by decide, by decide⟩) (fun M1 H locs h hI => ?_)
  refine lv_aload_n hx hb dX6_bodyFromSix_20 rfl (lv_at hl 0 rfl) ?_
  refine va_get (D := (dC, dI)) (ci := 5) (v := .ref (a 3)) (C := RX6) (T := TX6) (N := 17) hx hb hu uX6 hown hK hI.1 0 rfl rfl 1 (by decide) (hu _ uww_214) (fun _ h9 => h9) rfl dX6_bodyFromSix_21 ?_
  refine lv_aload_n hx hb dX6_bodyFromSix_24 rfl (lv_at hl 1 rfl) ?_
  refine va_get (D := (dC, dI)) (ci := 4) (v := .int (M1 13 8)) (C := RX5) (T := TX5) (N := 16) hx hb hu uX5 hown hK hI.1 13 rfl rfl 8 (by decide) (hu _ uww_441) (u_same (hu _ uww_152)) rfl dX6_bodyFromSix_25 ?_
  refine cpputN (ci := 3) (C := RX4) (T := TX4) (N := 2) (ty := .int) hx hb hu uX4 tyX4 tyX4_ok nmX4 hown hK hI 3 rfl rfl 1 (by decide) (va_Nw.use rfl (hE.1 _ cpn_1)) (fun _ h9 => h9) rfl (by decide +kernel) rfl rfl (Nat.le_of_ble_eq_true rfl) (cpset_3_1 _ _ _ _ _) dX6_bodyFromSix_28 (fun H locs M2 eM2 hI => ?_)
  have h := h M2 eM2
  refine lv_aload_n hx hb dX6_bodyFromSix_31 rfl (lv_at hl 0 rfl) ?_
  refine lv_aload_n hx hb dX6_bodyFromSix_32 rfl (lv_at hl 1 rfl) ?_
  refine lv_iconst (v := (0 : Int32)) hx hb dX6_bodyFromSix_33 (by decide) ?_
  refine cpcallv_m hsz hI (va_runV (As := [.ref (a 13), .int (0 : Int32)]) (rest := []) ⟨hx, hb, hml, hown, hu⟩ (met_X6_fixToFour_0_13 l dC dI a kA t _ M2 L (0 : Int32) _ h) (cwl_X6_434_X6 hu ⟨by decide, by decide⟩) (cppre (ci := 5) hK hE hsz hI rfl rfl) rfl rfl hl.1 rfl (lv_room (Nat.le_of_ble_eq_true rfl)) dX6_bodyFromSix_34 ⟨by decide, by decide⟩) (fun M3 H locs h hI => ?_)
  exact cpvret (Z := (fun M' L' => L' = L ∧ Z M')) hx hb hr hlocks hK hI dX6_bodyFromSix_37 ⟨rfl, h⟩

abbrev rm_X6_entry_t3 : Room := { frames := 0, cells := 0, slots := 0, locals := 0 }
abbrev av_X6_entry_t3 (a t : Nat → Nat) (p1 : Int64) : List Value := [.ref (t 3), .long p1]
abbrev qc_X6_entry_t3 (dC : Nat → ClassId) (dI : Nat → Nat → Nat) (a : Nat → Nat) (kA : Nat → ClassId) (sz : Nat) (M : cM) (L : cL) (Z : Int32 → Prop) : Array Value → State → Outcome → State → Prop := va_Qi (fun r (u : cM × cL) => u.1 = M ∧ u.2 = L ∧ Z r) (cpAt dC dI a kA (cpA a sz)) (cpA a sz)
set_option maxHeartbeats 4000000 in
set_option maxRecDepth 100000 in
theorem met_X6_entry_t3 (l : Launch) (dC : Nat → ClassId) (dI : Nat → Nat → Nat) (a : Nat → Nat) (kA : Nat → ClassId) (t : Nat → Nat) (sz : Nat) (M : cM) (L : cL) (p1 : Int64) (Z : Int32 → Prop) (h : wp_X6_entry_t3 M L p1 Z) : Met l yX6_entry (Cond.code yX6_entry cX6_entry 3 (some .int) :: uW) rm_X6_entry_t3 (va_Pc (av_X6_entry_t3 a t p1) (cpPre dC dI a kA t M L sz)) (qc_X6_entry_t3 dC dI a kA sz M L Z) 0 0 (cpA a sz) := by
  refine cpenter (cc := cX6_entry) (n := 3) (ret := (some .int)) (by decide) rfl (Nat.le_of_ble_eq_true rfl) ?_
  intro p e s m below meth c ls hx hb hml hr hlocks hown hts hK hE hsz hI hl hmn
  have hu : ∀ w ∈ uW, w.before (av_X6_entry_t3 a t p1).toArray s = true := fun w h => hts w (List.mem_cons_of_mem _ h)
  have hown : s.vm.findClass RX6 = some m.cls := hown
  have hl : lv_has ls 3 [(0, .ref (t 3)), (1, .long p1)] := hl
  unfold wp_X6_entry_t3 at h
  refine lv_lload_n hx hb dX6_entry_0 rfl (lv_at hl 1 rfl) ?_
  refine lv_lconst (v := (0 : Int64)) hx hb dX6_entry_1 (by decide) ?_
  refine W.lcmp hx hb dX6_entry_2 ?_
  refine lv_if_lt (tgt := 21) hx hb dX6_entry_3 (by decide) (fun c1 => ?_) (fun c1 => ?_)
  · have h := h.1 c1
    refine lv_iconst (v := (-1 : Int32)) hx hb dX6_entry_21 (by decide) ?_
    exact cpiret (Z := (fun r M' L' => M' = M ∧ L' = L ∧ Z r)) hx hb hr hlocks hK hI dX6_entry_22 ⟨rfl, rfl, h⟩
  · have h := h.2 c1
    refine lv_lload_n hx hb dX6_entry_6 rfl (lv_at hl 1 rfl) ?_
    refine lv_aload_n hx hb dX6_entry_7 rfl (lv_at hl 0 rfl) ?_
    refine va_tlen (v := (5 : Int32)) hx hb hE.2.2.2.2.1.2 hI.2.2 (by decide) dX6_entry_8 ?_
    refine lv_i2l hx hb dX6_entry_9 rfl ?_
    refine W.lcmp hx hb dX6_entry_10 ?_
    refine lv_if_ge (tgt := 21) hx hb dX6_entry_11 (by decide) (fun c2 => ?_) (fun c2 => ?_)
    · have h := h.1 c2
      refine lv_iconst (v := (-1 : Int32)) hx hb dX6_entry_21 (by decide) ?_
      exact cpiret (Z := (fun r M' L' => M' = M ∧ L' = L ∧ Z r)) hx hb hr hlocks hK hI dX6_entry_22 ⟨rfl, rfl, h⟩
    · have h := h.2 c2
      refine lv_aload_n hx hb dX6_entry_14 rfl (lv_at hl 0 rfl) ?_
      refine lv_lload_n hx hb dX6_entry_15 rfl (lv_at hl 1 rfl) ?_
      refine lv_l2i hx hb dX6_entry_16 rfl ?_
      refine va_ti hx hb hE.2.2.2.2.1.2 hI.2.2 h.1 rfl dX6_entry_17 ?_
      have h := h.2
      refine lv_goto (tgt := 22) hx hb dX6_entry_18 (by decide) ?_
      exact cpiret (Z := (fun r M' L' => M' = M ∧ L' = L ∧ Z r)) hx hb hr hlocks hK hI dX6_entry_22 ⟨rfl, rfl, h⟩

abbrev rm_X6_errorToFour : Room := { frames := 1, cells := 0, slots := 0, locals := 22 }
abbrev av_X6_errorToFour (a t : Nat → Nat) (p0 : Int32) (p1 : Int32) : List Value := [.int p0, .int p1]
abbrev qc_X6_errorToFour (dC : Nat → ClassId) (dI : Nat → Nat → Nat) (a : Nat → Nat) (kA : Nat → ClassId) (sz : Nat) (M : cM) (L : cL) (Z : Int32 → Prop) : Array Value → State → Outcome → State → Prop := va_Qi (fun r (u : cM × cL) => u.1 = M ∧ u.2 = L ∧ Z r) (cpAt dC dI a kA (cpA a sz)) (cpA a sz)
set_option maxHeartbeats 4000000 in
set_option maxRecDepth 100000 in
theorem met_X6_errorToFour (l : Launch) (dC : Nat → ClassId) (dI : Nat → Nat → Nat) (a : Nat → Nat) (kA : Nat → ClassId) (t : Nat → Nat) (sz : Nat) (M : cM) (L : cL) (p0 : Int32) (p1 : Int32) (Z : Int32 → Prop) (h : wp_X6_errorToFour M L p0 p1 Z) : Met l yX6_errorToFour (Cond.code yX6_errorToFour cX6_errorToFour 2 (some .int) :: uW) rm_X6_errorToFour (va_Pc (av_X6_errorToFour a t p0 p1) (cpPre dC dI a kA t M L sz)) (qc_X6_errorToFour dC dI a kA sz M L Z) 0 0 (cpA a sz) := by
  refine cpenter (cc := cX6_errorToFour) (n := 2) (ret := (some .int)) (by decide) rfl (Nat.le_of_ble_eq_true rfl) ?_
  intro p e s m below meth c ls hx hb hml hr hlocks hown hts hK hE hsz hI hl hmn
  have hu : ∀ w ∈ uW, w.before (av_X6_errorToFour a t p0 p1).toArray s = true := fun w h => hts w (List.mem_cons_of_mem _ h)
  have hown : s.vm.findClass RX6 = some m.cls := hown
  have hl : lv_has ls 2 [(0, .int p0), (1, .int p1)] := hl
  unfold wp_X6_errorToFour at h
  refine lv_iload_n hx hb dX6_errorToFour_0 rfl (lv_at hl 0 rfl) ?_
  by_cases c1_0 : p0 = (1 : Int32)
  · have h := h.1 c1_0
    refine lv_tableIn (off := 27) (tgt := 28) hx hb dX6_errorToFour_1 (by rw [c1_0]; decide) (by rw [c1_0]; decide) (by rw [c1_0]; rfl) (by decide) ?_
    refine va_gets hx hb hE.2.2.2.2.1.1 hI.2.2 hown (hu _ uww_469) (fun _ h9 => h9) dX6_errorToFour_28 ?_
    refine lv_iload_n hx hb dX6_errorToFour_31 rfl (lv_at hl 1 rfl) ?_
    refine lv_i2l hx hb dX6_errorToFour_32 rfl ?_
    refine cpcalli_p hsz hI (va_runS (As := [.ref (t 3), .long (p1.toInt64)]) (rest := []) ⟨hx, hb, hml, hown, hu⟩ (met_X6_entry_t3 l dC dI a kA t _ M L (p1.toInt64) _ h) (cwl_X6_340_S hu ⟨by decide, by decide⟩) (cppreS hK hE hsz hI) rfl rfl hl.1 rfl (lv_room (Nat.le_of_ble_eq_true rfl)) dX6_errorToFour_33 ⟨by decide, by decide⟩) (fun r1 H locs h hI => ?_)
    exact cpiret (Z := (fun r M' L' => M' = M ∧ L' = L ∧ Z r)) hx hb hr hlocks hK hI dX6_errorToFour_36 ⟨rfl, rfl, h⟩
  · have h := h.2 c1_0
    by_cases c1_1 : p0 = (2 : Int32)
    · have h := h.1 c1_1
      refine lv_tableIn (off := 36) (tgt := 37) hx hb dX6_errorToFour_1 (by rw [c1_1]; decide) (by rw [c1_1]; decide) (by rw [c1_1]; rfl) (by decide) ?_
      refine lv_sipush (v := (772 : Int32)) hx hb dX6_errorToFour_37 (by decide) ?_
      exact cpiret (Z := (fun r M' L' => M' = M ∧ L' = L ∧ Z r)) hx hb hr hlocks hK hI dX6_errorToFour_40 ⟨rfl, rfl, h⟩
    · have h := h.2 c1_1
      by_cases c1_2 : p0 = (3 : Int32)
      · have h := h.1 c1_2
        refine lv_tableIn (off := 40) (tgt := 41) hx hb dX6_errorToFour_1 (by rw [c1_2]; decide) (by rw [c1_2]; decide) (by rw [c1_2]; rfl) (by decide) ?_
        refine lv_sipush (v := (2816 : Int32)) hx hb dX6_errorToFour_41 (by decide) ?_
        refine lv_iload_n hx hb dX6_errorToFour_44 rfl (lv_at hl 1 rfl) ?_
        refine lv_ior hx hb dX6_errorToFour_45 ?_
        exact cpiret (Z := (fun r M' L' => M' = M ∧ L' = L ∧ Z r)) hx hb hr hlocks hK hI dX6_errorToFour_46 ⟨rfl, rfl, h⟩
      · have h := h.2 c1_2
        have nc1_0 := lv_neT (a := 1) c1_0 (by decide)
        have nc1_1 := lv_neT (a := 2) c1_1 (by decide)
        have nc1_2 := lv_neT (a := 3) c1_2 (by decide)
        refine lv_tableOut (tgt := 47) hx hb dX6_errorToFour_1 (by omega) (by decide) ?_
        refine lv_iload_n hx hb dX6_errorToFour_47 rfl (lv_at hl 1 rfl) ?_
        refine lv_if_ne (tgt := 57) hx hb dX6_errorToFour_48 (by decide) (fun c2 => ?_) (fun c2 => ?_)
        · have h := h.1 c2
          refine lv_iload_n hx hb dX6_errorToFour_57 rfl (lv_at hl 1 rfl) ?_
          refine lv_iconst (v := (1 : Int32)) hx hb dX6_errorToFour_58 (by decide) ?_
          refine lv_icmp_ne (tgt := 68) hx hb dX6_errorToFour_59 (by decide) (fun c3 => ?_) (fun c3 => ?_)
          · have h := h.1 c3
            refine lv_iconst (v := (-1 : Int32)) hx hb dX6_errorToFour_68 (by decide) ?_
            exact cpiret (Z := (fun r M' L' => M' = M ∧ L' = L ∧ Z r)) hx hb hr hlocks hK hI dX6_errorToFour_69 ⟨rfl, rfl, h⟩
          · have h := h.2 c3
            refine lv_sipush (v := (770 : Int32)) hx hb dX6_errorToFour_62 (by decide) ?_
            refine lv_goto (tgt := 69) hx hb dX6_errorToFour_65 (by decide) ?_
            exact cpiret (Z := (fun r M' L' => M' = M ∧ L' = L ∧ Z r)) hx hb hr hlocks hK hI dX6_errorToFour_69 ⟨rfl, rfl, h⟩
        · have h := h.2 c2
          refine lv_sipush (v := (3072 : Int32)) hx hb dX6_errorToFour_51 (by decide) ?_
          refine lv_goto (tgt := 69) hx hb dX6_errorToFour_54 (by decide) ?_
          exact cpiret (Z := (fun r M' L' => M' = M ∧ L' = L ∧ Z r)) hx hb hr hlocks hK hI dX6_errorToFour_69 ⟨rfl, rfl, h⟩

abbrev rm_X5_forgetHeaders_14 : Room := { frames := 0, cells := 0, slots := 0, locals := 0 }
abbrev av_X5_forgetHeaders_14 (a t : Nat → Nat)  : List Value := [.ref (a 14)]
abbrev qc_X5_forgetHeaders_14 (dC : Nat → ClassId) (dI : Nat → Nat → Nat) (a : Nat → Nat) (kA : Nat → ClassId) (sz : Nat) (M : cM) (L : cL) (Z : cM → Prop) : Array Value → State → Outcome → State → Prop := va_Qv (fun (u : cM × cL) => u.2 = L ∧ Z u.1) (cpAt dC dI a kA (cpA a sz)) (cpA a sz)
set_option maxHeartbeats 4000000 in
set_option maxRecDepth 100000 in
theorem met_X5_forgetHeaders_14 (l : Launch) (dC : Nat → ClassId) (dI : Nat → Nat → Nat) (a : Nat → Nat) (kA : Nat → ClassId) (t : Nat → Nat) (sz : Nat) (M : cM) (L : cL)  (Z : cM → Prop) (h : wp_X5_forgetHeaders_14 M L  Z) : Met l yX5_forgetHeaders (Cond.code yX5_forgetHeaders cX5_forgetHeaders 1 none :: uW) rm_X5_forgetHeaders_14 (va_Pc (av_X5_forgetHeaders_14 a t ) (cpPre dC dI a kA t M L sz)) (qc_X5_forgetHeaders_14 dC dI a kA sz M L Z) 0 0 (cpA a sz) := by
  refine cpenter (cc := cX5_forgetHeaders) (n := 1) (ret := none) (by decide) rfl (Nat.le_of_ble_eq_true rfl) ?_
  intro p e s m below meth c ls hx hb hml hr hlocks hown hts hK hE hsz hI hl hmn
  have hu : ∀ w ∈ uW, w.before (av_X5_forgetHeaders_14 a t ).toArray s = true := fun w h => hts w (List.mem_cons_of_mem _ h)
  have hown : s.vm.findClass RX5 = some m.cls := hown
  have hl : lv_has ls 1 [(0, .ref (a 14))] := hl
  unfold wp_X5_forgetHeaders_14 at h
  refine lv_aload_n hx hb dX5_forgetHeaders_0 rfl (lv_at hl 0 rfl) ?_
  refine lv_iconst (v := (0 : Int32)) hx hb dX5_forgetHeaders_1 (by decide) ?_
  refine cpput (ci := 4) (C := RX5) (T := TX5) (N := 16) (ty := .boolean) hx hb hu uX5 tyX5 tyX5_ok nmX5 hown hK hI 14 rfl rfl 14 (by decide) (hu _ uww_180) (fun _ h9 => h9) rfl (by decide +kernel) isB_0.1 isB_0.2 (Nat.le_of_ble_eq_true rfl) (cpset_14_14 _ _ _ _ _) dX5_forgetHeaders_2 (fun H locs M1 eM1 hI => ?_)
  have h := h M1 eM1
  refine lv_aload_n hx hb dX5_forgetHeaders_5 rfl (lv_at hl 0 rfl) ?_
  refine lv_iconst (v := (0 : Int32)) hx hb dX5_forgetHeaders_6 (by decide) ?_
  refine cpput (ci := 4) (C := RX5) (T := TX5) (N := 16) (ty := .boolean) hx hb hu uX5 tyX5 tyX5_ok nmX5 hown hK hI 14 rfl rfl 5 (by decide) (hu _ uww_149) (u_same (hu _ uww_150)) rfl (by decide +kernel) isB_0.1 isB_0.2 (Nat.le_of_ble_eq_true rfl) (cpset_14_5 _ _ _ _ _) dX5_forgetHeaders_7 (fun H locs M2 eM2 hI => ?_)
  have h := h M2 eM2
  refine lv_aload_n hx hb dX5_forgetHeaders_10 rfl (lv_at hl 0 rfl) ?_
  refine lv_iconst (v := (0 : Int32)) hx hb dX5_forgetHeaders_11 (by decide) ?_
  refine cpput (ci := 4) (C := RX5) (T := TX5) (N := 16) (ty := .int) hx hb hu uX5 tyX5 tyX5_ok nmX5 hown hK hI 14 rfl rfl 6 (by decide) (hu _ uww_178) (u_same (hu _ uww_179)) rfl (by decide +kernel) rfl rfl (Nat.le_of_ble_eq_true rfl) (cpset_14_6 _ _ _ _ _) dX5_forgetHeaders_12 (fun H locs M3 eM3 hI => ?_)
  have h := h M3 eM3
  refine lv_aload_n hx hb dX5_forgetHeaders_15 rfl (lv_at hl 0 rfl) ?_
  refine lv_iconst (v := (0 : Int32)) hx hb dX5_forgetHeaders_16 (by decide) ?_
  refine cpput (ci := 4) (C := RX5) (T := TX5) (N := 16) (ty := .int) hx hb hu uX5 tyX5 tyX5_ok nmX5 hown hK hI 14 rfl rfl 4 (by decide) (hu _ uww_188) (u_same (hu _ uww_189)) rfl (by decide +kernel) rfl rfl (Nat.le_of_ble_eq_true rfl) (cpset_14_4 _ _ _ _ _) dX5_forgetHeaders_17 (fun H locs M4 eM4 hI => ?_)
  have h := h M4 eM4
  refine lv_aload_n hx hb dX5_forgetHeaders_20 rfl (lv_at hl 0 rfl) ?_
  refine lv_iconst (v := (-1 : Int32)) hx hb dX5_forgetHeaders_21 (by decide) ?_
  refine cpput (ci := 4) (C := RX5) (T := TX5) (N := 16) (ty := .int) hx hb hu uX5 tyX5 tyX5_ok nmX5 hown hK hI 14 rfl rfl 15 (by decide) (hu _ uww_181) (fun _ h9 => h9) rfl (by decide +kernel) rfl rfl (Nat.le_of_ble_eq_true rfl) (cpset_14_15 _ _ _ _ _) dX5_forgetHeaders_22 (fun H locs M5 eM5 hI => ?_)
  have h := h M5 eM5
  exact cpvret (Z := (fun M' L' => L' = L ∧ Z M')) hx hb hr hlocks hK hI dX5_forgetHeaders_25 ⟨rfl, h⟩

abbrev rm_X5_readFragmentHeader_14_1 : Room := { frames := 1, cells := 0, slots := 0, locals := 21 }
abbrev av_X5_readFragmentHeader_14_1 (a t : Nat → Nat) (p2 : Int32) : List Value := [.ref (a 14), .ref (a 1), .int p2]
abbrev qc_X5_readFragmentHeader_14_1 (dC : Nat → ClassId) (dI : Nat → Nat → Nat) (a : Nat → Nat) (kA : Nat → ClassId) (sz : Nat) (M : cM) (L : cL) (Z : cM → Prop) : Array Value → State → Outcome → State → Prop := va_Qv (fun (u : cM × cL) => u.2 = L ∧ Z u.1) (cpAt dC dI a kA (cpA a sz)) (cpA a sz)
set_option maxHeartbeats 4000000 in
set_option maxRecDepth 100000 in
theorem met_X5_readFragmentHeader_14_1 (l : Launch) (dC : Nat → ClassId) (dI : Nat → Nat → Nat) (a : Nat → Nat) (kA : Nat → ClassId) (t : Nat → Nat) (sz : Nat) (M : cM) (L : cL) (p2 : Int32) (Z : cM → Prop) (h : wp_X5_readFragmentHeader_14_1 M L p2 Z) : Met l yX5_readFragmentHeader (Cond.code yX5_readFragmentHeader cX5_readFragmentHeader 4 none :: uW) rm_X5_readFragmentHeader_14_1 (va_Pc (av_X5_readFragmentHeader_14_1 a t p2) (cpPre dC dI a kA t M L sz)) (qc_X5_readFragmentHeader_14_1 dC dI a kA sz M L Z) 0 0 (cpA a sz) := by
  refine cpenter (cc := cX5_readFragmentHeader) (n := 4) (ret := none) (by decide) rfl (Nat.le_of_ble_eq_true rfl) ?_
  intro p e s m below meth c ls hx hb hml hr hlocks hown hts hK hE hsz hI hl hmn
  have hu : ∀ w ∈ uW, w.before (av_X5_readFragmentHeader_14_1 a t p2).toArray s = true := fun w h => hts w (List.mem_cons_of_mem _ h)
  have hown : s.vm.findClass RX5 = some m.cls := hown
  have hl : lv_has ls 4 [(0, .ref (a 14)), (1, .ref (a 1)), (2, .int p2)] := hl
  unfold wp_X5_readFragmentHeader_14_1 at h
  refine lv_aload_n hx hb dX5_readFragmentHeader_0 rfl (lv_at hl 0 rfl) ?_
  refine lv_iconst (v := (1 : Int32)) hx hb dX5_readFragmentHeader_1 (by decide) ?_
  refine cpput (ci := 4) (C := RX5) (T := TX5) (N := 16) (ty := .boolean) hx hb hu uX5 tyX5 tyX5_ok nmX5 hown hK hI 14 rfl rfl 14 (by decide) (hu _ uww_180) (fun _ h9 => h9) rfl (by decide +kernel) isB_1.1 isB_1.2 (Nat.le_of_ble_eq_true rfl) (cpset_14_14 _ _ _ _ _) dX5_readFragmentHeader_2 (fun H locs M1 eM1 hI => ?_)
  have h := h M1 eM1
  refine lv_aload_n hx hb dX5_readFragmentHeader_5 rfl (lv_at hl 1 rfl) ?_
  refine lv_iload_n hx hb dX5_readFragmentHeader_6 rfl (lv_at hl 2 rfl) ?_
  refine lv_iconst (v := (2 : Int32)) hx hb dX5_readFragmentHeader_7 (by decide) ?_
  refine lv_iadd hx hb dX5_readFragmentHeader_8 ?_
  refine cpcalli_p hsz hI (va_runV (As := [.int (p2 + (2 : Int32))]) (rest := []) ⟨hx, hb, hml, hown, hu⟩ (met_X4_word_1 l dC dI a kA t _ M1 L (p2 + (2 : Int32)) _ h) (cwl_X5_15_X4 hu ⟨by decide, by decide⟩) (cppre (ci := 3) hK hE hsz hI rfl rfl) rfl rfl hl.1 rfl (lv_room (Nat.le_of_ble_eq_true rfl)) dX5_readFragmentHeader_9 ⟨by decide, by decide⟩) (fun r2 H locs h hI => ?_)
  refine lv_istore_n (lv' := [(3, .int r2), (0, .ref (a 14)), (1, .ref (a 1)), (2, .int p2)]) hx hb dX5_readFragmentHeader_12 rfl hl (by decide) rfl (fun ls hl => ?_)
  refine lv_aload_n hx hb dX5_readFragmentHeader_13 rfl (lv_at hl 1 rfl) ?_
  refine lv_iload_n hx hb dX5_readFragmentHeader_14 rfl (lv_at hl 0 rfl) ?_
  refine lv_iconst (v := (3 : Int32)) hx hb dX5_readFragmentHeader_15 (by decide) ?_
  refine lv_ishr hx hb dX5_readFragmentHeader_16 ?_
  refine cpput (ci := 4) (C := RX5) (T := TX5) (N := 16) (ty := .int) hx hb hu uX5 tyX5 tyX5_ok nmX5 hown hK hI 14 rfl rfl 6 (by decide) (hu _ uww_178) (u_same (hu _ uww_179)) rfl (by decide +kernel) rfl rfl (Nat.le_of_ble_eq_true rfl) (cpset_14_6 _ _ _ _ _) dX5_readFragmentHeader_17 (fun H locs M3 eM3 hI => ?_)
  have h := h M3 eM3
  refine lv_aload_n hx hb dX5_readFragmentHeader_20 rfl (lv_at hl 1 rfl) ?_
  refine lv_iload_n hx hb dX5_readFragmentHeader_21 rfl (lv_at hl 0 rfl) ?_
  refine lv_iconst (v := (1 : Int32)) hx hb dX5_readFragmentHeader_22 (by decide) ?_
  refine lv_iand hx hb dX5_readFragmentHeader_23 ?_
  obtain ⟨K32, hK32, h⟩ := h
  have J32 : ∀ (v4 : Int32) (H : Heap) (locs : List Loc) (ls : Array Slot), K32 v4 → cpI dC dI a kA (cpA a sz) s M3 L H locs → lv_has ls 4 [(0, .ref (a 14)), (1, .ref (a 1)), (2, .int p2)] → W p l e rm_X5_readFragmentHeader_14_1 s m (av_X5_readFragmentHeader_14_1 a t p2).toArray below meth c H locs 0 0 (MQ below (qc_X5_readFragmentHeader_14_1 dC dI a kA sz M L Z) (av_X5_readFragmentHeader_14_1 a t p2).toArray s 0 0 (cpA a sz)) (F0 m 32 ls [.int v4, .ref (a 14)]) := by
    intro v4 H locs ls h hI hl
    have h := hK32 v4 h
    refine cpput (ci := 4) (C := RX5) (T := TX5) (N := 16) (ty := .boolean) hx hb hu uX5 tyX5 tyX5_ok nmX5 hown hK hI 14 rfl rfl 5 (by decide) (hu _ uww_149) (u_same (hu _ uww_150)) rfl (by decide +kernel) h.1.1 h.1.2 (Nat.le_of_ble_eq_true rfl) (cpset_14_5 _ _ _ _ _) dX5_readFragmentHeader_32 (fun H locs M5 eM5 hI => ?_)
    have h := h.2 M5 eM5
    refine lv_aload_n hx hb dX5_readFragmentHeader_35 rfl (lv_at hl 0 rfl) ?_
    refine lv_aload_n hx hb dX5_readFragmentHeader_36 rfl (lv_at hl 1 rfl) ?_
    refine lv_iload_n hx hb dX5_readFragmentHeader_37 rfl (lv_at hl 2 rfl) ?_
    refine lv_bipush (v := (6 : Int32)) hx hb dX5_readFragmentHeader_38 (by decide) ?_
    refine lv_iadd hx hb dX5_readFragmentHeader_40 ?_
    refine cpcalli_p hsz hI (va_runV (As := [.int (p2 + (6 : Int32))]) (rest := [.ref (a 14)]) ⟨hx, hb, hml, hown, hu⟩ (met_X4_word_1 l dC dI a kA t _ M5 L (p2 + (6 : Int32)) _ h) (cwl_X5_15_X4 hu ⟨by decide, by decide⟩) (cppre (ci := 3) hK hE hsz hI rfl rfl) rfl rfl hl.1 rfl (lv_room (Nat.le_of_ble_eq_true rfl)) dX5_readFragmentHeader_41 ⟨by decide, by decide⟩) (fun r6 H locs h hI => ?_)
    refine cpput (ci := 4) (C := RX5) (T := TX5) (N := 16) (ty := .int) hx hb hu uX5 tyX5 tyX5_ok nmX5 hown hK hI 14 rfl rfl 4 (by decide) (hu _ uww_188) (u_same (hu _ uww_189)) rfl (by decide +kernel) rfl rfl (Nat.le_of_ble_eq_true rfl) (cpset_14_4 _ _ _ _ _) dX5_readFragmentHeader_44 (fun H locs M7 eM7 hI => ?_)
    have h := h M7 eM7
    exact cpvret (Z := (fun M' L' => L' = L ∧ Z M')) hx hb hr hlocks hK hI dX5_readFragmentHeader_47 ⟨rfl, h⟩
  refine lv_if_eq (tgt := 31) hx hb dX5_readFragmentHeader_24 (by decide) (fun c8 => ?_) (fun c8 => ?_)
  · have h := h.1 c8
    refine lv_iconst (v := (0 : Int32)) hx hb dX5_readFragmentHeader_31 (by decide) ?_
    exact J32 (0 : Int32) _ _ _ h hI (lv_sub hl [1, 2, 3] rfl)
  · have h := h.2 c8
    refine lv_iconst (v := (1 : Int32)) hx hb dX5_readFragmentHeader_27 (by decide) ?_
    refine lv_goto (tgt := 32) hx hb dX5_readFragmentHeader_28 (by decide) ?_
    exact J32 (1 : Int32) _ _ _ h hI (lv_sub hl [1, 2, 3] rfl)

abbrev rm_X5_readHeaders_14_1 : Room := { frames := 2, cells := 0, slots := 0, locals := 44 }
abbrev av_X5_readHeaders_14_1 (a t : Nat → Nat) (p2 : Int32) : List Value := [.ref (a 14), .ref (a 1), .int p2]
abbrev qc_X5_readHeaders_14_1 (dC : Nat → ClassId) (dI : Nat → Nat → Nat) (a : Nat → Nat) (kA : Nat → ClassId) (sz : Nat) (M : cM) (L : cL) (Z : Int32 → cM → Prop) : Array Value → State → Outcome → State → Prop := va_Qi (fun r (u : cM × cL) => u.2 = L ∧ Z r u.1) (cpAt dC dI a kA (cpA a sz)) (cpA a sz)
set_option maxHeartbeats 4000000 in
set_option maxRecDepth 100000 in
theorem met_X5_readHeaders_14_1 (l : Launch) (dC : Nat → ClassId) (dI : Nat → Nat → Nat) (a : Nat → Nat) (kA : Nat → ClassId) (t : Nat → Nat) (sz : Nat) (M : cM) (L : cL) (p2 : Int32) (Z : Int32 → cM → Prop) (h : wp_X5_readHeaders_14_1 M L p2 Z) : Met l yX5_readHeaders (Cond.code yX5_readHeaders cX5_readHeaders 7 (some .boolean) :: uW) rm_X5_readHeaders_14_1 (va_Pc (av_X5_readHeaders_14_1 a t p2) (cpPre dC dI a kA t M L sz)) (qc_X5_readHeaders_14_1 dC dI a kA sz M L Z) 0 0 (cpA a sz) := by
  refine cpenter (cc := cX5_readHeaders) (n := 7) (ret := (some .boolean)) (by decide) rfl (Nat.le_of_ble_eq_true rfl) ?_
  intro p e s m below meth c ls hx hb hml hr hlocks hown hts hK hE hsz hI hl hmn
  have hu : ∀ w ∈ uW, w.before (av_X5_readHeaders_14_1 a t p2).toArray s = true := fun w h => hts w (List.mem_cons_of_mem _ h)
  have hown : s.vm.findClass RX5 = some m.cls := hown
  have hl : lv_has ls 7 [(0, .ref (a 14)), (1, .ref (a 1)), (2, .int p2)] := hl
  unfold wp_X5_readHeaders_14_1 at h
  refine lv_aload_n hx hb dX5_readHeaders_0 rfl (lv_at hl 1 rfl) ?_
  refine lv_aload_n hx hb dX5_readHeaders_1 rfl (lv_at hl 0 rfl) ?_
  refine va_get (D := (dC, dI)) (ci := 4) (v := .int (M 14 0)) (C := RX5) (T := TX5) (N := 16) hx hb hu uX5 hown hK hI.1 14 rfl rfl 0 (by decide) (hu _ uww_159) (u_same (hu _ uww_160)) rfl dX5_readHeaders_2 ?_
  refine lv_bipush (v := (6 : Int32)) hx hb dX5_readHeaders_5 (by decide) ?_
  refine lv_iadd hx hb dX5_readHeaders_7 ?_
  refine cpcalli_p hsz hI (va_runV (As := [.int ((M 14 0) + (6 : Int32))]) (rest := []) ⟨hx, hb, hml, hown, hu⟩ (met_X4_at_1 l dC dI a kA t _ M L ((M 14 0) + (6 : Int32)) _ h) (cwl_X5_34_X4 hu ⟨by decide, by decide⟩) (cppre (ci := 3) hK hE hsz hI rfl rfl) rfl rfl hl.1 rfl (lv_room (Nat.le_of_ble_eq_true rfl)) dX5_readHeaders_8 ⟨by decide, by decide⟩) (fun r1 H locs h hI => ?_)
  refine lv_istore_n (lv' := [(3, .int r1), (0, .ref (a 14)), (1, .ref (a 1)), (2, .int p2)]) hx hb dX5_readHeaders_11 rfl hl (by decide) rfl (fun ls hl => ?_)
  refine lv_aload_n hx hb dX5_readHeaders_12 rfl (lv_at hl 1 rfl) ?_
  refine va_get (D := (dC, dI)) (ci := 4) (v := .int (M 14 0)) (C := RX5) (T := TX5) (N := 16) hx hb hu uX5 hown hK hI.1 14 rfl rfl 0 (by decide) (hu _ uww_159) (u_same (hu _ uww_160)) rfl dX5_readHeaders_13 ?_
  refine lv_bipush (v := (40 : Int32)) hx hb dX5_readHeaders_16 (by decide) ?_
  refine lv_iadd hx hb dX5_readHeaders_18 ?_
  refine lv_topi (fun x2 ex2 => ?_)
  have h := h x2 ex2
  refine lv_istore (lv' := [(4, .int x2), (3, .int r1), (0, .ref (a 14)), (1, .ref (a 1)), (2, .int p2)]) hx hb dX5_readHeaders_19 hl (by decide) rfl (fun ls hl => ?_)
  refine lv_aload_n hx hb dX5_readHeaders_21 rfl (lv_at hl 2 rfl) ?_
  refine cpcallv_m hsz hI (va_runV (As := []) (rest := []) ⟨hx, hb, hml, hown, hu⟩ (met_X5_forgetHeaders_14 l dC dI a kA t _ M L  _ h) (cwl_X5_69_X5 hu ⟨by decide, by decide⟩) (cppre (ci := 4) hK hE hsz hI rfl rfl) rfl rfl hl.1 rfl (lv_room (Nat.le_of_ble_eq_true rfl)) dX5_readHeaders_22 ⟨by decide, by decide⟩) (fun M3 H locs h hI => ?_)
  refine lv_iconst (v := (0 : Int32)) hx hb dX5_readHeaders_25 (by decide) ?_
  refine lv_istore (lv' := [(5, .int (0 : Int32)), (4, .int x2), (3, .int r1), (0, .ref (a 14)), (1, .ref (a 1)), (2, .int p2)]) hx hb dX5_readHeaders_26 hl (by decide) rfl (fun ls hl => ?_)
  obtain ⟨I28, m28, h, hs28⟩ := h
  have P28 : ∀ (n28 : Nat) (x4 : Int32) (x5 : Int32) (x6 : Int32) (M7 : cM) (H : Heap) (locs : List Loc) (ls : Array Slot), I28 x4 x5 x6 M7 → m28 x4 x5 x6 M7 < n28 → cpI dC dI a kA (cpA a sz) s M7 L H locs → lv_has ls 7 [(0, .ref (a 14)), (1, .ref (a 1)), (2, .int p2), (3, .int x4), (4, .int x5), (5, .int x6)] → W p l e rm_X5_readHeaders_14_1 s m (av_X5_readHeaders_14_1 a t p2).toArray below meth c H locs 0 0 (MQ below (qc_X5_readHeaders_14_1 dC dI a kA sz M L Z) (av_X5_readHeaders_14_1 a t p2).toArray s 0 0 (cpA a sz)) (F0 m 28 ls []) := by
    intro n28
    induction n28 with
    | zero => intro x4 x5 x6 M7 H locs ls _ hn; exact absurd hn (Nat.not_lt_zero _)
    | succ n28 ih28 =>
      intro x4 x5 x6 M7 H locs ls h hn28 hI hl
      have h := hs28 x4 x5 x6 M7 h
      refine lv_iload hx hb dX5_readHeaders_28 (lv_at hl 5 rfl) ?_
      refine lv_sipush (v := (300 : Int32)) hx hb dX5_readHeaders_30 (by decide) ?_
      obtain ⟨K172, hK172, h⟩ := h
      have J172 : ∀  (H : Heap) (locs : List Loc) (ls : Array Slot), K172  → cpI dC dI a kA (cpA a sz) s M7 L H locs → lv_has ls 7 [(0, .ref (a 14)), (3, .int x4), (4, .int x5)] → W p l e rm_X5_readHeaders_14_1 s m (av_X5_readHeaders_14_1 a t p2).toArray below meth c H locs 0 0 (MQ below (qc_X5_readHeaders_14_1 dC dI a kA sz M L Z) (av_X5_readHeaders_14_1 a t p2).toArray s 0 0 (cpA a sz)) (F0 m 172 ls []) := by
        intro  H locs ls h hI hl
        have h := hK172  h
        refine lv_aload_n hx hb dX5_readHeaders_172 rfl (lv_at hl 0 rfl) ?_
        refine lv_iload_n hx hb dX5_readHeaders_173 rfl (lv_at hl 1 rfl) ?_
        refine cpput (ci := 4) (C := RX5) (T := TX5) (N := 16) (ty := .int) hx hb hu uX5 tyX5 tyX5_ok nmX5 hown hK hI 14 rfl rfl 3 (by decide) (hu _ uww_182) (u_same (hu _ uww_183)) rfl (by decide +kernel) rfl rfl (Nat.le_of_ble_eq_true rfl) (cpset_14_3 _ _ _ _ _) dX5_readHeaders_174 (fun H locs M8 eM8 hI => ?_)
        have h := h M8 eM8
        refine lv_aload_n hx hb dX5_readHeaders_177 rfl (lv_at hl 0 rfl) ?_
        refine lv_iload hx hb dX5_readHeaders_178 (lv_at hl 2 rfl) ?_
        refine cpput (ci := 4) (C := RX5) (T := TX5) (N := 16) (ty := .int) hx hb hu uX5 tyX5 tyX5_ok nmX5 hown hK hI 14 rfl rfl 7 (by decide) (hu _ uww_168) (u_same (hu _ uww_169)) rfl (by decide +kernel) rfl rfl (Nat.le_of_ble_eq_true rfl) (cpset_14_7 _ _ _ _ _) dX5_readHeaders_180 (fun H locs M9 eM9 hI => ?_)
        have h := h M9 eM9
        refine lv_iconst (v := (1 : Int32)) hx hb dX5_readHeaders_183 (by decide) ?_
        exact cpzret (Z := (fun r M' L' => L' = L ∧ Z r M')) hx hb hr hlocks hK hI dX5_readHeaders_184 ⟨isB_1, ⟨rfl, h⟩⟩
      refine lv_icmp_ge (tgt := 172) hx hb dX5_readHeaders_33 (by decide) (fun c10 => ?_) (fun c10 => ?_)
      · have h := h.1 c10
        exact J172  _ _ _ h hI (lv_sub hl [0, 3, 4] rfl)
      · have h := h.2 c10
        refine lv_iload_n hx hb dX5_readHeaders_36 rfl (lv_at hl 3 rfl) ?_
        refine cpcalli_p hsz hI (va_runS (As := [.int x4]) (rest := []) ⟨hx, hb, hml, hown, hu⟩ (met_X5_isHeader l dC dI a kA t _ M7 L x4 _ h) (cwl_X5_72_S hu ⟨by decide, by decide⟩) (cppreS hK hE hsz hI) rfl rfl hl.1 rfl (lv_room (Nat.le_of_ble_eq_true rfl)) dX5_readHeaders_37 ⟨by decide, by decide⟩) (fun r11 H locs h hI => ?_)
        refine lv_if_eq (tgt := 172) hx hb dX5_readHeaders_40 (by decide) (fun c12 => ?_) (fun c12 => ?_)
        · have h := h.1 c12
          exact J172  _ _ _ h hI (lv_sub hl [0, 3, 4] rfl)
        · have h := h.2 c12
          refine lv_aload_n hx hb dX5_readHeaders_43 rfl (lv_at hl 0 rfl) ?_
          refine va_get (D := (dC, dI)) (ci := 4) (v := .int (M7 14 6)) (C := RX5) (T := TX5) (N := 16) hx hb hu uX5 hown hK hI.1 14 rfl rfl 6 (by decide) (hu _ uww_178) (u_same (hu _ uww_179)) rfl dX5_readHeaders_44 ?_
          refine lv_if_ne (tgt := 172) hx hb dX5_readHeaders_47 (by decide) (fun c13 => ?_) (fun c13 => ?_)
          · have h := h.1 c13
            exact J172  _ _ _ h hI (lv_sub hl [0, 3, 4] rfl)
          · have h := h.2 c13
            refine lv_iload_n hx hb dX5_readHeaders_50 rfl (lv_at hl 3 rfl) ?_
            refine lv_bipush (v := (44 : Int32)) hx hb dX5_readHeaders_51 (by decide) ?_
            obtain ⟨K75, hK75, h⟩ := h
            have J75 : ∀ (v14 : Int32) (H : Heap) (locs : List Loc) (ls : Array Slot), K75 v14 → cpI dC dI a kA (cpA a sz) s M7 L H locs → lv_has ls 7 [(0, .ref (a 14)), (1, .ref (a 1)), (2, .int p2), (3, .int x4), (4, .int x5), (5, .int x6)] → W p l e rm_X5_readHeaders_14_1 s m (av_X5_readHeaders_14_1 a t p2).toArray below meth c H locs 0 0 (MQ below (qc_X5_readHeaders_14_1 dC dI a kA sz M L Z) (av_X5_readHeaders_14_1 a t p2).toArray s 0 0 (cpA a sz)) (F0 m 75 ls [.int v14]) := by
              intro v14 H locs ls h hI hl
              have h := hK75 v14 h
              refine lv_istore (lv' := [(6, .int v14), (0, .ref (a 14)), (1, .ref (a 1)), (2, .int p2), (3, .int x4), (4, .int x5), (5, .int x6)]) hx hb dX5_readHeaders_75 hl (by decide) rfl (fun ls hl => ?_)
              refine lv_iload hx hb dX5_readHeaders_77 (lv_at hl 5 rfl) ?_
              refine lv_iload hx hb dX5_readHeaders_79 (lv_at hl 0 rfl) ?_
              refine lv_iadd hx hb dX5_readHeaders_81 ?_
              refine lv_iload_n hx hb dX5_readHeaders_82 rfl (lv_at hl 3 rfl) ?_
              refine lv_icmp_gt (tgt := 99) hx hb dX5_readHeaders_83 (by decide) (fun c15 => ?_) (fun c15 => ?_)
              · have h := h.1 c15
                refine lv_iconst (v := (0 : Int32)) hx hb dX5_readHeaders_99 (by decide) ?_
                exact cpzret (Z := (fun r M' L' => L' = L ∧ Z r M')) hx hb hr hlocks hK hI dX5_readHeaders_100 ⟨isB_0, ⟨rfl, h⟩⟩
              · have h := h.2 c15
                refine lv_iload_n hx hb dX5_readHeaders_86 rfl (lv_at hl 4 rfl) ?_
                refine lv_bipush (v := (44 : Int32)) hx hb dX5_readHeaders_87 (by decide) ?_
                obtain ⟨K101, hK101, h⟩ := h
                have J101 : ∀  (H : Heap) (locs : List Loc) (ls : Array Slot), K101  → cpI dC dI a kA (cpA a sz) s M7 L H locs → lv_has ls 7 [(0, .ref (a 14)), (1, .ref (a 1)), (2, .int p2), (3, .int x4), (4, .int x5), (5, .int x6), (6, .int v14)] → W p l e rm_X5_readHeaders_14_1 s m (av_X5_readHeaders_14_1 a t p2).toArray below meth c H locs 0 0 (MQ below (qc_X5_readHeaders_14_1 dC dI a kA sz M L Z) (av_X5_readHeaders_14_1 a t p2).toArray s 0 0 (cpA a sz)) (F0 m 101 ls []) := by
                  intro  H locs ls h hI hl
                  have h := hK101  h
                  refine lv_iload_n hx hb dX5_readHeaders_101 rfl (lv_at hl 3 rfl) ?_
                  refine lv_bipush (v := (44 : Int32)) hx hb dX5_readHeaders_102 (by decide) ?_
                  obtain ⟨K114, hK114, h⟩ := h
                  have J114 : ∀ (M16 : cM) (H : Heap) (locs : List Loc) (ls : Array Slot), K114 M16 → cpI dC dI a kA (cpA a sz) s M16 L H locs → lv_has ls 7 [(0, .ref (a 14)), (1, .ref (a 1)), (2, .int p2), (3, .int x4), (4, .int x5), (5, .int x6), (6, .int v14)] → W p l e rm_X5_readHeaders_14_1 s m (av_X5_readHeaders_14_1 a t p2).toArray below meth c H locs 0 0 (MQ below (qc_X5_readHeaders_14_1 dC dI a kA sz M L Z) (av_X5_readHeaders_14_1 a t p2).toArray s 0 0 (cpA a sz)) (F0 m 114 ls []) := by
                    intro M16 H locs ls h hI hl
                    have h := hK114 M16 h
                    refine lv_iload_n hx hb dX5_readHeaders_114 rfl (lv_at hl 3 rfl) ?_
                    refine lv_bipush (v := (43 : Int32)) hx hb dX5_readHeaders_115 (by decide) ?_
                    obtain ⟨K152, hK152, h⟩ := h
                    have J152 : ∀ (M17 : cM) (H : Heap) (locs : List Loc) (ls : Array Slot), K152 M17 → cpI dC dI a kA (cpA a sz) s M17 L H locs → lv_has ls 7 [(0, .ref (a 14)), (1, .ref (a 1)), (2, .int p2), (4, .int x5), (5, .int x6), (6, .int v14)] → W p l e rm_X5_readHeaders_14_1 s m (av_X5_readHeaders_14_1 a t p2).toArray below meth c H locs 0 0 (MQ below (qc_X5_readHeaders_14_1 dC dI a kA sz M L Z) (av_X5_readHeaders_14_1 a t p2).toArray s 0 0 (cpA a sz)) (F0 m 152 ls []) := by
                      intro M17 H locs ls h hI hl
                      have h := hK152 M17 h
                      refine lv_aload_n hx hb dX5_readHeaders_152 rfl (lv_at hl 1 rfl) ?_
                      refine lv_iload hx hb dX5_readHeaders_153 (lv_at hl 3 rfl) ?_
                      refine cpcalli_p hsz hI (va_runV (As := [.int x5]) (rest := []) ⟨hx, hb, hml, hown, hu⟩ (met_X4_at_1 l dC dI a kA t _ M17 L x5 _ h) (cwl_X5_34_X4 hu ⟨by decide, by decide⟩) (cppre (ci := 3) hK hE hsz hI rfl rfl) rfl rfl hl.1 rfl (lv_room (Nat.le_of_ble_eq_true rfl)) dX5_readHeaders_155 ⟨by decide, by decide⟩) (fun r18 H locs h hI => ?_)
                      refine lv_istore_n (lv' := [(3, .int r18), (0, .ref (a 14)), (1, .ref (a 1)), (2, .int p2), (4, .int x5), (5, .int x6), (6, .int v14)]) hx hb dX5_readHeaders_158 rfl hl (by decide) rfl (fun ls hl => ?_)
                      refine lv_iload hx hb dX5_readHeaders_159 (lv_at hl 4 rfl) ?_
                      refine lv_iload hx hb dX5_readHeaders_161 (lv_at hl 6 rfl) ?_
                      refine lv_iadd hx hb dX5_readHeaders_163 ?_
                      refine lv_topi (fun x19 ex19 => ?_)
                      have h := h x19 ex19
                      refine lv_istore (lv' := [(4, .int x19), (3, .int r18), (0, .ref (a 14)), (1, .ref (a 1)), (2, .int p2), (5, .int x6), (6, .int v14)]) hx hb dX5_readHeaders_164 hl (by decide) rfl (fun ls hl => ?_)
                      obtain ⟨x20, ex20⟩ : ∃ y : Int32, y = (x6 + (1 : Int32)) := ⟨_, rfl⟩
                      have h := h x20 ex20
                      refine lv_iinc (v := x20) (lv' := [(5, .int x20), (4, .int x19), (3, .int r18), (0, .ref (a 14)), (1, .ref (a 1)), (2, .int p2), (6, .int v14)]) hx hb dX5_readHeaders_166 hl (k := 5) rfl (by rw [ex20]; rfl) (by decide) rfl (fun ls hl => ?_)
                      refine lv_goto (tgt := 28) hx hb dX5_readHeaders_169 (by decide) ?_
                      exact ih28 r18 x19 x20 M17 _ _ _ h.1 (Nat.lt_of_lt_of_le h.2 (Nat.le_of_lt_succ hn28)) hI (lv_sub hl [3, 4, 5, 2, 1, 0] rfl)
                    refine lv_icmp_ne (tgt := 152) hx hb dX5_readHeaders_117 (by decide) (fun c21 => ?_) (fun c21 => ?_)
                    · have h := h.1 c21
                      exact J152 M16 _ _ _ h hI (lv_sub hl [0, 1, 2, 4, 5, 6] rfl)
                    · have h := h.2 c21
                      refine lv_aload_n hx hb dX5_readHeaders_120 rfl (lv_at hl 0 rfl) ?_
                      refine va_get (D := (dC, dI)) (ci := 4) (v := .int (M16 14 15)) (C := RX5) (T := TX5) (N := 16) hx hb hu uX5 hown hK hI.1 14 rfl rfl 15 (by decide) (hu _ uww_181) (fun _ h9 => h9) rfl dX5_readHeaders_121 ?_
                      refine lv_iconst (v := (-1 : Int32)) hx hb dX5_readHeaders_124 (by decide) ?_
                      refine lv_icmp_ne (tgt := 152) hx hb dX5_readHeaders_125 (by decide) (fun c22 => ?_) (fun c22 => ?_)
                      · have h := h.1 c22
                        exact J152 M16 _ _ _ h hI (lv_sub hl [0, 1, 2, 4, 5, 6] rfl)
                      · have h := h.2 c22
                        refine lv_aload_n hx hb dX5_readHeaders_128 rfl (lv_at hl 1 rfl) ?_
                        refine lv_iload hx hb dX5_readHeaders_129 (lv_at hl 4 rfl) ?_
                        refine lv_iconst (v := (3 : Int32)) hx hb dX5_readHeaders_131 (by decide) ?_
                        refine lv_iadd hx hb dX5_readHeaders_132 ?_
                        refine cpcalli_p hsz hI (va_runV (As := [.int (x5 + (3 : Int32))]) (rest := []) ⟨hx, hb, hml, hown, hu⟩ (met_X4_at_1 l dC dI a kA t _ M16 L (x5 + (3 : Int32)) _ h) (cwl_X5_34_X4 hu ⟨by decide, by decide⟩) (cppre (ci := 3) hK hE hsz hI rfl rfl) rfl rfl hl.1 rfl (lv_room (Nat.le_of_ble_eq_true rfl)) dX5_readHeaders_133 ⟨by decide, by decide⟩) (fun r23 H locs h hI => ?_)
                        refine lv_if_eq (tgt := 152) hx hb dX5_readHeaders_136 (by decide) (fun c24 => ?_) (fun c24 => ?_)
                        · have h := h.1 c24
                          exact J152 M16 _ _ _ h hI (lv_sub hl [0, 1, 2, 4, 5, 6] rfl)
                        · have h := h.2 c24
                          refine lv_aload_n hx hb dX5_readHeaders_139 rfl (lv_at hl 0 rfl) ?_
                          refine lv_iload hx hb dX5_readHeaders_140 (lv_at hl 4 rfl) ?_
                          refine lv_iconst (v := (3 : Int32)) hx hb dX5_readHeaders_142 (by decide) ?_
                          refine lv_iadd hx hb dX5_readHeaders_143 ?_
                          refine lv_aload_n hx hb dX5_readHeaders_144 rfl (lv_at hl 0 rfl) ?_
                          refine va_get (D := (dC, dI)) (ci := 4) (v := .int (M16 14 0)) (C := RX5) (T := TX5) (N := 16) hx hb hu uX5 hown hK hI.1 14 rfl rfl 0 (by decide) (hu _ uww_159) (u_same (hu _ uww_160)) rfl dX5_readHeaders_145 ?_
                          refine lv_isub hx hb dX5_readHeaders_148 ?_
                          refine cpput (ci := 4) (C := RX5) (T := TX5) (N := 16) (ty := .int) hx hb hu uX5 tyX5 tyX5_ok nmX5 hown hK hI 14 rfl rfl 15 (by decide) (hu _ uww_181) (fun _ h9 => h9) rfl (by decide +kernel) rfl rfl (Nat.le_of_ble_eq_true rfl) (cpset_14_15 _ _ _ _ _) dX5_readHeaders_149 (fun H locs M25 eM25 hI => ?_)
                          have h := h M25 eM25
                          exact J152 M25 _ _ _ h hI (lv_sub hl [0, 1, 2, 4, 5, 6] rfl)
                  refine lv_icmp_ne (tgt := 114) hx hb dX5_readHeaders_104 (by decide) (fun c26 => ?_) (fun c26 => ?_)
                  · have h := h.1 c26
                    exact J114 M7 _ _ _ h hI (lv_sub hl [0, 1, 2, 3, 4, 5, 6] rfl)
                  · have h := h.2 c26
                    refine lv_aload_n hx hb dX5_readHeaders_107 rfl (lv_at hl 0 rfl) ?_
                    refine lv_aload_n hx hb dX5_readHeaders_108 rfl (lv_at hl 1 rfl) ?_
                    refine lv_iload hx hb dX5_readHeaders_109 (lv_at hl 4 rfl) ?_
                    refine cpcallv_m hsz hI (va_runV (As := [.ref (a 1), .int x5]) (rest := []) ⟨hx, hb, hml, hown, hu⟩ (met_X5_readFragmentHeader_14_1 l dC dI a kA t _ M7 L x5 _ h) (cwl_X5_82_X5 hu ⟨by decide, by decide⟩) (cppre (ci := 4) hK hE hsz hI rfl rfl) rfl rfl hl.1 rfl (lv_room (Nat.le_of_ble_eq_true rfl)) dX5_readHeaders_111 ⟨by decide, by decide⟩) (fun M27 H locs h hI => ?_)
                    exact J114 M27 _ _ _ h hI (lv_sub hl [0, 1, 2, 3, 4, 5, 6] rfl)
                refine lv_icmp_ne (tgt := 101) hx hb dX5_readHeaders_89 (by decide) (fun c28 => ?_) (fun c28 => ?_)
                · have h := h.1 c28
                  exact J101  _ _ _ h hI (lv_sub hl [1, 2, 3, 4, 5, 6, 0] rfl)
                · have h := h.2 c28
                  refine lv_aload_n hx hb dX5_readHeaders_92 rfl (lv_at hl 1 rfl) ?_
                  refine va_get (D := (dC, dI)) (ci := 4) (v := .int (M7 14 14)) (C := RX5) (T := TX5) (N := 16) hx hb hu uX5 hown hK hI.1 14 rfl rfl 14 (by decide) (hu _ uww_180) (fun _ h9 => h9) rfl dX5_readHeaders_93 ?_
                  refine lv_if_eq (tgt := 101) hx hb dX5_readHeaders_96 (by decide) (fun c29 => ?_) (fun c29 => ?_)
                  · have h := h.1 c29
                    exact J101  _ _ _ h hI (lv_sub hl [1, 2, 3, 4, 5, 6, 0] rfl)
                  · have h := h.2 c29
                    refine lv_iconst (v := (0 : Int32)) hx hb dX5_readHeaders_99 (by decide) ?_
                    exact cpzret (Z := (fun r M' L' => L' = L ∧ Z r M')) hx hb hr hlocks hK hI dX5_readHeaders_100 ⟨isB_0, ⟨rfl, h⟩⟩
            refine lv_icmp_ne (tgt := 61) hx hb dX5_readHeaders_53 (by decide) (fun c30 => ?_) (fun c30 => ?_)
            · have h := h.1 c30
              refine lv_bipush (v := (8 : Int32)) hx hb dX5_readHeaders_61 (by decide) ?_
              refine lv_bipush (v := (8 : Int32)) hx hb dX5_readHeaders_63 (by decide) ?_
              refine lv_aload_n hx hb dX5_readHeaders_65 rfl (lv_at hl 1 rfl) ?_
              refine lv_iload hx hb dX5_readHeaders_66 (lv_at hl 4 rfl) ?_
              refine lv_iconst (v := (1 : Int32)) hx hb dX5_readHeaders_68 (by decide) ?_
              refine lv_iadd hx hb dX5_readHeaders_69 ?_
              refine cpcalli_p hsz hI (va_runV (As := [.int (x5 + (1 : Int32))]) (rest := [.int (8 : Int32), .int (8 : Int32)]) ⟨hx, hb, hml, hown, hu⟩ (met_X4_at_1 l dC dI a kA t _ M7 L (x5 + (1 : Int32)) _ h) (cwl_X5_34_X4 hu ⟨by decide, by decide⟩) (cppre (ci := 3) hK hE hsz hI rfl rfl) rfl rfl hl.1 rfl (lv_room (Nat.le_of_ble_eq_true rfl)) dX5_readHeaders_70 ⟨by decide, by decide⟩) (fun r31 H locs h hI => ?_)
              refine lv_imul hx hb dX5_readHeaders_73 ?_
              refine lv_iadd hx hb dX5_readHeaders_74 ?_
              exact J75 ((8 : Int32) + ((8 : Int32) * r31)) _ _ _ h hI (lv_sub hl [0, 1, 2, 3, 4, 5] rfl)
            · have h := h.2 c30
              refine lv_bipush (v := (8 : Int32)) hx hb dX5_readHeaders_56 (by decide) ?_
              refine lv_goto (tgt := 75) hx hb dX5_readHeaders_58 (by decide) ?_
              exact J75 (8 : Int32) _ _ _ h hI (lv_sub hl [0, 1, 2, 3, 4, 5] rfl)
  exact P28 (m28 r1 x2 (0 : Int32) M3 + 1) r1 x2 (0 : Int32) M3 _ _ _ h (Nat.lt_succ_self _) hI (lv_sub hl [3, 4, 5, 2, 1, 0] rfl)

abbrev rm_X5_read_14_1 : Room := { frames := 3, cells := 0, slots := 0, locals := 70 }
abbrev av_X5_read_14_1 (a t : Nat → Nat) (p2 : Int32) (p3 : Int32) : List Value := [.ref (a 14), .ref (a 1), .int p2, .int p3]
abbrev qc_X5_read_14_1 (dC : Nat → ClassId) (dI : Nat → Nat → Nat) (a : Nat → Nat) (kA : Nat → ClassId) (sz : Nat) (M : cM) (L : cL) (Z : Int32 → cM → cL → Prop) : Array Value → State → Outcome → State → Prop := va_Qi (fun r (u : cM × cL) => Z r u.1 u.2) (cpAt dC dI a kA (cpA a sz)) (cpA a sz)
set_option maxHeartbeats 4000000 in
set_option maxRecDepth 100000 in
theorem met_X5_read_14_1 (l : Launch) (dC : Nat → ClassId) (dI : Nat → Nat → Nat) (a : Nat → Nat) (kA : Nat → ClassId) (t : Nat → Nat) (sz : Nat) (M : cM) (L : cL) (p2 : Int32) (p3 : Int32) (Z : Int32 → cM → cL → Prop) (h : wp_X5_read_14_1 M L p2 p3 Z) : Met l yX5_read (Cond.code yX5_read cX5_read 6 (some .boolean) :: uW) rm_X5_read_14_1 (va_Pc (av_X5_read_14_1 a t p2 p3) (cpPre dC dI a kA t M L sz)) (qc_X5_read_14_1 dC dI a kA sz M L Z) 0 0 (cpA a sz) := by
  refine cpenter (cc := cX5_read) (n := 6) (ret := (some .boolean)) (by decide) rfl (Nat.le_of_ble_eq_true rfl) ?_
  intro p e s m below meth c ls hx hb hml hr hlocks hown hts hK hE hsz hI hl hmn
  have hu : ∀ w ∈ uW, w.before (av_X5_read_14_1 a t p2 p3).toArray s = true := fun w h => hts w (List.mem_cons_of_mem _ h)
  have hown : s.vm.findClass RX5 = some m.cls := hown
  have hl : lv_has ls 6 [(0, .ref (a 14)), (1, .ref (a 1)), (2, .int p2), (3, .int p3)] := hl
  unfold wp_X5_read_14_1 at h
  refine lv_iload_n hx hb dX5_read_0 rfl (lv_at hl 3 rfl) ?_
  refine lv_iload_n hx hb dX5_read_1 rfl (lv_at hl 2 rfl) ?_
  refine lv_isub hx hb dX5_read_2 ?_
  refine lv_bipush (v := (40 : Int32)) hx hb dX5_read_3 (by decide) ?_
  refine lv_icmp_lt (tgt := 20) hx hb dX5_read_5 (by decide) (fun c1 => ?_) (fun c1 => ?_)
  · have h := h.1 c1
    refine lv_iconst (v := (0 : Int32)) hx hb dX5_read_20 (by decide) ?_
    exact cpzret (Z := (fun r M' L' => Z r M' L')) hx hb hr hlocks hK hI dX5_read_21 ⟨isB_0, h⟩
  · have h := h.2 c1
    refine lv_aload_n hx hb dX5_read_8 rfl (lv_at hl 1 rfl) ?_
    refine lv_iload_n hx hb dX5_read_9 rfl (lv_at hl 2 rfl) ?_
    refine cpcalli_p hsz hI (va_runV (As := [.int p2]) (rest := []) ⟨hx, hb, hml, hown, hu⟩ (met_X4_at_1 l dC dI a kA t _ M L p2 _ h) (cwl_X5_34_X4 hu ⟨by decide, by decide⟩) (cppre (ci := 3) hK hE hsz hI rfl rfl) rfl rfl hl.1 rfl (lv_room (Nat.le_of_ble_eq_true rfl)) dX5_read_10 ⟨by decide, by decide⟩) (fun r2 H locs h hI => ?_)
    refine lv_iconst (v := (4 : Int32)) hx hb dX5_read_13 (by decide) ?_
    refine lv_ishr hx hb dX5_read_14 ?_
    refine lv_bipush (v := (6 : Int32)) hx hb dX5_read_15 (by decide) ?_
    refine lv_icmp_eq (tgt := 22) hx hb dX5_read_17 (by decide) (fun c3 => ?_) (fun c3 => ?_)
    · have h := h.1 c3
      refine lv_aload_n hx hb dX5_read_22 rfl (lv_at hl 0 rfl) ?_
      refine lv_iload_n hx hb dX5_read_23 rfl (lv_at hl 2 rfl) ?_
      refine cpput (ci := 4) (C := RX5) (T := TX5) (N := 16) (ty := .int) hx hb hu uX5 tyX5 tyX5_ok nmX5 hown hK hI 14 rfl rfl 0 (by decide) (hu _ uww_159) (u_same (hu _ uww_160)) rfl (by decide +kernel) rfl rfl (Nat.le_of_ble_eq_true rfl) (cpset_14_0 _ _ _ _ _) dX5_read_24 (fun H locs M4 eM4 hI => ?_)
      have h := h M4 eM4
      refine lv_aload_n hx hb dX5_read_27 rfl (lv_at hl 0 rfl) ?_
      refine lv_aload_n hx hb dX5_read_28 rfl (lv_at hl 1 rfl) ?_
      refine lv_iload_n hx hb dX5_read_29 rfl (lv_at hl 2 rfl) ?_
      refine cpcalli_p hsz hI (va_runV (As := [.int p2]) (rest := [.ref (a 14)]) ⟨hx, hb, hml, hown, hu⟩ (met_X4_word_1 l dC dI a kA t _ M4 L p2 _ h) (cwl_X5_15_X4 hu ⟨by decide, by decide⟩) (cppre (ci := 3) hK hE hsz hI rfl rfl) rfl rfl hl.1 rfl (lv_room (Nat.le_of_ble_eq_true rfl)) dX5_read_30 ⟨by decide, by decide⟩) (fun r5 H locs h hI => ?_)
      refine lv_iconst (v := (4 : Int32)) hx hb dX5_read_33 (by decide) ?_
      refine lv_ishr hx hb dX5_read_34 ?_
      refine lv_sipush (v := (255 : Int32)) hx hb dX5_read_35 (by decide) ?_
      refine lv_iand hx hb dX5_read_38 ?_
      refine cpput (ci := 4) (C := RX5) (T := TX5) (N := 16) (ty := .int) hx hb hu uX5 tyX5 tyX5_ok nmX5 hown hK hI 14 rfl rfl 1 (by decide) (hu _ uww_161) (u_same (hu _ uww_162)) rfl (by decide +kernel) rfl rfl (Nat.le_of_ble_eq_true rfl) (cpset_14_1 _ _ _ _ _) dX5_read_39 (fun H locs M6 eM6 hI => ?_)
      have h := h M6 eM6
      refine lv_aload_n hx hb dX5_read_42 rfl (lv_at hl 0 rfl) ?_
      refine lv_aload_n hx hb dX5_read_43 rfl (lv_at hl 1 rfl) ?_
      refine lv_iload_n hx hb dX5_read_44 rfl (lv_at hl 2 rfl) ?_
      refine lv_bipush (v := (7 : Int32)) hx hb dX5_read_45 (by decide) ?_
      refine lv_iadd hx hb dX5_read_47 ?_
      refine cpcalli_p hsz hI (va_runV (As := [.int (p2 + (7 : Int32))]) (rest := [.ref (a 14)]) ⟨hx, hb, hml, hown, hu⟩ (met_X4_at_1 l dC dI a kA t _ M6 L (p2 + (7 : Int32)) _ h) (cwl_X5_34_X4 hu ⟨by decide, by decide⟩) (cppre (ci := 3) hK hE hsz hI rfl rfl) rfl rfl hl.1 rfl (lv_room (Nat.le_of_ble_eq_true rfl)) dX5_read_48 ⟨by decide, by decide⟩) (fun r7 H locs h hI => ?_)
      refine cpput (ci := 4) (C := RX5) (T := TX5) (N := 16) (ty := .int) hx hb hu uX5 tyX5 tyX5_ok nmX5 hown hK hI 14 rfl rfl 2 (by decide) (hu _ uww_163) (u_same (hu _ uww_164)) rfl (by decide +kernel) rfl rfl (Nat.le_of_ble_eq_true rfl) (cpset_14_2 _ _ _ _ _) dX5_read_51 (fun H locs M8 eM8 hI => ?_)
      have h := h M8 eM8
      refine lv_aload_n hx hb dX5_read_54 rfl (lv_at hl 0 rfl) ?_
      refine lv_aload_n hx hb dX5_read_55 rfl (lv_at hl 1 rfl) ?_
      refine lv_iload_n hx hb dX5_read_56 rfl (lv_at hl 2 rfl) ?_
      refine lv_bipush (v := (8 : Int32)) hx hb dX5_read_57 (by decide) ?_
      refine lv_iadd hx hb dX5_read_59 ?_
      refine lv_iload_n hx hb dX5_read_60 rfl (lv_at hl 2 rfl) ?_
      refine lv_bipush (v := (40 : Int32)) hx hb dX5_read_61 (by decide) ?_
      refine lv_iadd hx hb dX5_read_63 ?_
      refine cpcalll_p hsz hI (va_runV (As := [.int (p2 + (8 : Int32)), .int (p2 + (40 : Int32))]) (rest := [.ref (a 14)]) ⟨hx, hb, hml, hown, hu⟩ (met_X4_sum_1 l dC dI a kA t _ M8 L (p2 + (8 : Int32)) (p2 + (40 : Int32)) _ h) (cwl_X5_45_X4 hu ⟨by decide, by decide⟩) (cppre (ci := 3) hK hE hsz hI rfl rfl) rfl rfl hl.1 rfl (lv_room (Nat.le_of_ble_eq_true rfl)) dX5_read_64 ⟨by decide, by decide⟩) (fun r9 H locs h hI => ?_)
      refine cpputl (ci := 4) (C := RX5) (T := TX5) (N := 16) (ty := .long) hx hb hu uX5 tyX5 tyX5_ok nmX5 hown hK hI 14 rfl rfl 13 (by decide) (hu _ uww_165) (u_same (hu _ uww_166)) rfl (by decide +kernel) rfl rfl (Nat.le_of_ble_eq_true rfl) (cpset_14_13 _ _ _ _ _) dX5_read_67 (fun H locs L10 eL10 hI => ?_)
      have h := h L10 eL10
      refine lv_iload_n hx hb dX5_read_70 rfl (lv_at hl 2 rfl) ?_
      refine lv_bipush (v := (40 : Int32)) hx hb dX5_read_71 (by decide) ?_
      refine lv_iadd hx hb dX5_read_73 ?_
      refine lv_aload_n hx hb dX5_read_74 rfl (lv_at hl 1 rfl) ?_
      refine lv_iload_n hx hb dX5_read_75 rfl (lv_at hl 2 rfl) ?_
      refine lv_iconst (v := (4 : Int32)) hx hb dX5_read_76 (by decide) ?_
      refine lv_iadd hx hb dX5_read_77 ?_
      refine cpcalli_p hsz hI (va_runV (As := [.int (p2 + (4 : Int32))]) (rest := [.int (p2 + (40 : Int32))]) ⟨hx, hb, hml, hown, hu⟩ (met_X4_word_1 l dC dI a kA t _ M8 L10 (p2 + (4 : Int32)) _ h) (cwl_X5_15_X4 hu ⟨by decide, by decide⟩) (cppre (ci := 3) hK hE hsz hI rfl rfl) rfl rfl hl.1 rfl (lv_room (Nat.le_of_ble_eq_true rfl)) dX5_read_78 ⟨by decide, by decide⟩) (fun r11 H locs h hI => ?_)
      refine lv_iadd hx hb dX5_read_81 ?_
      refine lv_topi (fun x12 ex12 => ?_)
      have h := h x12 ex12
      refine lv_istore (lv' := [(4, .int x12), (0, .ref (a 14)), (1, .ref (a 1)), (2, .int p2), (3, .int p3)]) hx hb dX5_read_82 hl (by decide) rfl (fun ls hl => ?_)
      refine lv_iload_n hx hb dX5_read_84 rfl (lv_at hl 4 rfl) ?_
      refine lv_iload hx hb dX5_read_85 (lv_at hl 0 rfl) ?_
      refine va_mmin hx hb (hml.trans hl.1.symm) hown (hu _ uww_167) (hu _ uww_42) (hu _ uww_43) (hu _ uww_44) (Nat.le_of_ble_eq_true rfl) (Nat.le_of_ble_eq_true rfl) (Nat.le_of_ble_eq_true rfl) (Nat.le_of_ble_eq_true rfl) dX5_read_87 ?_
      refine lv_topi (fun x13 ex13 => ?_)
      have h := h x13 ex13
      refine lv_istore (lv' := [(5, .int x13), (4, .int x12), (0, .ref (a 14)), (1, .ref (a 1)), (2, .int p2), (3, .int p3)]) hx hb dX5_read_90 hl (by decide) rfl (fun ls hl => ?_)
      refine lv_aload_n hx hb dX5_read_92 rfl (lv_at hl 2 rfl) ?_
      refine lv_aload_n hx hb dX5_read_93 rfl (lv_at hl 3 rfl) ?_
      refine lv_iload hx hb dX5_read_94 (lv_at hl 0 rfl) ?_
      refine cpcalli_m hsz hI (va_runV (As := [.ref (a 1), .int x13]) (rest := []) ⟨hx, hb, hml, hown, hu⟩ (met_X5_readHeaders_14_1 l dC dI a kA t _ M8 L10 x13 _ h) (cwl_X5_59_X5 hu ⟨by decide, by decide⟩) (cppre (ci := 4) hK hE hsz hI rfl rfl) rfl rfl hl.1 rfl (lv_room (Nat.le_of_ble_eq_true rfl)) dX5_read_96 ⟨by decide, by decide⟩) (fun r14 M15 H locs h hI => ?_)
      refine lv_if_ne (tgt := 104) hx hb dX5_read_99 (by decide) (fun c16 => ?_) (fun c16 => ?_)
      · have h := h.1 c16
        refine lv_aload_n hx hb dX5_read_104 rfl (lv_at hl 2 rfl) ?_
        refine lv_iload hx hb dX5_read_105 (lv_at hl 1 rfl) ?_
        refine lv_aload_n hx hb dX5_read_107 rfl (lv_at hl 2 rfl) ?_
        refine va_get (D := (dC, dI)) (ci := 4) (v := .int (M15 14 7)) (C := RX5) (T := TX5) (N := 16) hx hb hu uX5 hown hK hI.1 14 rfl rfl 7 (by decide) (hu _ uww_168) (u_same (hu _ uww_169)) rfl dX5_read_108 ?_
        refine lv_isub hx hb dX5_read_111 ?_
        refine cpput (ci := 4) (C := RX5) (T := TX5) (N := 16) (ty := .int) hx hb hu uX5 tyX5 tyX5_ok nmX5 hown hK hI 14 rfl rfl 8 (by decide) (hu _ uww_151) (u_same (hu _ uww_152)) rfl (by decide +kernel) rfl rfl (Nat.le_of_ble_eq_true rfl) (cpset_14_8 _ _ _ _ _) dX5_read_112 (fun H locs M17 eM17 hI => ?_)
        have h := h M17 eM17
        refine lv_aload_n hx hb dX5_read_115 rfl (lv_at hl 2 rfl) ?_
        refine lv_iload hx hb dX5_read_116 (lv_at hl 0 rfl) ?_
        refine lv_aload_n hx hb dX5_read_118 rfl (lv_at hl 2 rfl) ?_
        refine va_get (D := (dC, dI)) (ci := 4) (v := .int (M17 14 7)) (C := RX5) (T := TX5) (N := 16) hx hb hu uX5 hown hK hI.1 14 rfl rfl 7 (by decide) (hu _ uww_168) (u_same (hu _ uww_169)) rfl dX5_read_119 ?_
        refine lv_isub hx hb dX5_read_122 ?_
        refine cpput (ci := 4) (C := RX5) (T := TX5) (N := 16) (ty := .int) hx hb hu uX5 tyX5 tyX5_ok nmX5 hown hK hI 14 rfl rfl 9 (by decide) (hu _ uww_170) (u_same (hu _ uww_171)) rfl (by decide +kernel) rfl rfl (Nat.le_of_ble_eq_true rfl) (cpset_14_9 _ _ _ _ _) dX5_read_123 (fun H locs M18 eM18 hI => ?_)
        have h := h M18 eM18
        refine lv_iconst (v := (1 : Int32)) hx hb dX5_read_126 (by decide) ?_
        exact cpzret (Z := (fun r M' L' => Z r M' L')) hx hb hr hlocks hK hI dX5_read_127 ⟨isB_1, h⟩
      · have h := h.2 c16
        refine lv_iconst (v := (0 : Int32)) hx hb dX5_read_102 (by decide) ?_
        exact cpzret (Z := (fun r M' L' => Z r M' L')) hx hb hr hlocks hK hI dX5_read_103 ⟨isB_0, h⟩
    · have h := h.2 c3
      refine lv_iconst (v := (0 : Int32)) hx hb dX5_read_20 (by decide) ?_
      exact cpzret (Z := (fun r M' L' => Z r M' L')) hx hb hr hlocks hK hI dX5_read_21 ⟨isB_0, h⟩

abbrev rm_X5_setFour_14 : Room := { frames := 1, cells := 0, slots := 0, locals := 21 }
abbrev av_X5_setFour_14 (a t : Nat → Nat) (p1 : Int64) (p3 : Int64) : List Value := [.ref (a 14), .long p1, .long p3]
abbrev qc_X5_setFour_14 (dC : Nat → ClassId) (dI : Nat → Nat → Nat) (a : Nat → Nat) (kA : Nat → ClassId) (sz : Nat) (M : cM) (L : cL) (Z : cM → cL → Prop) : Array Value → State → Outcome → State → Prop := va_Qv (fun (u : cM × cL) => Z u.1 u.2) (cpAt dC dI a kA (cpA a sz)) (cpA a sz)
set_option maxHeartbeats 4000000 in
set_option maxRecDepth 100000 in
theorem met_X5_setFour_14 (l : Launch) (dC : Nat → ClassId) (dI : Nat → Nat → Nat) (a : Nat → Nat) (kA : Nat → ClassId) (t : Nat → Nat) (sz : Nat) (M : cM) (L : cL) (p1 : Int64) (p3 : Int64) (Z : cM → cL → Prop) (h : wp_X5_setFour_14 M L p1 p3 Z) : Met l yX5_setFour (Cond.code yX5_setFour cX5_setFour 5 none :: uW) rm_X5_setFour_14 (va_Pc (av_X5_setFour_14 a t p1 p3) (cpPre dC dI a kA t M L sz)) (qc_X5_setFour_14 dC dI a kA sz M L Z) 0 0 (cpA a sz) := by
  refine cpenter (cc := cX5_setFour) (n := 5) (ret := none) (by decide) rfl (Nat.le_of_ble_eq_true rfl) ?_
  intro p e s m below meth c ls hx hb hml hr hlocks hown hts hK hE hsz hI hl hmn
  have hu : ∀ w ∈ uW, w.before (av_X5_setFour_14 a t p1 p3).toArray s = true := fun w h => hts w (List.mem_cons_of_mem _ h)
  have hown : s.vm.findClass RX5 = some m.cls := hown
  have hl : lv_has ls 5 [(0, .ref (a 14)), (1, .long p1), (3, .long p3)] := hl
  unfold wp_X5_setFour_14 at h
  refine lv_aload_n hx hb dX5_setFour_0 rfl (lv_at hl 0 rfl) ?_
  refine lv_lload_n hx hb dX5_setFour_1 rfl (lv_at hl 1 rfl) ?_
  refine lv_l2i hx hb dX5_setFour_2 rfl ?_
  refine cpput (ci := 4) (C := RX5) (T := TX5) (N := 16) (ty := .int) hx hb hu uX5 tyX5 tyX5_ok nmX5 hown hK hI 14 rfl rfl 10 (by decide) (hu _ uww_201) (u_same (hu _ uww_202)) rfl (by decide +kernel) rfl rfl (Nat.le_of_ble_eq_true rfl) (cpset_14_10 _ _ _ _ _) dX5_setFour_3 (fun H locs M1 eM1 hI => ?_)
  have h := h M1 eM1
  refine lv_aload_n hx hb dX5_setFour_6 rfl (lv_at hl 0 rfl) ?_
  refine lv_lload_n hx hb dX5_setFour_7 rfl (lv_at hl 2 rfl) ?_
  refine lv_l2i hx hb dX5_setFour_8 rfl ?_
  refine cpput (ci := 4) (C := RX5) (T := TX5) (N := 16) (ty := .int) hx hb hu uX5 tyX5 tyX5_ok nmX5 hown hK hI 14 rfl rfl 11 (by decide) (hu _ uww_203) (u_same (hu _ uww_204)) rfl (by decide +kernel) rfl rfl (Nat.le_of_ble_eq_true rfl) (cpset_14_11 _ _ _ _ _) dX5_setFour_9 (fun H locs M2 eM2 hI => ?_)
  have h := h M2 eM2
  refine lv_aload_n hx hb dX5_setFour_12 rfl (lv_at hl 0 rfl) ?_
  refine lv_lload_n hx hb dX5_setFour_13 rfl (lv_at hl 1 rfl) ?_
  refine lv_bipush (v := (32 : Int32)) hx hb dX5_setFour_14 (by decide) ?_
  refine lv_lshl hx hb dX5_setFour_16 rfl ?_
  refine lv_lload_n hx hb dX5_setFour_17 rfl (lv_at hl 2 rfl) ?_
  refine lv_lor hx hb dX5_setFour_18 ?_
  refine cpcalll_p hsz hI (va_runSN (As := [.long ((p1 <<< ((32 : Int32).toInt64 &&& 63)) ||| p3)]) (rest := [.ref (a 14)]) ⟨hx, hb, hml, hown, hu⟩ (met_X6_wordsOf l dC dI a kA t _ M2 L ((p1 <<< ((32 : Int32).toInt64 &&& 63)) ||| p3) _ h) (cwl_X5_101_S hu ⟨by decide, by decide⟩ (hE.1 _ cpn_22)) (cppreS hK hE hsz hI) rfl rfl hl.1 rfl (lv_room (Nat.le_of_ble_eq_true rfl)) dX5_setFour_19 ⟨by decide, by decide⟩) (fun r3 H locs h hI => ?_)
  refine cpputl (ci := 4) (C := RX5) (T := TX5) (N := 16) (ty := .long) hx hb hu uX5 tyX5 tyX5_ok nmX5 hown hK hI 14 rfl rfl 12 (by decide) (hu _ uww_205) (u_same (hu _ uww_206)) rfl (by decide +kernel) rfl rfl (Nat.le_of_ble_eq_true rfl) (cpset_14_12 _ _ _ _ _) dX5_setFour_22 (fun H locs L4 eL4 hI => ?_)
  have h := h L4 eL4
  exact cpvret (Z := (fun M' L' => Z M' L')) hx hb hr hlocks hK hI dX5_setFour_25 h

abbrev rm_X2_fragment_14 : Room := { frames := 0, cells := 0, slots := 0, locals := 0 }
abbrev av_X2_fragment_14 (a t : Nat → Nat)  : List Value := [.ref (a 14)]
abbrev qc_X2_fragment_14 (dC : Nat → ClassId) (dI : Nat → Nat → Nat) (a : Nat → Nat) (kA : Nat → ClassId) (sz : Nat) (M : cM) (L : cL) (Z : Int32 → Prop) : Array Value → State → Outcome → State → Prop := va_Qi (fun r (u : cM × cL) => u.1 = M ∧ u.2 = L ∧ Z r) (cpAt dC dI a kA (cpA a sz)) (cpA a sz)
set_option maxHeartbeats 4000000 in
set_option maxRecDepth 100000 in
theorem met_X2_fragment_14 (l : Launch) (dC : Nat → ClassId) (dI : Nat → Nat → Nat) (a : Nat → Nat) (kA : Nat → ClassId) (t : Nat → Nat) (sz : Nat) (M : cM) (L : cL)  (Z : Int32 → Prop) (h : wp_X2_fragment_14 M L  Z) : Met l yX2_fragment (Cond.code yX2_fragment cX2_fragment 1 (some .boolean) :: uW) rm_X2_fragment_14 (va_Pc (av_X2_fragment_14 a t ) (cpPre dC dI a kA t M L sz)) (qc_X2_fragment_14 dC dI a kA sz M L Z) 0 0 (cpA a sz) := by
  refine cpenter (cc := cX2_fragment) (n := 1) (ret := (some .boolean)) (by decide) rfl (Nat.le_of_ble_eq_true rfl) ?_
  intro p e s m below meth c ls hx hb hml hr hlocks hown hts hK hE hsz hI hl hmn
  have hu : ∀ w ∈ uW, w.before (av_X2_fragment_14 a t ).toArray s = true := fun w h => hts w (List.mem_cons_of_mem _ h)
  have hown : s.vm.findClass RX2 = some m.cls := hown
  have hl : lv_has ls 1 [(0, .ref (a 14))] := hl
  unfold wp_X2_fragment_14 at h
  refine lv_aload_n hx hb dX2_fragment_0 rfl (lv_at hl 0 rfl) ?_
  refine va_get (D := (dC, dI)) (ci := 4) (v := .int (M 14 5)) (C := RX5) (T := TX5) (N := 16) hx hb hu uX5 hown hK hI.1 14 rfl rfl 5 (by decide) (hu _ uww_88) (fun _ h9 => h9) rfl dX2_fragment_1 ?_
  refine lv_if_ne (tgt := 14) hx hb dX2_fragment_4 (by decide) (fun c1 => ?_) (fun c1 => ?_)
  · have h := h.1 c1
    refine lv_iconst (v := (1 : Int32)) hx hb dX2_fragment_14 (by decide) ?_
    refine lv_goto (tgt := 19) hx hb dX2_fragment_15 (by decide) ?_
    exact cpzret (Z := (fun r M' L' => M' = M ∧ L' = L ∧ Z r)) hx hb hr hlocks hK hI dX2_fragment_19 ⟨isB_1, ⟨rfl, rfl, h⟩⟩
  · have h := h.2 c1
    refine lv_aload_n hx hb dX2_fragment_7 rfl (lv_at hl 0 rfl) ?_
    refine va_get (D := (dC, dI)) (ci := 4) (v := .int (M 14 6)) (C := RX5) (T := TX5) (N := 16) hx hb hu uX5 hown hK hI.1 14 rfl rfl 6 (by decide) (hu _ uww_80) (fun _ h9 => h9) rfl dX2_fragment_8 ?_
    refine lv_if_eq (tgt := 18) hx hb dX2_fragment_11 (by decide) (fun c2 => ?_) (fun c2 => ?_)
    · have h := h.1 c2
      refine lv_iconst (v := (0 : Int32)) hx hb dX2_fragment_18 (by decide) ?_
      exact cpzret (Z := (fun r M' L' => M' = M ∧ L' = L ∧ Z r)) hx hb hr hlocks hK hI dX2_fragment_19 ⟨isB_0, ⟨rfl, rfl, h⟩⟩
    · have h := h.2 c2
      refine lv_iconst (v := (1 : Int32)) hx hb dX2_fragment_14 (by decide) ?_
      refine lv_goto (tgt := 19) hx hb dX2_fragment_15 (by decide) ?_
      exact cpzret (Z := (fun r M' L' => M' = M ∧ L' = L ∧ Z r)) hx hb hr hlocks hK hI dX2_fragment_19 ⟨isB_1, ⟨rfl, rfl, h⟩⟩

abbrev rm_X6_innerSixFits_0_14 : Room := { frames := 3, cells := 0, slots := 0, locals := 73 }
abbrev av_X6_innerSixFits_0_14 (a t : Nat → Nat)  : List Value := [.ref (a 0), .ref (a 14)]
abbrev qc_X6_innerSixFits_0_14 (dC : Nat → ClassId) (dI : Nat → Nat → Nat) (a : Nat → Nat) (kA : Nat → ClassId) (sz : Nat) (M : cM) (L : cL) (Z : Int32 → cM → cL → Prop) : Array Value → State → Outcome → State → Prop := va_Qi (fun r (u : cM × cL) => Z r u.1 u.2) (cpAt dC dI a kA (cpA a sz)) (cpA a sz)
set_option maxHeartbeats 4000000 in
set_option maxRecDepth 100000 in
theorem met_X6_innerSixFits_0_14 (l : Launch) (dC : Nat → ClassId) (dI : Nat → Nat → Nat) (a : Nat → Nat) (kA : Nat → ClassId) (t : Nat → Nat) (sz : Nat) (M : cM) (L : cL)  (Z : Int32 → cM → cL → Prop) (h : wp_X6_innerSixFits_0_14 M L  Z) : Met l yX6_innerSixFits (Cond.code yX6_innerSixFits cX6_innerSixFits 6 (some .boolean) :: uW) rm_X6_innerSixFits_0_14 (va_Pc (av_X6_innerSixFits_0_14 a t ) (cpPre dC dI a kA t M L sz)) (qc_X6_innerSixFits_0_14 dC dI a kA sz M L Z) 0 0 (cpA a sz) := by
  refine cpenter (cc := cX6_innerSixFits) (n := 6) (ret := (some .boolean)) (by decide) rfl (Nat.le_of_ble_eq_true rfl) ?_
  intro p e s m below meth c ls hx hb hml hr hlocks hown hts hK hE hsz hI hl hmn
  have hu : ∀ w ∈ uW, w.before (av_X6_innerSixFits_0_14 a t ).toArray s = true := fun w h => hts w (List.mem_cons_of_mem _ h)
  have hown : s.vm.findClass RX6 = some m.cls := hown
  have hl : lv_has ls 6 [(0, .ref (a 0)), (1, .ref (a 14))] := hl
  unfold wp_X6_innerSixFits_0_14 at h
  refine lv_aload_n hx hb dX6_innerSixFits_0 rfl (lv_at hl 0 rfl) ?_
  refine va_get (D := (dC, dI)) (ci := 5) (v := .ref (a 10)) (C := RX6) (T := TX6) (N := 17) hx hb hu uX6 hown hK hI.1 0 rfl rfl 3 (by decide) (hu _ uww_221) (fun _ h9 => h9) rfl dX6_innerSixFits_1 ?_
  refine lv_aload_n hx hb dX6_innerSixFits_4 rfl (lv_at hl 0 rfl) ?_
  refine va_get (D := (dC, dI)) (ci := 5) (v := .ref (a 1)) (C := RX6) (T := TX6) (N := 17) hx hb hu uX6 hown hK hI.1 0 rfl rfl 0 (by decide) (hu _ uww_213) (fun _ h9 => h9) rfl dX6_innerSixFits_5 ?_
  refine lv_aload_n hx hb dX6_innerSixFits_8 rfl (lv_at hl 1 rfl) ?_
  refine va_get (D := (dC, dI)) (ci := 4) (v := .int (M 14 0)) (C := RX5) (T := TX5) (N := 16) hx hb hu uX5 hown hK hI.1 14 rfl rfl 0 (by decide) (hu _ uww_475) (u_same (hu _ uww_160)) rfl dX6_innerSixFits_9 ?_
  refine lv_bipush (v := (8 : Int32)) hx hb dX6_innerSixFits_12 (by decide) ?_
  refine lv_iadd hx hb dX6_innerSixFits_14 ?_
  refine lv_bipush (v := (8 : Int32)) hx hb dX6_innerSixFits_15 (by decide) ?_
  refine cpcalll_p hsz hI (va_runV (As := [.int ((M 14 0) + (8 : Int32)), .int (8 : Int32)]) (rest := [.ref (a 10)]) ⟨hx, hb, hml, hown, hu⟩ (met_X4_number_1 l dC dI a kA t _ M L ((M 14 0) + (8 : Int32)) (8 : Int32) _ h) (cwl_X6_388_X4 hu ⟨by decide, by decide⟩) (cppre (ci := 3) hK hE hsz hI rfl rfl) rfl rfl hl.1 rfl (lv_room (Nat.le_of_ble_eq_true rfl)) dX6_innerSixFits_17 ⟨by decide, by decide⟩) (fun r1 H locs h hI => ?_)
  refine lv_aload_n hx hb dX6_innerSixFits_20 rfl (lv_at hl 0 rfl) ?_
  refine va_get (D := (dC, dI)) (ci := 5) (v := .ref (a 1)) (C := RX6) (T := TX6) (N := 17) hx hb hu uX6 hown hK hI.1 0 rfl rfl 0 (by decide) (hu _ uww_213) (fun _ h9 => h9) rfl dX6_innerSixFits_21 ?_
  refine lv_aload_n hx hb dX6_innerSixFits_24 rfl (lv_at hl 1 rfl) ?_
  refine va_get (D := (dC, dI)) (ci := 4) (v := .int (M 14 0)) (C := RX5) (T := TX5) (N := 16) hx hb hu uX5 hown hK hI.1 14 rfl rfl 0 (by decide) (hu _ uww_475) (u_same (hu _ uww_160)) rfl dX6_innerSixFits_25 ?_
  refine lv_bipush (v := (16 : Int32)) hx hb dX6_innerSixFits_28 (by decide) ?_
  refine lv_iadd hx hb dX6_innerSixFits_30 ?_
  refine lv_bipush (v := (8 : Int32)) hx hb dX6_innerSixFits_31 (by decide) ?_
  refine cpcalll_p hsz hI (va_runV (As := [.int ((M 14 0) + (16 : Int32)), .int (8 : Int32)]) (rest := [.long r1, .ref (a 10)]) ⟨hx, hb, hml, hown, hu⟩ (met_X4_number_1 l dC dI a kA t _ M L ((M 14 0) + (16 : Int32)) (8 : Int32) _ h) (cwl_X6_388_X4 hu ⟨by decide, by decide⟩) (cppre (ci := 3) hK hE hsz hI rfl rfl) rfl rfl hl.1 rfl (lv_room (Nat.le_of_ble_eq_true rfl)) dX6_innerSixFits_33 ⟨by decide, by decide⟩) (fun r2 H locs h hI => ?_)
  refine cpcalll_p hsz hI (va_runV (As := [.long r1, .long r2]) (rest := []) ⟨hx, hb, hml, hown, hu⟩ (met_X1_fourOf_10 l dC dI a kA t _ M L r1 r2 _ h) (cwl_X6_182_X1 hu ⟨by decide, by decide⟩) (cppre (ci := 1) hK hE hsz hI rfl rfl) rfl rfl hl.1 rfl (lv_room (Nat.le_of_ble_eq_true rfl)) dX6_innerSixFits_36 ⟨by decide, by decide⟩) (fun r3 H locs h hI => ?_)
  refine lv_lstore_n (lv' := [(2, .long r3), (0, .ref (a 0)), (1, .ref (a 14))]) hx hb dX6_innerSixFits_39 rfl hl (by decide) rfl (fun ls hl => ?_)
  refine lv_aload_n hx hb dX6_innerSixFits_40 rfl (lv_at hl 1 rfl) ?_
  refine va_get (D := (dC, dI)) (ci := 5) (v := .ref (a 10)) (C := RX6) (T := TX6) (N := 17) hx hb hu uX6 hown hK hI.1 0 rfl rfl 3 (by decide) (hu _ uww_221) (fun _ h9 => h9) rfl dX6_innerSixFits_41 ?_
  refine lv_aload_n hx hb dX6_innerSixFits_44 rfl (lv_at hl 1 rfl) ?_
  refine va_get (D := (dC, dI)) (ci := 5) (v := .ref (a 1)) (C := RX6) (T := TX6) (N := 17) hx hb hu uX6 hown hK hI.1 0 rfl rfl 0 (by decide) (hu _ uww_213) (fun _ h9 => h9) rfl dX6_innerSixFits_45 ?_
  refine lv_aload_n hx hb dX6_innerSixFits_48 rfl (lv_at hl 2 rfl) ?_
  refine va_get (D := (dC, dI)) (ci := 4) (v := .int (M 14 0)) (C := RX5) (T := TX5) (N := 16) hx hb hu uX5 hown hK hI.1 14 rfl rfl 0 (by decide) (hu _ uww_475) (u_same (hu _ uww_160)) rfl dX6_innerSixFits_49 ?_
  refine lv_bipush (v := (24 : Int32)) hx hb dX6_innerSixFits_52 (by decide) ?_
  refine lv_iadd hx hb dX6_innerSixFits_54 ?_
  refine lv_bipush (v := (8 : Int32)) hx hb dX6_innerSixFits_55 (by decide) ?_
  refine cpcalll_p hsz hI (va_runV (As := [.int ((M 14 0) + (24 : Int32)), .int (8 : Int32)]) (rest := [.ref (a 10)]) ⟨hx, hb, hml, hown, hu⟩ (met_X4_number_1 l dC dI a kA t _ M L ((M 14 0) + (24 : Int32)) (8 : Int32) _ h) (cwl_X6_388_X4 hu ⟨by decide, by decide⟩) (cppre (ci := 3) hK hE hsz hI rfl rfl) rfl rfl hl.1 rfl (lv_room (Nat.le_of_ble_eq_true rfl)) dX6_innerSixFits_57 ⟨by decide, by decide⟩) (fun r4 H locs h hI => ?_)
  refine lv_aload_n hx hb dX6_innerSixFits_60 rfl (lv_at hl 1 rfl) ?_
  refine va_get (D := (dC, dI)) (ci := 5) (v := .ref (a 1)) (C := RX6) (T := TX6) (N := 17) hx hb hu uX6 hown hK hI.1 0 rfl rfl 0 (by decide) (hu _ uww_213) (fun _ h9 => h9) rfl dX6_innerSixFits_61 ?_
  refine lv_aload_n hx hb dX6_innerSixFits_64 rfl (lv_at hl 2 rfl) ?_
  refine va_get (D := (dC, dI)) (ci := 4) (v := .int (M 14 0)) (C := RX5) (T := TX5) (N := 16) hx hb hu uX5 hown hK hI.1 14 rfl rfl 0 (by decide) (hu _ uww_475) (u_same (hu _ uww_160)) rfl dX6_innerSixFits_65 ?_
  refine lv_bipush (v := (32 : Int32)) hx hb dX6_innerSixFits_68 (by decide) ?_
  refine lv_iadd hx hb dX6_innerSixFits_70 ?_
  refine lv_bipush (v := (8 : Int32)) hx hb dX6_innerSixFits_71 (by decide) ?_
  refine cpcalll_p hsz hI (va_runV (As := [.int ((M 14 0) + (32 : Int32)), .int (8 : Int32)]) (rest := [.long r4, .ref (a 10)]) ⟨hx, hb, hml, hown, hu⟩ (met_X4_number_1 l dC dI a kA t _ M L ((M 14 0) + (32 : Int32)) (8 : Int32) _ h) (cwl_X6_388_X4 hu ⟨by decide, by decide⟩) (cppre (ci := 3) hK hE hsz hI rfl rfl) rfl rfl hl.1 rfl (lv_room (Nat.le_of_ble_eq_true rfl)) dX6_innerSixFits_73 ⟨by decide, by decide⟩) (fun r5 H locs h hI => ?_)
  refine cpcalll_p hsz hI (va_runV (As := [.long r4, .long r5]) (rest := []) ⟨hx, hb, hml, hown, hu⟩ (met_X1_fourOf_10 l dC dI a kA t _ M L r4 r5 _ h) (cwl_X6_182_X1 hu ⟨by decide, by decide⟩) (cppre (ci := 1) hK hE hsz hI rfl rfl) rfl rfl hl.1 rfl (lv_room (Nat.le_of_ble_eq_true rfl)) dX6_innerSixFits_76 ⟨by decide, by decide⟩) (fun r6 H locs h hI => ?_)
  refine lv_lstore (lv' := [(4, .long r6), (2, .long r3), (0, .ref (a 0)), (1, .ref (a 14))]) hx hb dX6_innerSixFits_79 hl (by decide) rfl (fun ls hl => ?_)
  refine lv_lload_n hx hb dX6_innerSixFits_81 rfl (lv_at hl 1 rfl) ?_
  refine lv_ldc2 (own := RX6) (v := (-1 : Int64)) hx hb hown (hu _ uww_423) dX6_innerSixFits_82 ?_
  refine W.lcmp hx hb dX6_innerSixFits_85 ?_
  refine lv_if_eq (tgt := 108) hx hb dX6_innerSixFits_86 (by decide) (fun c7 => ?_) (fun c7 => ?_)
  · have h := h.1 c7
    refine lv_iconst (v := (0 : Int32)) hx hb dX6_innerSixFits_108 (by decide) ?_
    exact cpzret (Z := (fun r M' L' => Z r M' L')) hx hb hr hlocks hK hI dX6_innerSixFits_109 ⟨isB_0, h⟩
  · have h := h.2 c7
    refine lv_lload hx hb dX6_innerSixFits_89 (lv_at hl 0 rfl) ?_
    refine lv_ldc2 (own := RX6) (v := (-1 : Int64)) hx hb hown (hu _ uww_423) dX6_innerSixFits_91 ?_
    refine W.lcmp hx hb dX6_innerSixFits_94 ?_
    refine lv_if_eq (tgt := 108) hx hb dX6_innerSixFits_95 (by decide) (fun c8 => ?_) (fun c8 => ?_)
    · have h := h.1 c8
      refine lv_iconst (v := (0 : Int32)) hx hb dX6_innerSixFits_108 (by decide) ?_
      exact cpzret (Z := (fun r M' L' => Z r M' L')) hx hb hr hlocks hK hI dX6_innerSixFits_109 ⟨isB_0, h⟩
    · have h := h.2 c8
      refine lv_aload_n hx hb dX6_innerSixFits_98 rfl (lv_at hl 3 rfl) ?_
      refine va_get (D := (dC, dI)) (ci := 4) (v := .int (M 14 3)) (C := RX5) (T := TX5) (N := 16) hx hb hu uX5 hown hK hI.1 14 rfl rfl 3 (by decide) (hu _ uww_425) (u_same (hu _ uww_183)) rfl dX6_innerSixFits_99 ?_
      refine cpcalli_p hsz hI (va_runS (As := [.int (M 14 3)]) (rest := []) ⟨hx, hb, hml, hown, hu⟩ (met_X6_neverFromSix l dC dI a kA t _ M L (M 14 3) _ h) (cwl_X6_426_S hu ⟨by decide, by decide⟩) (cppreS hK hE hsz hI) rfl rfl hl.1 rfl (lv_room (Nat.le_of_ble_eq_true rfl)) dX6_innerSixFits_102 ⟨by decide, by decide⟩) (fun r9 H locs h hI => ?_)
      refine lv_if_eq (tgt := 110) hx hb dX6_innerSixFits_105 (by decide) (fun c10 => ?_) (fun c10 => ?_)
      · have h := h.1 c10
        refine lv_aload_n hx hb dX6_innerSixFits_110 rfl (lv_at hl 3 rfl) ?_
        refine lv_lload_n hx hb dX6_innerSixFits_111 rfl (lv_at hl 1 rfl) ?_
        refine lv_lload hx hb dX6_innerSixFits_112 (lv_at hl 0 rfl) ?_
        refine cpcallv hsz hI (va_runV (As := [.long r3, .long r6]) (rest := []) ⟨hx, hb, hml, hown, hu⟩ (met_X5_setFour_14 l dC dI a kA t _ M L r3 r6 _ h) (cwl_X6_392_X5 hu ⟨by decide, by decide⟩) (cppre (ci := 4) hK hE hsz hI rfl rfl) rfl rfl hl.1 rfl (lv_room (Nat.le_of_ble_eq_true rfl)) dX6_innerSixFits_114 ⟨by decide, by decide⟩) (fun M11 L12 H locs h hI => ?_)
        refine lv_bipush (v := (20 : Int32)) hx hb dX6_innerSixFits_117 (by decide) ?_
        refine lv_aload_n hx hb dX6_innerSixFits_119 rfl (lv_at hl 3 rfl) ?_
        refine va_get (D := (dC, dI)) (ci := 4) (v := .int (M11 14 8)) (C := RX5) (T := TX5) (N := 16) hx hb hu uX5 hown hK hI.1 14 rfl rfl 8 (by decide) (hu _ uww_441) (u_same (hu _ uww_152)) rfl dX6_innerSixFits_120 ?_
        refine lv_iadd hx hb dX6_innerSixFits_123 ?_
        refine lv_ldcw (own := RX6) (v := (65535 : Int32)) hx hb hown (hu _ uww_300) dX6_innerSixFits_124 ?_
        refine lv_icmp_le (tgt := 132) hx hb dX6_innerSixFits_127 (by decide) (fun c13 => ?_) (fun c13 => ?_)
        · have h := h.1 c13
          refine lv_aload_n hx hb dX6_innerSixFits_132 rfl (lv_at hl 3 rfl) ?_
          refine va_get (D := (dC, dI)) (ci := 4) (v := .int (M11 14 3)) (C := RX5) (T := TX5) (N := 16) hx hb hu uX5 hown hK hI.1 14 rfl rfl 3 (by decide) (hu _ uww_425) (u_same (hu _ uww_183)) rfl dX6_innerSixFits_133 ?_
          refine lv_bipush (v := (58 : Int32)) hx hb dX6_innerSixFits_136 (by decide) ?_
          refine lv_icmp_eq (tgt := 143) hx hb dX6_innerSixFits_138 (by decide) (fun c14 => ?_) (fun c14 => ?_)
          · have h := h.1 c14
            refine lv_aload_n hx hb dX6_innerSixFits_143 rfl (lv_at hl 3 rfl) ?_
            refine cpcalli_p hsz hI (va_runU (As := []) (rest := []) ⟨hx, hb, hml, hown, hu⟩ (met_X2_fragment_14 l dC dI a kA t _ M11 L12  _ h) (cwl_X6_429_X5 hu ⟨by decide, by decide⟩) (cppre (ci := 4) hK hE hsz hI rfl rfl) rfl rfl hl.1 rfl (lv_room (Nat.le_of_ble_eq_true rfl)) dX6_innerSixFits_144 ⟨by decide, by decide⟩) (fun r15 H locs h hI => ?_)
            refine lv_if_ne (tgt := 179) hx hb dX6_innerSixFits_147 (by decide) (fun c16 => ?_) (fun c16 => ?_)
            · have h := h.1 c16
              refine lv_iconst (v := (0 : Int32)) hx hb dX6_innerSixFits_179 (by decide) ?_
              exact cpzret (Z := (fun r M' L' => Z r M' L')) hx hb hr hlocks hK hI dX6_innerSixFits_180 ⟨isB_0, h⟩
            · have h := h.2 c16
              refine lv_aload_n hx hb dX6_innerSixFits_150 rfl (lv_at hl 3 rfl) ?_
              refine va_get (D := (dC, dI)) (ci := 4) (v := .int (M11 14 9)) (C := RX5) (T := TX5) (N := 16) hx hb hu uX5 hown hK hI.1 14 rfl rfl 9 (by decide) (hu _ uww_465) (u_same (hu _ uww_171)) rfl dX6_innerSixFits_151 ?_
              refine lv_iconst (v := (4 : Int32)) hx hb dX6_innerSixFits_154 (by decide) ?_
              refine lv_icmp_lt (tgt := 179) hx hb dX6_innerSixFits_155 (by decide) (fun c17 => ?_) (fun c17 => ?_)
              · have h := h.1 c17
                refine lv_iconst (v := (0 : Int32)) hx hb dX6_innerSixFits_179 (by decide) ?_
                exact cpzret (Z := (fun r M' L' => Z r M' L')) hx hb hr hlocks hK hI dX6_innerSixFits_180 ⟨isB_0, h⟩
              · have h := h.2 c17
                refine lv_aload_n hx hb dX6_innerSixFits_158 rfl (lv_at hl 2 rfl) ?_
                refine va_get (D := (dC, dI)) (ci := 5) (v := .ref (a 1)) (C := RX6) (T := TX6) (N := 17) hx hb hu uX6 hown hK hI.1 0 rfl rfl 0 (by decide) (hu _ uww_213) (fun _ h9 => h9) rfl dX6_innerSixFits_159 ?_
                refine lv_aload_n hx hb dX6_innerSixFits_162 rfl (lv_at hl 3 rfl) ?_
                refine va_get (D := (dC, dI)) (ci := 4) (v := .int (M11 14 7)) (C := RX5) (T := TX5) (N := 16) hx hb hu uX5 hown hK hI.1 14 rfl rfl 7 (by decide) (hu _ uww_426) (u_same (hu _ uww_169)) rfl dX6_innerSixFits_163 ?_
                refine cpcalli_p hsz hI (va_runV (As := [.int (M11 14 7)]) (rest := []) ⟨hx, hb, hml, hown, hu⟩ (met_X4_at_1 l dC dI a kA t _ M11 L12 (M11 14 7) _ h) (cwl_X6_158_X4 hu ⟨by decide, by decide⟩) (cppre (ci := 3) hK hE hsz hI rfl rfl) rfl rfl hl.1 rfl (lv_room (Nat.le_of_ble_eq_true rfl)) dX6_innerSixFits_166 ⟨by decide, by decide⟩) (fun r18 H locs h hI => ?_)
                refine cpcalli_p hsz hI (va_runS (As := [.int r18]) (rest := []) ⟨hx, hb, hml, hown, hu⟩ (met_X6_isEchoSix l dC dI a kA t _ M11 L12 r18 _ h) (cwl_X6_430_S hu ⟨by decide, by decide⟩) (cppreS hK hE hsz hI) rfl rfl hl.1 rfl (lv_room (Nat.le_of_ble_eq_true rfl)) dX6_innerSixFits_169 ⟨by decide, by decide⟩) (fun r19 H locs h hI => ?_)
                refine lv_if_eq (tgt := 179) hx hb dX6_innerSixFits_172 (by decide) (fun c20 => ?_) (fun c20 => ?_)
                · have h := h.1 c20
                  refine lv_iconst (v := (0 : Int32)) hx hb dX6_innerSixFits_179 (by decide) ?_
                  exact cpzret (Z := (fun r M' L' => Z r M' L')) hx hb hr hlocks hK hI dX6_innerSixFits_180 ⟨isB_0, h⟩
                · have h := h.2 c20
                  refine lv_iconst (v := (1 : Int32)) hx hb dX6_innerSixFits_175 (by decide) ?_
                  refine lv_goto (tgt := 180) hx hb dX6_innerSixFits_176 (by decide) ?_
                  exact cpzret (Z := (fun r M' L' => Z r M' L')) hx hb hr hlocks hK hI dX6_innerSixFits_180 ⟨isB_1, h⟩
          · have h := h.2 c14
            refine lv_iconst (v := (1 : Int32)) hx hb dX6_innerSixFits_141 (by decide) ?_
            exact cpzret (Z := (fun r M' L' => Z r M' L')) hx hb hr hlocks hK hI dX6_innerSixFits_142 ⟨isB_1, h⟩
        · have h := h.2 c13
          refine lv_iconst (v := (0 : Int32)) hx hb dX6_innerSixFits_130 (by decide) ?_
          exact cpzret (Z := (fun r M' L' => Z r M' L')) hx hb hr hlocks hK hI dX6_innerSixFits_131 ⟨isB_0, h⟩
      · have h := h.2 c10
        refine lv_iconst (v := (0 : Int32)) hx hb dX6_innerSixFits_108 (by decide) ?_
        exact cpzret (Z := (fun r M' L' => Z r M' L')) hx hb hr hlocks hK hI dX6_innerSixFits_109 ⟨isB_0, h⟩

abbrev rm_X6_entry_t4 : Room := { frames := 0, cells := 0, slots := 0, locals := 0 }
abbrev av_X6_entry_t4 (a t : Nat → Nat) (p1 : Int64) : List Value := [.ref (t 4), .long p1]
abbrev qc_X6_entry_t4 (dC : Nat → ClassId) (dI : Nat → Nat → Nat) (a : Nat → Nat) (kA : Nat → ClassId) (sz : Nat) (M : cM) (L : cL) (Z : Int32 → Prop) : Array Value → State → Outcome → State → Prop := va_Qi (fun r (u : cM × cL) => u.1 = M ∧ u.2 = L ∧ Z r) (cpAt dC dI a kA (cpA a sz)) (cpA a sz)
set_option maxHeartbeats 4000000 in
set_option maxRecDepth 100000 in
theorem met_X6_entry_t4 (l : Launch) (dC : Nat → ClassId) (dI : Nat → Nat → Nat) (a : Nat → Nat) (kA : Nat → ClassId) (t : Nat → Nat) (sz : Nat) (M : cM) (L : cL) (p1 : Int64) (Z : Int32 → Prop) (h : wp_X6_entry_t4 M L p1 Z) : Met l yX6_entry (Cond.code yX6_entry cX6_entry 3 (some .int) :: uW) rm_X6_entry_t4 (va_Pc (av_X6_entry_t4 a t p1) (cpPre dC dI a kA t M L sz)) (qc_X6_entry_t4 dC dI a kA sz M L Z) 0 0 (cpA a sz) := by
  refine cpenter (cc := cX6_entry) (n := 3) (ret := (some .int)) (by decide) rfl (Nat.le_of_ble_eq_true rfl) ?_
  intro p e s m below meth c ls hx hb hml hr hlocks hown hts hK hE hsz hI hl hmn
  have hu : ∀ w ∈ uW, w.before (av_X6_entry_t4 a t p1).toArray s = true := fun w h => hts w (List.mem_cons_of_mem _ h)
  have hown : s.vm.findClass RX6 = some m.cls := hown
  have hl : lv_has ls 3 [(0, .ref (t 4)), (1, .long p1)] := hl
  unfold wp_X6_entry_t4 at h
  refine lv_lload_n hx hb dX6_entry_0 rfl (lv_at hl 1 rfl) ?_
  refine lv_lconst (v := (0 : Int64)) hx hb dX6_entry_1 (by decide) ?_
  refine W.lcmp hx hb dX6_entry_2 ?_
  refine lv_if_lt (tgt := 21) hx hb dX6_entry_3 (by decide) (fun c1 => ?_) (fun c1 => ?_)
  · have h := h.1 c1
    refine lv_iconst (v := (-1 : Int32)) hx hb dX6_entry_21 (by decide) ?_
    exact cpiret (Z := (fun r M' L' => M' = M ∧ L' = L ∧ Z r)) hx hb hr hlocks hK hI dX6_entry_22 ⟨rfl, rfl, h⟩
  · have h := h.2 c1
    refine lv_lload_n hx hb dX6_entry_6 rfl (lv_at hl 1 rfl) ?_
    refine lv_aload_n hx hb dX6_entry_7 rfl (lv_at hl 0 rfl) ?_
    refine va_tlen (v := (40 : Int32)) hx hb hE.2.2.2.2.2.2 hI.2.2 (by decide) dX6_entry_8 ?_
    refine lv_i2l hx hb dX6_entry_9 rfl ?_
    refine W.lcmp hx hb dX6_entry_10 ?_
    refine lv_if_ge (tgt := 21) hx hb dX6_entry_11 (by decide) (fun c2 => ?_) (fun c2 => ?_)
    · have h := h.1 c2
      refine lv_iconst (v := (-1 : Int32)) hx hb dX6_entry_21 (by decide) ?_
      exact cpiret (Z := (fun r M' L' => M' = M ∧ L' = L ∧ Z r)) hx hb hr hlocks hK hI dX6_entry_22 ⟨rfl, rfl, h⟩
    · have h := h.2 c2
      refine lv_aload_n hx hb dX6_entry_14 rfl (lv_at hl 0 rfl) ?_
      refine lv_lload_n hx hb dX6_entry_15 rfl (lv_at hl 1 rfl) ?_
      refine lv_l2i hx hb dX6_entry_16 rfl ?_
      refine va_ti hx hb hE.2.2.2.2.2.2 hI.2.2 h.1 rfl dX6_entry_17 ?_
      have h := h.2
      refine lv_goto (tgt := 22) hx hb dX6_entry_18 (by decide) ?_
      exact cpiret (Z := (fun r M' L' => M' = M ∧ L' = L ∧ Z r)) hx hb hr hlocks hK hI dX6_entry_22 ⟨rfl, rfl, h⟩

abbrev rm_X6_secondToFour_0 : Room := { frames := 1, cells := 0, slots := 0, locals := 22 }
abbrev av_X6_secondToFour_0 (a t : Nat → Nat) (p1 : Int32) (p2 : Int64) : List Value := [.ref (a 0), .int p1, .long p2]
abbrev qc_X6_secondToFour_0 (dC : Nat → ClassId) (dI : Nat → Nat → Nat) (a : Nat → Nat) (kA : Nat → ClassId) (sz : Nat) (M : cM) (L : cL) (Z : Int32 → Prop) : Array Value → State → Outcome → State → Prop := va_Qi (fun r (u : cM × cL) => u.1 = M ∧ u.2 = L ∧ Z r) (cpAt dC dI a kA (cpA a sz)) (cpA a sz)
set_option maxHeartbeats 4000000 in
set_option maxRecDepth 100000 in
theorem met_X6_secondToFour_0 (l : Launch) (dC : Nat → ClassId) (dI : Nat → Nat → Nat) (a : Nat → Nat) (kA : Nat → ClassId) (t : Nat → Nat) (sz : Nat) (M : cM) (L : cL) (p1 : Int32) (p2 : Int64) (Z : Int32 → Prop) (h : wp_X6_secondToFour_0 M L p1 p2 Z) : Met l yX6_secondToFour (Cond.code yX6_secondToFour cX6_secondToFour 6 (some .int) :: uW) rm_X6_secondToFour_0 (va_Pc (av_X6_secondToFour_0 a t p1 p2) (cpPre dC dI a kA t M L sz)) (qc_X6_secondToFour_0 dC dI a kA sz M L Z) 0 0 (cpA a sz) := by
  refine cpenter (cc := cX6_secondToFour) (n := 6) (ret := (some .int)) (by decide) rfl (Nat.le_of_ble_eq_true rfl) ?_
  intro p e s m below meth c ls hx hb hml hr hlocks hown hts hK hE hsz hI hl hmn
  have hu : ∀ w ∈ uW, w.before (av_X6_secondToFour_0 a t p1 p2).toArray s = true := fun w h => hts w (List.mem_cons_of_mem _ h)
  have hown : s.vm.findClass RX6 = some m.cls := hown
  have hl : lv_has ls 6 [(0, .ref (a 0)), (1, .int p1), (2, .long p2)] := hl
  unfold wp_X6_secondToFour_0 at h
  refine lv_iload_n hx hb dX6_secondToFour_0 rfl (lv_at hl 1 rfl) ?_
  refine lv_sipush (v := (772 : Int32)) hx hb dX6_secondToFour_1 (by decide) ?_
  refine lv_icmp_ne (tgt := 40) hx hb dX6_secondToFour_4 (by decide) (fun c1 => ?_) (fun c1 => ?_)
  · have h := h.1 c1
    refine lv_iload_n hx hb dX6_secondToFour_40 rfl (lv_at hl 1 rfl) ?_
    refine lv_sipush (v := (3072 : Int32)) hx hb dX6_secondToFour_41 (by decide) ?_
    refine lv_icmp_eq (tgt := 49) hx hb dX6_secondToFour_44 (by decide) (fun c2 => ?_) (fun c2 => ?_)
    · have h := h.1 c2
      refine va_gets hx hb hE.2.2.2.2.2.1 hI.2.2 hown (hu _ uww_487) (fun _ h9 => h9) dX6_secondToFour_49 ?_
      refine lv_lload_n hx hb dX6_secondToFour_52 rfl (lv_at hl 2 rfl) ?_
      refine cpcalli_p hsz hI (va_runS (As := [.ref (t 4), .long p2]) (rest := []) ⟨hx, hb, hml, hown, hu⟩ (met_X6_entry_t4 l dC dI a kA t _ M L p2 _ h) (cwl_X6_340_S hu ⟨by decide, by decide⟩) (cppreS hK hE hsz hI) rfl rfl hl.1 rfl (lv_room (Nat.le_of_ble_eq_true rfl)) dX6_secondToFour_53 ⟨by decide, by decide⟩) (fun r3 H locs h hI => ?_)
      refine lv_istore (lv' := [(4, .int r3), (0, .ref (a 0)), (1, .int p1), (2, .long p2)]) hx hb dX6_secondToFour_56 hl (by decide) rfl (fun ls hl => ?_)
      refine lv_iload hx hb dX6_secondToFour_58 (lv_at hl 0 rfl) ?_
      refine lv_iconst (v := (-1 : Int32)) hx hb dX6_secondToFour_60 (by decide) ?_
      refine lv_icmp_ne (tgt := 68) hx hb dX6_secondToFour_61 (by decide) (fun c4 => ?_) (fun c4 => ?_)
      · have h := h.1 c4
        refine lv_iload hx hb dX6_secondToFour_68 (lv_at hl 0 rfl) ?_
        refine lv_bipush (v := (24 : Int32)) hx hb dX6_secondToFour_70 (by decide) ?_
        refine lv_ishl hx hb dX6_secondToFour_72 ?_
        exact cpiret (Z := (fun r M' L' => M' = M ∧ L' = L ∧ Z r)) hx hb hr hlocks hK hI dX6_secondToFour_73 ⟨rfl, rfl, h⟩
      · have h := h.2 c4
        refine lv_iconst (v := (-1 : Int32)) hx hb dX6_secondToFour_64 (by decide) ?_
        refine lv_goto (tgt := 73) hx hb dX6_secondToFour_65 (by decide) ?_
        exact cpiret (Z := (fun r M' L' => M' = M ∧ L' = L ∧ Z r)) hx hb hr hlocks hK hI dX6_secondToFour_73 ⟨rfl, rfl, h⟩
    · have h := h.2 c2
      refine lv_iconst (v := (0 : Int32)) hx hb dX6_secondToFour_47 (by decide) ?_
      exact cpiret (Z := (fun r M' L' => M' = M ∧ L' = L ∧ Z r)) hx hb hr hlocks hK hI dX6_secondToFour_48 ⟨rfl, rfl, h⟩
  · have h := h.2 c1
    refine lv_lconst (v := (0 : Int64)) hx hb dX6_secondToFour_7 (by decide) ?_
    refine lv_lload_n hx hb dX6_secondToFour_8 rfl (lv_at hl 2 rfl) ?_
    refine lv_ldc2 (own := RX6) (v := (20 : Int64)) hx hb hown (hu _ uww_480) dX6_secondToFour_9 ?_
    refine lv_lsub hx hb dX6_secondToFour_12 ?_
    refine va_mmax_long hx hb (hml.trans hl.1.symm) hown (hu _ uww_481) (hu _ uww_482) (hu _ uww_43) (hu _ uww_483) (Nat.le_of_ble_eq_true rfl) (Nat.le_of_ble_eq_true rfl) (Nat.le_of_ble_eq_true rfl) (Nat.le_of_ble_eq_true rfl) dX6_secondToFour_13 ?_
    refine lv_topl (fun x5 ex5 => ?_)
    have h := h x5 ex5
    refine lv_lstore (lv' := [(4, .long x5), (0, .ref (a 0)), (1, .int p1), (2, .long p2)]) hx hb dX6_secondToFour_16 hl (by decide) rfl (fun ls hl => ?_)
    refine lv_lload hx hb dX6_secondToFour_18 (lv_at hl 0 rfl) ?_
    refine lv_aload_n hx hb dX6_secondToFour_20 rfl (lv_at hl 1 rfl) ?_
    refine va_get (D := (dC, dI)) (ci := 5) (v := .int (M 0 12)) (C := RX6) (T := TX6) (N := 17) hx hb hu uX6 hown hK hI.1 0 rfl rfl 12 (by decide) (hu _ uww_236) (fun _ h9 => h9) rfl dX6_secondToFour_21 ?_
    refine lv_aload_n hx hb dX6_secondToFour_24 rfl (lv_at hl 1 rfl) ?_
    refine va_get (D := (dC, dI)) (ci := 5) (v := .int (M 0 13)) (C := RX6) (T := TX6) (N := 17) hx hb hu uX6 hown hK hI.1 0 rfl rfl 13 (by decide) (hu _ uww_237) (fun _ h9 => h9) rfl dX6_secondToFour_25 ?_
    refine lv_bipush (v := (20 : Int32)) hx hb dX6_secondToFour_28 (by decide) ?_
    refine lv_isub hx hb dX6_secondToFour_30 ?_
    refine va_mmin hx hb (hml.trans hl.1.symm) hown (hu _ uww_286) (hu _ uww_42) (hu _ uww_43) (hu _ uww_44) (Nat.le_of_ble_eq_true rfl) (Nat.le_of_ble_eq_true rfl) (Nat.le_of_ble_eq_true rfl) (Nat.le_of_ble_eq_true rfl) dX6_secondToFour_31 ?_
    refine lv_i2l hx hb dX6_secondToFour_34 rfl ?_
    refine va_mmin_long hx hb (hml.trans hl.1.symm) hown (hu _ uww_484) (hu _ uww_485) (hu _ uww_43) (hu _ uww_486) (Nat.le_of_ble_eq_true rfl) (Nat.le_of_ble_eq_true rfl) (Nat.le_of_ble_eq_true rfl) (Nat.le_of_ble_eq_true rfl) dX6_secondToFour_35 ?_
    refine lv_l2i hx hb dX6_secondToFour_38 rfl ?_
    exact cpiret (Z := (fun r M' L' => M' = M ∧ L' = L ∧ Z r)) hx hb hr hlocks hK hI dX6_secondToFour_39 ⟨rfl, rfl, h⟩

abbrev rm_X5_flags_14 : Room := { frames := 0, cells := 0, slots := 0, locals := 0 }
abbrev av_X5_flags_14 (a t : Nat → Nat) (p1 : Int32) : List Value := [.ref (a 14), .int p1]
abbrev qc_X5_flags_14 (dC : Nat → ClassId) (dI : Nat → Nat → Nat) (a : Nat → Nat) (kA : Nat → ClassId) (sz : Nat) (M : cM) (L : cL) (Z : Int32 → Prop) : Array Value → State → Outcome → State → Prop := va_Qi (fun r (u : cM × cL) => u.1 = M ∧ u.2 = L ∧ Z r) (cpAt dC dI a kA (cpA a sz)) (cpA a sz)
set_option maxHeartbeats 4000000 in
set_option maxRecDepth 100000 in
theorem met_X5_flags_14 (l : Launch) (dC : Nat → ClassId) (dI : Nat → Nat → Nat) (a : Nat → Nat) (kA : Nat → ClassId) (t : Nat → Nat) (sz : Nat) (M : cM) (L : cL) (p1 : Int32) (Z : Int32 → Prop) (h : wp_X5_flags_14 M L p1 Z) : Met l yX5_flags (Cond.code yX5_flags cX5_flags 2 (some .int) :: uW) rm_X5_flags_14 (va_Pc (av_X5_flags_14 a t p1) (cpPre dC dI a kA t M L sz)) (qc_X5_flags_14 dC dI a kA sz M L Z) 0 0 (cpA a sz) := by
  refine cpenter (cc := cX5_flags) (n := 2) (ret := (some .int)) (by decide) rfl (Nat.le_of_ble_eq_true rfl) ?_
  intro p e s m below meth c ls hx hb hml hr hlocks hown hts hK hE hsz hI hl hmn
  have hu : ∀ w ∈ uW, w.before (av_X5_flags_14 a t p1).toArray s = true := fun w h => hts w (List.mem_cons_of_mem _ h)
  have hown : s.vm.findClass RX5 = some m.cls := hown
  have hl : lv_has ls 2 [(0, .ref (a 14)), (1, .int p1)] := hl
  unfold wp_X5_flags_14 at h
  refine lv_aload_n hx hb dX5_flags_0 rfl (lv_at hl 0 rfl) ?_
  refine va_get (D := (dC, dI)) (ci := 4) (v := .int (M 14 14)) (C := RX5) (T := TX5) (N := 16) hx hb hu uX5 hown hK hI.1 14 rfl rfl 14 (by decide) (hu _ uww_180) (fun _ h9 => h9) rfl dX5_flags_1 ?_
  refine lv_if_ne (tgt := 22) hx hb dX5_flags_4 (by decide) (fun c1 => ?_) (fun c1 => ?_)
  · have h := h.1 c1
    refine lv_aload_n hx hb dX5_flags_22 rfl (lv_at hl 0 rfl) ?_
    refine va_get (D := (dC, dI)) (ci := 4) (v := .int (M 14 6)) (C := RX5) (T := TX5) (N := 16) hx hb hu uX5 hown hK hI.1 14 rfl rfl 6 (by decide) (hu _ uww_178) (u_same (hu _ uww_179)) rfl dX5_flags_23 ?_
    refine lv_aload_n hx hb dX5_flags_26 rfl (lv_at hl 0 rfl) ?_
    refine va_get (D := (dC, dI)) (ci := 4) (v := .int (M 14 5)) (C := RX5) (T := TX5) (N := 16) hx hb hu uX5 hown hK hI.1 14 rfl rfl 5 (by decide) (hu _ uww_149) (u_same (hu _ uww_150)) rfl dX5_flags_27 ?_
    refine lv_if_eq (tgt := 39) hx hb dX5_flags_30 (by decide) (fun c2 => ?_) (fun c2 => ?_)
    · have h := h.1 c2
      refine lv_iconst (v := (0 : Int32)) hx hb dX5_flags_39 (by decide) ?_
      refine lv_ior hx hb dX5_flags_40 ?_
      exact cpiret (Z := (fun r M' L' => M' = M ∧ L' = L ∧ Z r)) hx hb hr hlocks hK hI dX5_flags_41 ⟨rfl, rfl, h⟩
    · have h := h.2 c2
      refine lv_sipush (v := (8192 : Int32)) hx hb dX5_flags_33 (by decide) ?_
      refine lv_goto (tgt := 40) hx hb dX5_flags_36 (by decide) ?_
      refine lv_ior hx hb dX5_flags_40 ?_
      exact cpiret (Z := (fun r M' L' => M' = M ∧ L' = L ∧ Z r)) hx hb hr hlocks hK hI dX5_flags_41 ⟨rfl, rfl, h⟩
  · have h := h.2 c1
    refine lv_iload_n hx hb dX5_flags_7 rfl (lv_at hl 1 rfl) ?_
    refine lv_sipush (v := (1260 : Int32)) hx hb dX5_flags_8 (by decide) ?_
    refine lv_icmp_le (tgt := 20) hx hb dX5_flags_11 (by decide) (fun c3 => ?_) (fun c3 => ?_)
    · have h := h.1 c3
      refine lv_iconst (v := (0 : Int32)) hx hb dX5_flags_20 (by decide) ?_
      exact cpiret (Z := (fun r M' L' => M' = M ∧ L' = L ∧ Z r)) hx hb hr hlocks hK hI dX5_flags_21 ⟨rfl, rfl, h⟩
    · have h := h.2 c3
      refine lv_sipush (v := (16384 : Int32)) hx hb dX5_flags_14 (by decide) ?_
      refine lv_goto (tgt := 21) hx hb dX5_flags_17 (by decide) ?_
      exact cpiret (Z := (fun r M' L' => M' = M ∧ L' = L ∧ Z r)) hx hb hr hlocks hK hI dX5_flags_21 ⟨rfl, rfl, h⟩

abbrev rm_X6_putFourHeader_0_3_14 : Room := { frames := 2, cells := 0, slots := 0, locals := 47 }
abbrev av_X6_putFourHeader_0_3_14 (a t : Nat → Nat) (p2 : Int32) (p4 : Int32) (p5 : Int32) (p6 : Int32) (p7 : Int32) : List Value := [.ref (a 0), .ref (a 3), .int p2, .ref (a 14), .int p4, .int p5, .int p6, .int p7]
abbrev qc_X6_putFourHeader_0_3_14 (dC : Nat → ClassId) (dI : Nat → Nat → Nat) (a : Nat → Nat) (kA : Nat → ClassId) (sz : Nat) (M : cM) (L : cL) (Z : cM → Prop) : Array Value → State → Outcome → State → Prop := va_Qv (fun (u : cM × cL) => u.2 = L ∧ Z u.1) (cpAt dC dI a kA (cpA a sz)) (cpA a sz)
set_option maxHeartbeats 4000000 in
set_option maxRecDepth 100000 in
theorem met_X6_putFourHeader_0_3_14 (l : Launch) (dC : Nat → ClassId) (dI : Nat → Nat → Nat) (a : Nat → Nat) (kA : Nat → ClassId) (t : Nat → Nat) (sz : Nat) (M : cM) (L : cL) (p2 : Int32) (p4 : Int32) (p5 : Int32) (p6 : Int32) (p7 : Int32) (Z : cM → Prop) (h : wp_X6_putFourHeader_0_3_14 M L p2 p4 p5 p6 p7 Z) : Met l yX6_putFourHeader (Cond.code yX6_putFourHeader cX6_putFourHeader 8 none :: uW) rm_X6_putFourHeader_0_3_14 (va_Pc (av_X6_putFourHeader_0_3_14 a t p2 p4 p5 p6 p7) (cpPre dC dI a kA t M L sz)) (qc_X6_putFourHeader_0_3_14 dC dI a kA sz M L Z) 0 0 (cpA a sz) := by
  refine cpenter (cc := cX6_putFourHeader) (n := 8) (ret := none) (by decide) rfl (Nat.le_of_ble_eq_true rfl) ?_
  intro p e s m below meth c ls hx hb hml hr hlocks hown hts hK hE hsz hI hl hmn
  have hu : ∀ w ∈ uW, w.before (av_X6_putFourHeader_0_3_14 a t p2 p4 p5 p6 p7).toArray s = true := fun w h => hts w (List.mem_cons_of_mem _ h)
  have hown : s.vm.findClass RX6 = some m.cls := hown
  have hl : lv_has ls 8 [(0, .ref (a 0)), (1, .ref (a 3)), (2, .int p2), (3, .ref (a 14)), (4, .int p4), (5, .int p5), (6, .int p6), (7, .int p7)] := hl
  unfold wp_X6_putFourHeader_0_3_14 at h
  refine lv_aload_n hx hb dX6_putFourHeader_0 rfl (lv_at hl 1 rfl) ?_
  refine lv_iload_n hx hb dX6_putFourHeader_1 rfl (lv_at hl 2 rfl) ?_
  refine lv_iconst (v := (1 : Int32)) hx hb dX6_putFourHeader_2 (by decide) ?_
  refine lv_ldc2 (own := RX6) (v := (69 : Int64)) hx hb hown (hu _ uww_500) dX6_putFourHeader_3 ?_
  refine cpcallv_m hsz hI (va_runV (As := [.int p2, .int (1 : Int32), .long (69 : Int64)]) (rest := []) ⟨hx, hb, hml, hown, hu⟩ (met_X4_put_3 l dC dI a kA t _ M L p2 (1 : Int32) (69 : Int64) _ h) (cwl_X6_99_X4 hu ⟨by decide, by decide⟩) (cppre (ci := 3) hK hE hsz hI rfl rfl) rfl rfl hl.1 rfl (lv_room (Nat.le_of_ble_eq_true rfl)) dX6_putFourHeader_6 ⟨by decide, by decide⟩) (fun M1 H locs h hI => ?_)
  refine lv_aload_n hx hb dX6_putFourHeader_9 rfl (lv_at hl 1 rfl) ?_
  refine lv_iload_n hx hb dX6_putFourHeader_10 rfl (lv_at hl 2 rfl) ?_
  refine lv_iconst (v := (1 : Int32)) hx hb dX6_putFourHeader_11 (by decide) ?_
  refine lv_iadd hx hb dX6_putFourHeader_12 ?_
  refine lv_iconst (v := (1 : Int32)) hx hb dX6_putFourHeader_13 (by decide) ?_
  refine lv_aload_n hx hb dX6_putFourHeader_14 rfl (lv_at hl 0 rfl) ?_
  refine va_get (D := (dC, dI)) (ci := 5) (v := .int (M1 0 14)) (C := RX6) (T := TX6) (N := 17) hx hb hu uX6 hown hK hI.1 0 rfl rfl 14 (by decide) (hu _ uww_238) (fun _ h9 => h9) rfl dX6_putFourHeader_15 ?_
  obtain ⟨K30, hK30, h⟩ := h
  have J30 : ∀ (v2 : Int64) (H : Heap) (locs : List Loc) (ls : Array Slot), K30 v2 → cpI dC dI a kA (cpA a sz) s M1 L H locs → lv_has ls 8 [(1, .ref (a 3)), (2, .int p2), (3, .ref (a 14)), (4, .int p4), (5, .int p5), (6, .int p6), (7, .int p7)] → W p l e rm_X6_putFourHeader_0_3_14 s m (av_X6_putFourHeader_0_3_14 a t p2 p4 p5 p6 p7).toArray below meth c H locs 0 0 (MQ below (qc_X6_putFourHeader_0_3_14 dC dI a kA sz M L Z) (av_X6_putFourHeader_0_3_14 a t p2 p4 p5 p6 p7).toArray s 0 0 (cpA a sz)) (F0 m 30 ls [.long v2, .int (1 : Int32), .int (p2 + (1 : Int32)), .ref (a 3)]) := by
    intro v2 H locs ls h hI hl
    have h := hK30 v2 h
    refine cpcallv_m hsz hI (va_runV (As := [.int (p2 + (1 : Int32)), .int (1 : Int32), .long v2]) (rest := []) ⟨hx, hb, hml, hown, hu⟩ (met_X4_put_3 l dC dI a kA t _ M1 L (p2 + (1 : Int32)) (1 : Int32) v2 _ h) (cwl_X6_99_X4 hu ⟨by decide, by decide⟩) (cppre (ci := 3) hK hE hsz hI rfl rfl) rfl rfl hl.1 rfl (lv_room (Nat.le_of_ble_eq_true rfl)) dX6_putFourHeader_30 ⟨by decide, by decide⟩) (fun M3 H locs h hI => ?_)
    refine lv_aload_n hx hb dX6_putFourHeader_33 rfl (lv_at hl 0 rfl) ?_
    refine lv_iload_n hx hb dX6_putFourHeader_34 rfl (lv_at hl 1 rfl) ?_
    refine lv_iconst (v := (2 : Int32)) hx hb dX6_putFourHeader_35 (by decide) ?_
    refine lv_iadd hx hb dX6_putFourHeader_36 ?_
    refine lv_iconst (v := (2 : Int32)) hx hb dX6_putFourHeader_37 (by decide) ?_
    refine lv_iload hx hb dX6_putFourHeader_38 (lv_at hl 3 rfl) ?_
    refine lv_i2l hx hb dX6_putFourHeader_40 rfl ?_
    refine cpcallv_m hsz hI (va_runV (As := [.int (p2 + (2 : Int32)), .int (2 : Int32), .long (p4.toInt64)]) (rest := []) ⟨hx, hb, hml, hown, hu⟩ (met_X4_put_3 l dC dI a kA t _ M3 L (p2 + (2 : Int32)) (2 : Int32) (p4.toInt64) _ h) (cwl_X6_99_X4 hu ⟨by decide, by decide⟩) (cppre (ci := 3) hK hE hsz hI rfl rfl) rfl rfl hl.1 rfl (lv_room (Nat.le_of_ble_eq_true rfl)) dX6_putFourHeader_41 ⟨by decide, by decide⟩) (fun M4 H locs h hI => ?_)
    refine lv_aload_n hx hb dX6_putFourHeader_44 rfl (lv_at hl 0 rfl) ?_
    refine lv_iload_n hx hb dX6_putFourHeader_45 rfl (lv_at hl 1 rfl) ?_
    refine lv_iconst (v := (4 : Int32)) hx hb dX6_putFourHeader_46 (by decide) ?_
    refine lv_iadd hx hb dX6_putFourHeader_47 ?_
    refine lv_iconst (v := (2 : Int32)) hx hb dX6_putFourHeader_48 (by decide) ?_
    refine lv_iload hx hb dX6_putFourHeader_49 (lv_at hl 5 rfl) ?_
    refine lv_i2l hx hb dX6_putFourHeader_51 rfl ?_
    refine cpcallv_m hsz hI (va_runV (As := [.int (p2 + (4 : Int32)), .int (2 : Int32), .long (p6.toInt64)]) (rest := []) ⟨hx, hb, hml, hown, hu⟩ (met_X4_put_3 l dC dI a kA t _ M4 L (p2 + (4 : Int32)) (2 : Int32) (p6.toInt64) _ h) (cwl_X6_99_X4 hu ⟨by decide, by decide⟩) (cppre (ci := 3) hK hE hsz hI rfl rfl) rfl rfl hl.1 rfl (lv_room (Nat.le_of_ble_eq_true rfl)) dX6_putFourHeader_52 ⟨by decide, by decide⟩) (fun M5 H locs h hI => ?_)
    refine lv_aload_n hx hb dX6_putFourHeader_55 rfl (lv_at hl 0 rfl) ?_
    refine lv_iload_n hx hb dX6_putFourHeader_56 rfl (lv_at hl 1 rfl) ?_
    refine lv_bipush (v := (6 : Int32)) hx hb dX6_putFourHeader_57 (by decide) ?_
    refine lv_iadd hx hb dX6_putFourHeader_59 ?_
    refine lv_iconst (v := (2 : Int32)) hx hb dX6_putFourHeader_60 (by decide) ?_
    refine lv_iload hx hb dX6_putFourHeader_61 (lv_at hl 4 rfl) ?_
    refine lv_i2l hx hb dX6_putFourHeader_63 rfl ?_
    refine cpcallv_m hsz hI (va_runV (As := [.int (p2 + (6 : Int32)), .int (2 : Int32), .long (p5.toInt64)]) (rest := []) ⟨hx, hb, hml, hown, hu⟩ (met_X4_put_3 l dC dI a kA t _ M5 L (p2 + (6 : Int32)) (2 : Int32) (p5.toInt64) _ h) (cwl_X6_99_X4 hu ⟨by decide, by decide⟩) (cppre (ci := 3) hK hE hsz hI rfl rfl) rfl rfl hl.1 rfl (lv_room (Nat.le_of_ble_eq_true rfl)) dX6_putFourHeader_64 ⟨by decide, by decide⟩) (fun M6 H locs h hI => ?_)
    refine lv_aload_n hx hb dX6_putFourHeader_67 rfl (lv_at hl 0 rfl) ?_
    refine lv_iload_n hx hb dX6_putFourHeader_68 rfl (lv_at hl 1 rfl) ?_
    refine lv_bipush (v := (8 : Int32)) hx hb dX6_putFourHeader_69 (by decide) ?_
    refine lv_iadd hx hb dX6_putFourHeader_71 ?_
    refine lv_iconst (v := (1 : Int32)) hx hb dX6_putFourHeader_72 (by decide) ?_
    refine lv_iload hx hb dX6_putFourHeader_73 (lv_at hl 6 rfl) ?_
    refine lv_i2l hx hb dX6_putFourHeader_75 rfl ?_
    refine cpcallv_m hsz hI (va_runV (As := [.int (p2 + (8 : Int32)), .int (1 : Int32), .long (p7.toInt64)]) (rest := []) ⟨hx, hb, hml, hown, hu⟩ (met_X4_put_3 l dC dI a kA t _ M6 L (p2 + (8 : Int32)) (1 : Int32) (p7.toInt64) _ h) (cwl_X6_99_X4 hu ⟨by decide, by decide⟩) (cppre (ci := 3) hK hE hsz hI rfl rfl) rfl rfl hl.1 rfl (lv_room (Nat.le_of_ble_eq_true rfl)) dX6_putFourHeader_76 ⟨by decide, by decide⟩) (fun M7 H locs h hI => ?_)
    refine lv_aload_n hx hb dX6_putFourHeader_79 rfl (lv_at hl 0 rfl) ?_
    refine lv_iload_n hx hb dX6_putFourHeader_80 rfl (lv_at hl 1 rfl) ?_
    refine lv_bipush (v := (9 : Int32)) hx hb dX6_putFourHeader_81 (by decide) ?_
    refine lv_iadd hx hb dX6_putFourHeader_83 ?_
    refine lv_iconst (v := (1 : Int32)) hx hb dX6_putFourHeader_84 (by decide) ?_
    refine lv_aload_n hx hb dX6_putFourHeader_85 rfl (lv_at hl 2 rfl) ?_
    refine va_get (D := (dC, dI)) (ci := 4) (v := .int (M7 14 3)) (C := RX5) (T := TX5) (N := 16) hx hb hu uX5 hown hK hI.1 14 rfl rfl 3 (by decide) (hu _ uww_425) (u_same (hu _ uww_183)) rfl dX6_putFourHeader_86 ?_
    refine lv_bipush (v := (58 : Int32)) hx hb dX6_putFourHeader_89 (by decide) ?_
    obtain ⟨K103, hK103, h⟩ := h
    have J103 : ∀ (v8 : Int64) (H : Heap) (locs : List Loc) (ls : Array Slot), K103 v8 → cpI dC dI a kA (cpA a sz) s M7 L H locs → lv_has ls 8 [(1, .ref (a 3)), (2, .int p2), (3, .ref (a 14))] → W p l e rm_X6_putFourHeader_0_3_14 s m (av_X6_putFourHeader_0_3_14 a t p2 p4 p5 p6 p7).toArray below meth c H locs 0 0 (MQ below (qc_X6_putFourHeader_0_3_14 dC dI a kA sz M L Z) (av_X6_putFourHeader_0_3_14 a t p2 p4 p5 p6 p7).toArray s 0 0 (cpA a sz)) (F0 m 103 ls [.long v8, .int (1 : Int32), .int (p2 + (9 : Int32)), .ref (a 3)]) := by
      intro v8 H locs ls h hI hl
      have h := hK103 v8 h
      refine cpcallv_m hsz hI (va_runV (As := [.int (p2 + (9 : Int32)), .int (1 : Int32), .long v8]) (rest := []) ⟨hx, hb, hml, hown, hu⟩ (met_X4_put_3 l dC dI a kA t _ M7 L (p2 + (9 : Int32)) (1 : Int32) v8 _ h) (cwl_X6_99_X4 hu ⟨by decide, by decide⟩) (cppre (ci := 3) hK hE hsz hI rfl rfl) rfl rfl hl.1 rfl (lv_room (Nat.le_of_ble_eq_true rfl)) dX6_putFourHeader_103 ⟨by decide, by decide⟩) (fun M9 H locs h hI => ?_)
      refine lv_aload_n hx hb dX6_putFourHeader_106 rfl (lv_at hl 0 rfl) ?_
      refine lv_iload_n hx hb dX6_putFourHeader_107 rfl (lv_at hl 1 rfl) ?_
      refine lv_bipush (v := (10 : Int32)) hx hb dX6_putFourHeader_108 (by decide) ?_
      refine lv_iadd hx hb dX6_putFourHeader_110 ?_
      refine lv_iconst (v := (2 : Int32)) hx hb dX6_putFourHeader_111 (by decide) ?_
      refine lv_lconst (v := (0 : Int64)) hx hb dX6_putFourHeader_112 (by decide) ?_
      refine cpcallv_m hsz hI (va_runV (As := [.int (p2 + (10 : Int32)), .int (2 : Int32), .long (0 : Int64)]) (rest := []) ⟨hx, hb, hml, hown, hu⟩ (met_X4_put_3 l dC dI a kA t _ M9 L (p2 + (10 : Int32)) (2 : Int32) (0 : Int64) _ h) (cwl_X6_99_X4 hu ⟨by decide, by decide⟩) (cppre (ci := 3) hK hE hsz hI rfl rfl) rfl rfl hl.1 rfl (lv_room (Nat.le_of_ble_eq_true rfl)) dX6_putFourHeader_113 ⟨by decide, by decide⟩) (fun M10 H locs h hI => ?_)
      refine lv_aload_n hx hb dX6_putFourHeader_116 rfl (lv_at hl 0 rfl) ?_
      refine lv_iload_n hx hb dX6_putFourHeader_117 rfl (lv_at hl 1 rfl) ?_
      refine lv_bipush (v := (12 : Int32)) hx hb dX6_putFourHeader_118 (by decide) ?_
      refine lv_iadd hx hb dX6_putFourHeader_120 ?_
      refine lv_iconst (v := (4 : Int32)) hx hb dX6_putFourHeader_121 (by decide) ?_
      refine lv_aload_n hx hb dX6_putFourHeader_122 rfl (lv_at hl 2 rfl) ?_
      refine va_get (D := (dC, dI)) (ci := 4) (v := .int (M10 14 10)) (C := RX5) (T := TX5) (N := 16) hx hb hu uX5 hown hK hI.1 14 rfl rfl 10 (by decide) (hu _ uww_502) (u_same (hu _ uww_202)) rfl dX6_putFourHeader_123 ?_
      refine lv_i2l hx hb dX6_putFourHeader_126 rfl ?_
      refine cpcallv_m hsz hI (va_runV (As := [.int (p2 + (12 : Int32)), .int (4 : Int32), .long ((M10 14 10).toInt64)]) (rest := []) ⟨hx, hb, hml, hown, hu⟩ (met_X4_put_3 l dC dI a kA t _ M10 L (p2 + (12 : Int32)) (4 : Int32) ((M10 14 10).toInt64) _ h) (cwl_X6_99_X4 hu ⟨by decide, by decide⟩) (cppre (ci := 3) hK hE hsz hI rfl rfl) rfl rfl hl.1 rfl (lv_room (Nat.le_of_ble_eq_true rfl)) dX6_putFourHeader_127 ⟨by decide, by decide⟩) (fun M11 H locs h hI => ?_)
      refine lv_aload_n hx hb dX6_putFourHeader_130 rfl (lv_at hl 0 rfl) ?_
      refine lv_iload_n hx hb dX6_putFourHeader_131 rfl (lv_at hl 1 rfl) ?_
      refine lv_bipush (v := (16 : Int32)) hx hb dX6_putFourHeader_132 (by decide) ?_
      refine lv_iadd hx hb dX6_putFourHeader_134 ?_
      refine lv_iconst (v := (4 : Int32)) hx hb dX6_putFourHeader_135 (by decide) ?_
      refine lv_aload_n hx hb dX6_putFourHeader_136 rfl (lv_at hl 2 rfl) ?_
      refine va_get (D := (dC, dI)) (ci := 4) (v := .int (M11 14 11)) (C := RX5) (T := TX5) (N := 16) hx hb hu uX5 hown hK hI.1 14 rfl rfl 11 (by decide) (hu _ uww_503) (u_same (hu _ uww_204)) rfl dX6_putFourHeader_137 ?_
      refine lv_i2l hx hb dX6_putFourHeader_140 rfl ?_
      refine cpcallv_m hsz hI (va_runV (As := [.int (p2 + (16 : Int32)), .int (4 : Int32), .long ((M11 14 11).toInt64)]) (rest := []) ⟨hx, hb, hml, hown, hu⟩ (met_X4_put_3 l dC dI a kA t _ M11 L (p2 + (16 : Int32)) (4 : Int32) ((M11 14 11).toInt64) _ h) (cwl_X6_99_X4 hu ⟨by decide, by decide⟩) (cppre (ci := 3) hK hE hsz hI rfl rfl) rfl rfl hl.1 rfl (lv_room (Nat.le_of_ble_eq_true rfl)) dX6_putFourHeader_141 ⟨by decide, by decide⟩) (fun M12 H locs h hI => ?_)
      refine lv_aload_n hx hb dX6_putFourHeader_144 rfl (lv_at hl 0 rfl) ?_
      refine lv_iload_n hx hb dX6_putFourHeader_145 rfl (lv_at hl 1 rfl) ?_
      refine lv_bipush (v := (10 : Int32)) hx hb dX6_putFourHeader_146 (by decide) ?_
      refine lv_iadd hx hb dX6_putFourHeader_148 ?_
      refine lv_iconst (v := (2 : Int32)) hx hb dX6_putFourHeader_149 (by decide) ?_
      refine lv_aload_n hx hb dX6_putFourHeader_150 rfl (lv_at hl 0 rfl) ?_
      refine lv_iload_n hx hb dX6_putFourHeader_151 rfl (lv_at hl 1 rfl) ?_
      refine lv_iload_n hx hb dX6_putFourHeader_152 rfl (lv_at hl 1 rfl) ?_
      refine lv_bipush (v := (20 : Int32)) hx hb dX6_putFourHeader_153 (by decide) ?_
      refine lv_iadd hx hb dX6_putFourHeader_155 ?_
      refine cpcalll_p hsz hI (va_runV (As := [.int p2, .int (p2 + (20 : Int32))]) (rest := [.int (2 : Int32), .int (p2 + (10 : Int32)), .ref (a 3)]) ⟨hx, hb, hml, hown, hu⟩ (met_X4_sum_3 l dC dI a kA t _ M12 L p2 (p2 + (20 : Int32)) _ h) (cwl_X6_163_X4 hu ⟨by decide, by decide⟩) (cppre (ci := 3) hK hE hsz hI rfl rfl) rfl rfl hl.1 rfl (lv_room (Nat.le_of_ble_eq_true rfl)) dX6_putFourHeader_156 ⟨by decide, by decide⟩) (fun r13 H locs h hI => ?_)
      refine cpcalli_p hsz hI (va_runS (As := [.long r13]) (rest := [.int (2 : Int32), .int (p2 + (10 : Int32)), .ref (a 3)]) ⟨hx, hb, hml, hown, hu⟩ (met_X6_checksum l dC dI a kA t _ M12 L r13 _ h) (cwl_X6_167_S hu ⟨by decide, by decide⟩) (cppreS hK hE hsz hI) rfl rfl hl.1 rfl (lv_room (Nat.le_of_ble_eq_true rfl)) dX6_putFourHeader_159 ⟨by decide, by decide⟩) (fun r14 H locs h hI => ?_)
      refine lv_i2l hx hb dX6_putFourHeader_162 rfl ?_
      refine cpcallv_m hsz hI (va_runV (As := [.int (p2 + (10 : Int32)), .int (2 : Int32), .long (r14.toInt64)]) (rest := []) ⟨hx, hb, hml, hown, hu⟩ (met_X4_put_3 l dC dI a kA t _ M12 L (p2 + (10 : Int32)) (2 : Int32) (r14.toInt64) _ h) (cwl_X6_99_X4 hu ⟨by decide, by decide⟩) (cppre (ci := 3) hK hE hsz hI rfl rfl) rfl rfl hl.1 rfl (lv_room (Nat.le_of_ble_eq_true rfl)) dX6_putFourHeader_163 ⟨by decide, by decide⟩) (fun M15 H locs h hI => ?_)
      exact cpvret (Z := (fun M' L' => L' = L ∧ Z M')) hx hb hr hlocks hK hI dX6_putFourHeader_166 ⟨rfl, h⟩
    refine lv_icmp_ne (tgt := 98) hx hb dX6_putFourHeader_91 (by decide) (fun c16 => ?_) (fun c16 => ?_)
    · have h := h.1 c16
      refine lv_aload_n hx hb dX6_putFourHeader_98 rfl (lv_at hl 2 rfl) ?_
      refine va_get (D := (dC, dI)) (ci := 4) (v := .int (M7 14 3)) (C := RX5) (T := TX5) (N := 16) hx hb hu uX5 hown hK hI.1 14 rfl rfl 3 (by decide) (hu _ uww_425) (u_same (hu _ uww_183)) rfl dX6_putFourHeader_99 ?_
      refine lv_i2l hx hb dX6_putFourHeader_102 rfl ?_
      exact J103 ((M7 14 3).toInt64) _ _ _ h hI (lv_sub hl [0, 1, 2] rfl)
    · have h := h.2 c16
      refine lv_lconst (v := (1 : Int64)) hx hb dX6_putFourHeader_94 (by decide) ?_
      refine lv_goto (tgt := 103) hx hb dX6_putFourHeader_95 (by decide) ?_
      exact J103 (1 : Int64) _ _ _ h hI (lv_sub hl [0, 1, 2] rfl)
  refine lv_if_eq (tgt := 29) hx hb dX6_putFourHeader_18 (by decide) (fun c17 => ?_) (fun c17 => ?_)
  · have h := h.1 c17
    refine lv_lconst (v := (0 : Int64)) hx hb dX6_putFourHeader_29 (by decide) ?_
    exact J30 (0 : Int64) _ _ _ h hI (lv_sub hl [1, 2, 3, 4, 5, 6, 7] rfl)
  · have h := h.2 c17
    refine lv_aload_n hx hb dX6_putFourHeader_21 rfl (lv_at hl 3 rfl) ?_
    refine va_get (D := (dC, dI)) (ci := 4) (v := .int (M1 14 1)) (C := RX5) (T := TX5) (N := 16) hx hb hu uX5 hown hK hI.1 14 rfl rfl 1 (by decide) (hu _ uww_501) (u_same (hu _ uww_162)) rfl dX6_putFourHeader_22 ?_
    refine lv_i2l hx hb dX6_putFourHeader_25 rfl ?_
    refine lv_goto (tgt := 30) hx hb dX6_putFourHeader_26 (by decide) ?_
    exact J30 ((M1 14 1).toInt64) _ _ _ h hI (lv_sub hl [1, 2, 3, 4, 5, 6, 7] rfl)

abbrev rm_X6_putInnerFour_0_14 : Room := { frames := 3, cells := 0, slots := 0, locals := 85 }
abbrev av_X6_putInnerFour_0_14 (a t : Nat → Nat)  : List Value := [.ref (a 0), .ref (a 14)]
abbrev qc_X6_putInnerFour_0_14 (dC : Nat → ClassId) (dI : Nat → Nat → Nat) (a : Nat → Nat) (kA : Nat → ClassId) (sz : Nat) (M : cM) (L : cL) (Z : Int32 → cM → Prop) : Array Value → State → Outcome → State → Prop := va_Qi (fun r (u : cM × cL) => u.2 = L ∧ Z r u.1) (cpAt dC dI a kA (cpA a sz)) (cpA a sz)
set_option maxHeartbeats 4000000 in
set_option maxRecDepth 100000 in
theorem met_X6_putInnerFour_0_14 (l : Launch) (dC : Nat → ClassId) (dI : Nat → Nat → Nat) (a : Nat → Nat) (kA : Nat → ClassId) (t : Nat → Nat) (sz : Nat) (M : cM) (L : cL)  (Z : Int32 → cM → Prop) (h : wp_X6_putInnerFour_0_14 M L  Z) : Met l yX6_putInnerFour (Cond.code yX6_putInnerFour cX6_putInnerFour 4 (some .int) :: uW) rm_X6_putInnerFour_0_14 (va_Pc (av_X6_putInnerFour_0_14 a t ) (cpPre dC dI a kA t M L sz)) (qc_X6_putInnerFour_0_14 dC dI a kA sz M L Z) 0 0 (cpA a sz) := by
  refine cpenter (cc := cX6_putInnerFour) (n := 4) (ret := (some .int)) (by decide) rfl (Nat.le_of_ble_eq_true rfl) ?_
  intro p e s m below meth c ls hx hb hml hr hlocks hown hts hK hE hsz hI hl hmn
  have hu : ∀ w ∈ uW, w.before (av_X6_putInnerFour_0_14 a t ).toArray s = true := fun w h => hts w (List.mem_cons_of_mem _ h)
  have hown : s.vm.findClass RX6 = some m.cls := hown
  have hl : lv_has ls 4 [(0, .ref (a 0)), (1, .ref (a 14))] := hl
  unfold wp_X6_putInnerFour_0_14 at h
  refine lv_bipush (v := (20 : Int32)) hx hb dX6_putInnerFour_0 (by decide) ?_
  refine lv_aload_n hx hb dX6_putInnerFour_2 rfl (lv_at hl 1 rfl) ?_
  refine va_get (D := (dC, dI)) (ci := 4) (v := .int (M 14 8)) (C := RX5) (T := TX5) (N := 16) hx hb hu uX5 hown hK hI.1 14 rfl rfl 8 (by decide) (hu _ uww_441) (u_same (hu _ uww_152)) rfl dX6_putInnerFour_3 ?_
  refine lv_iadd hx hb dX6_putInnerFour_6 ?_
  refine lv_topi (fun x1 ex1 => ?_)
  have h := h x1 ex1
  refine lv_istore_n (lv' := [(2, .int x1), (0, .ref (a 0)), (1, .ref (a 14))]) hx hb dX6_putInnerFour_7 rfl hl (by decide) rfl (fun ls hl => ?_)
  refine lv_aload_n hx hb dX6_putInnerFour_8 rfl (lv_at hl 1 rfl) ?_
  refine lv_aload_n hx hb dX6_putInnerFour_9 rfl (lv_at hl 1 rfl) ?_
  refine va_get (D := (dC, dI)) (ci := 5) (v := .ref (a 3)) (C := RX6) (T := TX6) (N := 17) hx hb hu uX6 hown hK hI.1 0 rfl rfl 1 (by decide) (hu _ uww_214) (fun _ h9 => h9) rfl dX6_putInnerFour_10 ?_
  refine lv_bipush (v := (8 : Int32)) hx hb dX6_putInnerFour_13 (by decide) ?_
  refine lv_aload_n hx hb dX6_putInnerFour_15 rfl (lv_at hl 2 rfl) ?_
  refine lv_iload_n hx hb dX6_putInnerFour_16 rfl (lv_at hl 0 rfl) ?_
  refine lv_aload_n hx hb dX6_putInnerFour_17 rfl (lv_at hl 2 rfl) ?_
  refine lv_iload_n hx hb dX6_putInnerFour_18 rfl (lv_at hl 0 rfl) ?_
  refine cpcalli_p hsz hI (va_runV (As := [.int x1]) (rest := [.int x1, .ref (a 14), .int (8 : Int32), .ref (a 3), .ref (a 0)]) ⟨hx, hb, hml, hown, hu⟩ (met_X5_flags_14 l dC dI a kA t _ M L x1 _ h) (cwl_X6_470_X5 hu ⟨by decide, by decide⟩) (cppre (ci := 4) hK hE hsz hI rfl rfl) rfl rfl hl.1 rfl (lv_room (Nat.le_of_ble_eq_true rfl)) dX6_putInnerFour_19 ⟨by decide, by decide⟩) (fun r2 H locs h hI => ?_)
  refine lv_aload_n hx hb dX6_putInnerFour_22 rfl (lv_at hl 2 rfl) ?_
  refine va_get (D := (dC, dI)) (ci := 4) (v := .int (M 14 4)) (C := RX5) (T := TX5) (N := 16) hx hb hu uX5 hown hK hI.1 14 rfl rfl 4 (by decide) (hu _ uww_492) (u_same (hu _ uww_189)) rfl dX6_putInnerFour_23 ?_
  refine lv_aload_n hx hb dX6_putInnerFour_26 rfl (lv_at hl 2 rfl) ?_
  refine va_get (D := (dC, dI)) (ci := 4) (v := .int (M 14 2)) (C := RX5) (T := TX5) (N := 16) hx hb hu uX5 hown hK hI.1 14 rfl rfl 2 (by decide) (hu _ uww_424) (u_same (hu _ uww_164)) rfl dX6_putInnerFour_27 ?_
  refine cpcallv_m hsz hI (va_runV (As := [.ref (a 3), .int (8 : Int32), .ref (a 14), .int x1, .int r2, .int (M 14 4), .int (M 14 2)]) (rest := []) ⟨hx, hb, hml, hown, hu⟩ (met_X6_putFourHeader_0_3_14 l dC dI a kA t _ M L (8 : Int32) x1 r2 (M 14 4) (M 14 2) _ h) (cwl_X6_474_X6 hu ⟨by decide, by decide⟩) (cppre (ci := 5) hK hE hsz hI rfl rfl) rfl rfl hl.1 rfl (lv_room (Nat.le_of_ble_eq_true rfl)) dX6_putInnerFour_30 ⟨by decide, by decide⟩) (fun M3 H locs h hI => ?_)
  refine lv_bipush (v := (28 : Int32)) hx hb dX6_putInnerFour_33 (by decide) ?_
  refine lv_istore_n (lv' := [(3, .int (28 : Int32)), (2, .int x1), (0, .ref (a 0)), (1, .ref (a 14))]) hx hb dX6_putInnerFour_35 rfl hl (by decide) rfl (fun ls hl => ?_)
  refine lv_aload_n hx hb dX6_putInnerFour_36 rfl (lv_at hl 2 rfl) ?_
  refine va_get (D := (dC, dI)) (ci := 5) (v := .ref (a 3)) (C := RX6) (T := TX6) (N := 17) hx hb hu uX6 hown hK hI.1 0 rfl rfl 1 (by decide) (hu _ uww_214) (fun _ h9 => h9) rfl dX6_putInnerFour_37 ?_
  refine lv_aload_n hx hb dX6_putInnerFour_40 rfl (lv_at hl 2 rfl) ?_
  refine va_get (D := (dC, dI)) (ci := 5) (v := .ref (a 1)) (C := RX6) (T := TX6) (N := 17) hx hb hu uX6 hown hK hI.1 0 rfl rfl 0 (by decide) (hu _ uww_213) (fun _ h9 => h9) rfl dX6_putInnerFour_41 ?_
  refine lv_aload_n hx hb dX6_putInnerFour_44 rfl (lv_at hl 3 rfl) ?_
  refine va_get (D := (dC, dI)) (ci := 4) (v := .int (M3 14 7)) (C := RX5) (T := TX5) (N := 16) hx hb hu uX5 hown hK hI.1 14 rfl rfl 7 (by decide) (hu _ uww_426) (u_same (hu _ uww_169)) rfl dX6_putInnerFour_45 ?_
  refine lv_iload_n hx hb dX6_putInnerFour_48 rfl (lv_at hl 0 rfl) ?_
  refine lv_aload_n hx hb dX6_putInnerFour_49 rfl (lv_at hl 3 rfl) ?_
  refine va_get (D := (dC, dI)) (ci := 4) (v := .int (M3 14 9)) (C := RX5) (T := TX5) (N := 16) hx hb hu uX5 hown hK hI.1 14 rfl rfl 9 (by decide) (hu _ uww_465) (u_same (hu _ uww_171)) rfl dX6_putInnerFour_50 ?_
  refine cpcallv_m hsz hI (va_runV (As := [.ref (a 1), .int (M3 14 7), .int (28 : Int32), .int (M3 14 9)]) (rest := []) ⟨hx, hb, hml, hown, hu⟩ (met_X4_copy_3_1 l dC dI a kA t _ M3 L (M3 14 7) (28 : Int32) (M3 14 9) _ h) (cwl_X6_276_X4 hu ⟨by decide, by decide⟩) (cppre (ci := 3) hK hE hsz hI rfl rfl) rfl rfl hl.1 rfl (lv_room (Nat.le_of_ble_eq_true rfl)) dX6_putInnerFour_53 ⟨by decide, by decide⟩) (fun M4 H locs h hI => ?_)
  refine lv_iload_n hx hb dX6_putInnerFour_56 rfl (lv_at hl 0 rfl) ?_
  exact cpiret (Z := (fun r M' L' => L' = L ∧ Z r M')) hx hb hr hlocks hK hI dX6_putInnerFour_57 ⟨rfl, h⟩
