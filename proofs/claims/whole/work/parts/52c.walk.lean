abbrev rm_X6_answerFour_0_11 : Room := { frames := 2, cells := 0, slots := 0, locals := 85 }
abbrev av_X6_answerFour_0_11 (a t : Nat → Nat) (p2 : Int32) (p3 : Int32) : List Value := [.ref (a 0), .ref (a 11), .int p2, .int p3]
abbrev qc_X6_answerFour_0_11 (dC : Nat → ClassId) (dI : Nat → Nat → Nat) (a : Nat → Nat) (kA : Nat → ClassId) (sz : Nat) (M : cM) (L : cL) (Z : Int32 → cM → Prop) : Array Value → State → Outcome → State → Prop := va_Qi (fun r (u : cM × cL) => u.2 = L ∧ Z r u.1) (cpAt dC dI a kA (cpA a sz)) (cpA a sz)
set_option maxHeartbeats 4000000 in
set_option maxRecDepth 100000 in
theorem met_X6_answerFour_0_11 (l : Launch) (dC : Nat → ClassId) (dI : Nat → Nat → Nat) (a : Nat → Nat) (kA : Nat → ClassId) (t : Nat → Nat) (sz : Nat) (M : cM) (L : cL) (p2 : Int32) (p3 : Int32) (Z : Int32 → cM → Prop) (h : wp_X6_answerFour_0_11 M L p2 p3 Z) : Met l yX6_answerFour (Cond.code yX6_answerFour cX6_answerFour 10 (some .int) :: uW) rm_X6_answerFour_0_11 (va_Pc (av_X6_answerFour_0_11 a t p2 p3) (cpPre dC dI a kA t M L sz)) (qc_X6_answerFour_0_11 dC dI a kA sz M L Z) 0 0 (cpA a sz) := by
  refine cpenter (cc := cX6_answerFour) (n := 10) (ret := (some .int)) (by decide) rfl (Nat.le_of_ble_eq_true rfl) ?_
  intro p e s m below meth c ls hx hb hml hr hlocks hown hts hK hE hsz hI hl hmn
  have hu : ∀ w ∈ uW, w.before (av_X6_answerFour_0_11 a t p2 p3).toArray s = true := fun w h => hts w (List.mem_cons_of_mem _ h)
  have hown : s.vm.findClass RX6 = some m.cls := hown
  have hl : lv_has ls 10 [(0, .ref (a 0)), (1, .ref (a 11)), (2, .int p2), (3, .int p3)] := hl
  unfold wp_X6_answerFour_0_11 at h
  refine lv_aload_n hx hb dX6_answerFour_0 rfl (lv_at hl 1 rfl) ?_
  refine va_get (D := (dC, dI)) (ci := 0) (v := .int (M 11 8)) (C := RX0) (T := TX0) (N := 18) hx hb hu uX0 hown hK hI.1 11 rfl rfl 8 (by decide) (hu _ uww_284) (u_same (hu _ uww_40)) rfl dX6_answerFour_1 ?_
  obtain ⟨K29, hK29, h⟩ := h
  have J29 : ∀ (v1 : Int32) (H : Heap) (locs : List Loc) (ls : Array Slot), K29 v1 → cpI dC dI a kA (cpA a sz) s M L H locs → lv_has ls 10 [(0, .ref (a 0)), (1, .ref (a 11)), (2, .int p2), (3, .int p3)] → W p l e rm_X6_answerFour_0_11 s m (av_X6_answerFour_0_11 a t p2 p3).toArray below meth c H locs 0 0 (MQ below (qc_X6_answerFour_0_11 dC dI a kA sz M L Z) (av_X6_answerFour_0_11 a t p2 p3).toArray s 0 0 (cpA a sz)) (F0 m 29 ls [.int v1]) := by
    intro v1 H locs ls h hI hl
    have h := hK29 v1 h
    refine lv_istore (lv' := [(4, .int v1), (0, .ref (a 0)), (1, .ref (a 11)), (2, .int p2), (3, .int p3)]) hx hb dX6_answerFour_29 hl (by decide) rfl (fun ls hl => ?_)
    refine lv_aload_n hx hb dX6_answerFour_31 rfl (lv_at hl 2 rfl) ?_
    refine va_get (D := (dC, dI)) (ci := 0) (v := .int (M 11 6)) (C := RX0) (T := TX0) (N := 18) hx hb hu uX0 hown hK hI.1 11 rfl rfl 6 (by decide) (hu _ uww_285) (u_same (hu _ uww_26)) rfl dX6_answerFour_32 ?_
    refine lv_if_ne (tgt := 51) hx hb dX6_answerFour_35 (by decide) (fun c2 => ?_) (fun c2 => ?_)
    · have h := h.1 c2
      refine lv_bipush (v := (9 : Int32)) hx hb dX6_answerFour_51 (by decide) ?_
      exact cpiret (Z := (fun r M' L' => L' = L ∧ Z r M')) hx hb hr hlocks hK hI dX6_answerFour_53 ⟨rfl, h⟩
    · have h := h.2 c2
      refine lv_aload_n hx hb dX6_answerFour_38 rfl (lv_at hl 2 rfl) ?_
      refine va_get (D := (dC, dI)) (ci := 0) (v := .int (M 11 3)) (C := RX0) (T := TX0) (N := 18) hx hb hu uX0 hown hK hI.1 11 rfl rfl 3 (by decide) (hu _ uww_274) (u_same (hu _ uww_30)) rfl dX6_answerFour_39 ?_
      refine lv_iconst (v := (1 : Int32)) hx hb dX6_answerFour_42 (by decide) ?_
      obtain ⟨K54, hK54, h⟩ := h
      have J54 : ∀  (H : Heap) (locs : List Loc) (ls : Array Slot), K54  → cpI dC dI a kA (cpA a sz) s M L H locs → lv_has ls 10 [(0, .ref (a 0)), (1, .ref (a 11)), (2, .int p2), (3, .int p3)] → W p l e rm_X6_answerFour_0_11 s m (av_X6_answerFour_0_11 a t p2 p3).toArray below meth c H locs 0 0 (MQ below (qc_X6_answerFour_0_11 dC dI a kA sz M L Z) (av_X6_answerFour_0_11 a t p2 p3).toArray s 0 0 (cpA a sz)) (F0 m 54 ls []) := by
        intro  H locs ls h hI hl
        have h := hK54  h
        refine lv_aload_n hx hb dX6_answerFour_54 rfl (lv_at hl 1 rfl) ?_
        refine va_getN (D := (dC, dI)) (ci := 0) (v := .int (M 11 14)) (C := RX0) (T := TX0) (N := 18) hx hb hu uX0 hown hK hI.1 11 rfl rfl 14 (by decide) (va_Nw.use rfl (hE.1 _ cpn_9)) (fun _ h9 => h9) rfl dX6_answerFour_55 ?_
        refine lv_bipush (v := (8 : Int32)) hx hb dX6_answerFour_58 (by decide) ?_
        refine lv_aload_n hx hb dX6_answerFour_60 rfl (lv_at hl 1 rfl) ?_
        refine va_get (D := (dC, dI)) (ci := 0) (v := .int (M 11 8)) (C := RX0) (T := TX0) (N := 18) hx hb hu uX0 hown hK hI.1 11 rfl rfl 8 (by decide) (hu _ uww_284) (u_same (hu _ uww_40)) rfl dX6_answerFour_61 ?_
        refine va_mmin hx hb (hml.trans hl.1.symm) hown (hu _ uww_286) (hu _ uww_42) (hu _ uww_43) (hu _ uww_44) (Nat.le_of_ble_eq_true rfl) (Nat.le_of_ble_eq_true rfl) (Nat.le_of_ble_eq_true rfl) (Nat.le_of_ble_eq_true rfl) dX6_answerFour_64 ?_
        refine lv_iadd hx hb dX6_answerFour_67 ?_
        refine lv_topi (fun x3 ex3 => ?_)
        have h := h x3 ex3
        refine lv_istore (lv' := [(5, .int x3), (0, .ref (a 0)), (1, .ref (a 11)), (2, .int p2), (3, .int p3)]) hx hb dX6_answerFour_68 hl (by decide) rfl (fun ls hl => ?_)
        refine lv_bipush (v := (28 : Int32)) hx hb dX6_answerFour_70 (by decide) ?_
        refine lv_iload hx hb dX6_answerFour_72 (lv_at hl 0 rfl) ?_
        refine lv_iadd hx hb dX6_answerFour_74 ?_
        refine lv_topi (fun x4 ex4 => ?_)
        have h := h x4 ex4
        refine lv_istore (lv' := [(6, .int x4), (5, .int x3), (0, .ref (a 0)), (1, .ref (a 11)), (2, .int p2), (3, .int p3)]) hx hb dX6_answerFour_75 hl (by decide) rfl (fun ls hl => ?_)
        refine lv_aload_n hx hb dX6_answerFour_77 rfl (lv_at hl 2 rfl) ?_
        refine va_get (D := (dC, dI)) (ci := 5) (v := .ref (a 5)) (C := RX6) (T := TX6) (N := 17) hx hb hu uX6 hown hK hI.1 0 rfl rfl 2 (by decide) (hu _ uww_218) (fun _ h9 => h9) rfl dX6_answerFour_78 ?_
        refine va_getN (D := (dC, dI)) (ci := 2) (v := .ref (a 6)) (C := RX3) (T := TX3) (N := 4) hx hb hu uX3 hown hK hI.1 5 rfl rfl 0 (by decide) (va_Nw.use rfl (hE.1 _ cpn_4)) (fun _ h9 => h9) rfl dX6_answerFour_81 ?_
        refine lv_astore (lv' := [(7, .ref (a 6)), (6, .int x4), (5, .int x3), (0, .ref (a 0)), (1, .ref (a 11)), (2, .int p2), (3, .int p3)]) hx hb dX6_answerFour_84 hl (by decide) rfl (fun ls hl => ?_)
        refine lv_aload_n hx hb dX6_answerFour_86 rfl (lv_at hl 3 rfl) ?_
        refine va_get (D := (dC, dI)) (ci := 5) (v := .ref (a 5)) (C := RX6) (T := TX6) (N := 17) hx hb hu uX6 hown hK hI.1 0 rfl rfl 2 (by decide) (hu _ uww_218) (fun _ h9 => h9) rfl dX6_answerFour_87 ?_
        refine lv_iload hx hb dX6_answerFour_90 (lv_at hl 1 rfl) ?_
        refine cpcalli_m hsz hI (va_runV (As := [.int x4]) (rest := []) ⟨hx, hb, hml, hown, hu⟩ (met_X3_open_5 l dC dI a kA t _ M L x4 _ h) (cwl_X6_373_X3 hu ⟨by decide, by decide⟩) (cppre (ci := 2) hK hE hsz hI rfl rfl) rfl rfl hl.1 rfl (lv_room (Nat.le_of_ble_eq_true rfl)) dX6_answerFour_92 ⟨by decide, by decide⟩) (fun r5 M6 H locs h hI => ?_)
        refine lv_istore (lv' := [(8, .int r5), (7, .ref (a 6)), (6, .int x4), (5, .int x3), (0, .ref (a 0)), (1, .ref (a 11)), (2, .int p2), (3, .int p3)]) hx hb dX6_answerFour_95 hl (by decide) rfl (fun ls hl => ?_)
        refine lv_aload hx hb dX6_answerFour_97 (lv_at hl 1 rfl) ?_
        refine lv_iload hx hb dX6_answerFour_99 (lv_at hl 0 rfl) ?_
        refine lv_iconst (v := (4 : Int32)) hx hb dX6_answerFour_101 (by decide) ?_
        refine lv_ldcw (own := RX6) (v := (1157627904 : Int32)) hx hb hown (hu _ uww_287) dX6_answerFour_102 ?_
        refine lv_iload hx hb dX6_answerFour_105 (lv_at hl 2 rfl) ?_
        refine lv_ior hx hb dX6_answerFour_107 ?_
        refine lv_i2l hx hb dX6_answerFour_108 rfl ?_
        refine cpcallv_m hsz hI (va_runV (As := [.int r5, .int (4 : Int32), .long (((1157627904 : Int32) ||| x4).toInt64)]) (rest := []) ⟨hx, hb, hml, hown, hu⟩ (met_X4_put_6 l dC dI a kA t _ M6 L r5 (4 : Int32) (((1157627904 : Int32) ||| x4).toInt64) _ h) (cwl_X6_99_X4 hu ⟨by decide, by decide⟩) (cppre (ci := 3) hK hE hsz hI rfl rfl) rfl rfl hl.1 rfl (lv_room (Nat.le_of_ble_eq_true rfl)) dX6_answerFour_109 ⟨by decide, by decide⟩) (fun M7 H locs h hI => ?_)
        refine lv_aload hx hb dX6_answerFour_112 (lv_at hl 1 rfl) ?_
        refine lv_iload hx hb dX6_answerFour_114 (lv_at hl 0 rfl) ?_
        refine lv_iconst (v := (4 : Int32)) hx hb dX6_answerFour_116 (by decide) ?_
        refine lv_iadd hx hb dX6_answerFour_117 ?_
        refine lv_iconst (v := (4 : Int32)) hx hb dX6_answerFour_118 (by decide) ?_
        refine lv_lconst (v := (0 : Int64)) hx hb dX6_answerFour_119 (by decide) ?_
        refine cpcallv_m hsz hI (va_runV (As := [.int (r5 + (4 : Int32)), .int (4 : Int32), .long (0 : Int64)]) (rest := []) ⟨hx, hb, hml, hown, hu⟩ (met_X4_put_6 l dC dI a kA t _ M7 L (r5 + (4 : Int32)) (4 : Int32) (0 : Int64) _ h) (cwl_X6_99_X4 hu ⟨by decide, by decide⟩) (cppre (ci := 3) hK hE hsz hI rfl rfl) rfl rfl hl.1 rfl (lv_room (Nat.le_of_ble_eq_true rfl)) dX6_answerFour_120 ⟨by decide, by decide⟩) (fun M8 H locs h hI => ?_)
        refine lv_aload hx hb dX6_answerFour_123 (lv_at hl 1 rfl) ?_
        refine lv_iload hx hb dX6_answerFour_125 (lv_at hl 0 rfl) ?_
        refine lv_bipush (v := (8 : Int32)) hx hb dX6_answerFour_127 (by decide) ?_
        refine lv_iadd hx hb dX6_answerFour_129 ?_
        refine lv_iconst (v := (4 : Int32)) hx hb dX6_answerFour_130 (by decide) ?_
        refine lv_ldc2 (own := RX6) (v := (1073807360 : Int64)) hx hb hown (hu _ uww_288) dX6_answerFour_131 ?_
        refine cpcallv_m hsz hI (va_runV (As := [.int (r5 + (8 : Int32)), .int (4 : Int32), .long (1073807360 : Int64)]) (rest := []) ⟨hx, hb, hml, hown, hu⟩ (met_X4_put_6 l dC dI a kA t _ M8 L (r5 + (8 : Int32)) (4 : Int32) (1073807360 : Int64) _ h) (cwl_X6_99_X4 hu ⟨by decide, by decide⟩) (cppre (ci := 3) hK hE hsz hI rfl rfl) rfl rfl hl.1 rfl (lv_room (Nat.le_of_ble_eq_true rfl)) dX6_answerFour_134 ⟨by decide, by decide⟩) (fun M9 H locs h hI => ?_)
        refine lv_aload hx hb dX6_answerFour_137 (lv_at hl 1 rfl) ?_
        refine lv_iload hx hb dX6_answerFour_139 (lv_at hl 0 rfl) ?_
        refine lv_bipush (v := (12 : Int32)) hx hb dX6_answerFour_141 (by decide) ?_
        refine lv_iadd hx hb dX6_answerFour_143 ?_
        refine lv_iconst (v := (4 : Int32)) hx hb dX6_answerFour_144 (by decide) ?_
        refine lv_aload_n hx hb dX6_answerFour_145 rfl (lv_at hl 4 rfl) ?_
        refine va_get (D := (dC, dI)) (ci := 5) (v := .int (M9 0 9)) (C := RX6) (T := TX6) (N := 17) hx hb hu uX6 hown hK hI.1 0 rfl rfl 9 (by decide) (hu _ uww_232) (fun _ h9 => h9) rfl dX6_answerFour_146 ?_
        refine lv_i2l hx hb dX6_answerFour_149 rfl ?_
        refine cpcallv_m hsz hI (va_runV (As := [.int (r5 + (12 : Int32)), .int (4 : Int32), .long ((M9 0 9).toInt64)]) (rest := []) ⟨hx, hb, hml, hown, hu⟩ (met_X4_put_6 l dC dI a kA t _ M9 L (r5 + (12 : Int32)) (4 : Int32) ((M9 0 9).toInt64) _ h) (cwl_X6_99_X4 hu ⟨by decide, by decide⟩) (cppre (ci := 3) hK hE hsz hI rfl rfl) rfl rfl hl.1 rfl (lv_room (Nat.le_of_ble_eq_true rfl)) dX6_answerFour_150 ⟨by decide, by decide⟩) (fun M10 H locs h hI => ?_)
        refine lv_aload hx hb dX6_answerFour_153 (lv_at hl 1 rfl) ?_
        refine lv_iload hx hb dX6_answerFour_155 (lv_at hl 0 rfl) ?_
        refine lv_bipush (v := (16 : Int32)) hx hb dX6_answerFour_157 (by decide) ?_
        refine lv_iadd hx hb dX6_answerFour_159 ?_
        refine lv_iconst (v := (4 : Int32)) hx hb dX6_answerFour_160 (by decide) ?_
        refine lv_aload_n hx hb dX6_answerFour_161 rfl (lv_at hl 5 rfl) ?_
        refine va_get (D := (dC, dI)) (ci := 0) (v := .int (M10 11 10)) (C := RX0) (T := TX0) (N := 18) hx hb hu uX0 hown hK hI.1 11 rfl rfl 10 (by decide) (hu _ uww_269) (u_same (hu _ uww_32)) rfl dX6_answerFour_162 ?_
        refine lv_i2l hx hb dX6_answerFour_165 rfl ?_
        refine cpcallv_m hsz hI (va_runV (As := [.int (r5 + (16 : Int32)), .int (4 : Int32), .long ((M10 11 10).toInt64)]) (rest := []) ⟨hx, hb, hml, hown, hu⟩ (met_X4_put_6 l dC dI a kA t _ M10 L (r5 + (16 : Int32)) (4 : Int32) ((M10 11 10).toInt64) _ h) (cwl_X6_99_X4 hu ⟨by decide, by decide⟩) (cppre (ci := 3) hK hE hsz hI rfl rfl) rfl rfl hl.1 rfl (lv_room (Nat.le_of_ble_eq_true rfl)) dX6_answerFour_166 ⟨by decide, by decide⟩) (fun M11 H locs h hI => ?_)
        refine lv_aload hx hb dX6_answerFour_169 (lv_at hl 1 rfl) ?_
        refine lv_iload hx hb dX6_answerFour_171 (lv_at hl 0 rfl) ?_
        refine lv_bipush (v := (10 : Int32)) hx hb dX6_answerFour_173 (by decide) ?_
        refine lv_iadd hx hb dX6_answerFour_175 ?_
        refine lv_iconst (v := (2 : Int32)) hx hb dX6_answerFour_176 (by decide) ?_
        refine lv_aload hx hb dX6_answerFour_177 (lv_at hl 1 rfl) ?_
        refine lv_iload hx hb dX6_answerFour_179 (lv_at hl 0 rfl) ?_
        refine lv_iload hx hb dX6_answerFour_181 (lv_at hl 0 rfl) ?_
        refine lv_bipush (v := (20 : Int32)) hx hb dX6_answerFour_183 (by decide) ?_
        refine lv_iadd hx hb dX6_answerFour_185 ?_
        refine cpcalll_p hsz hI (va_runV (As := [.int r5, .int (r5 + (20 : Int32))]) (rest := [.int (2 : Int32), .int (r5 + (10 : Int32)), .ref (a 6)]) ⟨hx, hb, hml, hown, hu⟩ (met_X4_sum_6 l dC dI a kA t _ M11 L r5 (r5 + (20 : Int32)) _ h) (cwl_X6_163_X4 hu ⟨by decide, by decide⟩) (cppre (ci := 3) hK hE hsz hI rfl rfl) rfl rfl hl.1 rfl (lv_room (Nat.le_of_ble_eq_true rfl)) dX6_answerFour_186 ⟨by decide, by decide⟩) (fun r12 H locs h hI => ?_)
        refine cpcalli_p hsz hI (va_runS (As := [.long r12]) (rest := [.int (2 : Int32), .int (r5 + (10 : Int32)), .ref (a 6)]) ⟨hx, hb, hml, hown, hu⟩ (met_X6_checksum l dC dI a kA t _ M11 L r12 _ h) (cwl_X6_167_S hu ⟨by decide, by decide⟩) (cppreS hK hE hsz hI) rfl rfl hl.1 rfl (lv_room (Nat.le_of_ble_eq_true rfl)) dX6_answerFour_189 ⟨by decide, by decide⟩) (fun r13 H locs h hI => ?_)
        refine lv_i2l hx hb dX6_answerFour_192 rfl ?_
        refine cpcallv_m hsz hI (va_runV (As := [.int (r5 + (10 : Int32)), .int (2 : Int32), .long (r13.toInt64)]) (rest := []) ⟨hx, hb, hml, hown, hu⟩ (met_X4_put_6 l dC dI a kA t _ M11 L (r5 + (10 : Int32)) (2 : Int32) (r13.toInt64) _ h) (cwl_X6_99_X4 hu ⟨by decide, by decide⟩) (cppre (ci := 3) hK hE hsz hI rfl rfl) rfl rfl hl.1 rfl (lv_room (Nat.le_of_ble_eq_true rfl)) dX6_answerFour_193 ⟨by decide, by decide⟩) (fun M14 H locs h hI => ?_)
        refine lv_iload hx hb dX6_answerFour_196 (lv_at hl 0 rfl) ?_
        refine lv_bipush (v := (20 : Int32)) hx hb dX6_answerFour_198 (by decide) ?_
        refine lv_iadd hx hb dX6_answerFour_200 ?_
        refine lv_topi (fun x15 ex15 => ?_)
        have h := h x15 ex15
        refine lv_istore (lv' := [(9, .int x15), (8, .int r5), (7, .ref (a 6)), (6, .int x4), (5, .int x3), (0, .ref (a 0)), (1, .ref (a 11)), (2, .int p2), (3, .int p3)]) hx hb dX6_answerFour_201 hl (by decide) rfl (fun ls hl => ?_)
        refine lv_aload hx hb dX6_answerFour_203 (lv_at hl 2 rfl) ?_
        refine lv_iload hx hb dX6_answerFour_205 (lv_at hl 0 rfl) ?_
        refine lv_iconst (v := (4 : Int32)) hx hb dX6_answerFour_207 (by decide) ?_
        refine lv_iload_n hx hb dX6_answerFour_208 rfl (lv_at hl 7 rfl) ?_
        refine lv_i2l hx hb dX6_answerFour_209 rfl ?_
        refine lv_bipush (v := (16 : Int32)) hx hb dX6_answerFour_210 (by decide) ?_
        refine lv_lshl hx hb dX6_answerFour_212 rfl ?_
        refine cpcallv_m hsz hI (va_runV (As := [.int x15, .int (4 : Int32), .long ((p2.toInt64) <<< ((16 : Int32).toInt64 &&& 63))]) (rest := []) ⟨hx, hb, hml, hown, hu⟩ (met_X4_put_6 l dC dI a kA t _ M14 L x15 (4 : Int32) ((p2.toInt64) <<< ((16 : Int32).toInt64 &&& 63)) _ h) (cwl_X6_99_X4 hu ⟨by decide, by decide⟩) (cppre (ci := 3) hK hE hsz hI rfl rfl) rfl rfl hl.1 rfl (lv_room (Nat.le_of_ble_eq_true rfl)) dX6_answerFour_213 ⟨by decide, by decide⟩) (fun M16 H locs h hI => ?_)
        refine lv_aload hx hb dX6_answerFour_216 (lv_at hl 2 rfl) ?_
        refine lv_iload hx hb dX6_answerFour_218 (lv_at hl 0 rfl) ?_
        refine lv_iconst (v := (4 : Int32)) hx hb dX6_answerFour_220 (by decide) ?_
        refine lv_iadd hx hb dX6_answerFour_221 ?_
        refine lv_iconst (v := (4 : Int32)) hx hb dX6_answerFour_222 (by decide) ?_
        refine lv_iload_n hx hb dX6_answerFour_223 rfl (lv_at hl 8 rfl) ?_
        refine lv_i2l hx hb dX6_answerFour_224 rfl ?_
        refine cpcallv_m hsz hI (va_runV (As := [.int (x15 + (4 : Int32)), .int (4 : Int32), .long (p3.toInt64)]) (rest := []) ⟨hx, hb, hml, hown, hu⟩ (met_X4_put_6 l dC dI a kA t _ M16 L (x15 + (4 : Int32)) (4 : Int32) (p3.toInt64) _ h) (cwl_X6_99_X4 hu ⟨by decide, by decide⟩) (cppre (ci := 3) hK hE hsz hI rfl rfl) rfl rfl hl.1 rfl (lv_room (Nat.le_of_ble_eq_true rfl)) dX6_answerFour_225 ⟨by decide, by decide⟩) (fun M17 H locs h hI => ?_)
        refine lv_aload hx hb dX6_answerFour_228 (lv_at hl 2 rfl) ?_
        refine lv_aload_n hx hb dX6_answerFour_230 rfl (lv_at hl 5 rfl) ?_
        refine va_get (D := (dC, dI)) (ci := 5) (v := .ref (a 1)) (C := RX6) (T := TX6) (N := 17) hx hb hu uX6 hown hK hI.1 0 rfl rfl 0 (by decide) (hu _ uww_213) (fun _ h9 => h9) rfl dX6_answerFour_231 ?_
        refine lv_iconst (v := (0 : Int32)) hx hb dX6_answerFour_234 (by decide) ?_
        refine lv_iload hx hb dX6_answerFour_235 (lv_at hl 0 rfl) ?_
        refine lv_bipush (v := (8 : Int32)) hx hb dX6_answerFour_237 (by decide) ?_
        refine lv_iadd hx hb dX6_answerFour_239 ?_
        refine lv_iload hx hb dX6_answerFour_240 (lv_at hl 4 rfl) ?_
        refine cpcallv_m hsz hI (va_runV (As := [.ref (a 1), .int (0 : Int32), .int (x15 + (8 : Int32)), .int x3]) (rest := []) ⟨hx, hb, hml, hown, hu⟩ (met_X4_copy_6_1 l dC dI a kA t _ M17 L (0 : Int32) (x15 + (8 : Int32)) x3 _ h) (cwl_X6_276_X4 hu ⟨by decide, by decide⟩) (cppre (ci := 3) hK hE hsz hI rfl rfl) rfl rfl hl.1 rfl (lv_room (Nat.le_of_ble_eq_true rfl)) dX6_answerFour_242 ⟨by decide, by decide⟩) (fun M18 H locs h hI => ?_)
        refine lv_aload hx hb dX6_answerFour_245 (lv_at hl 2 rfl) ?_
        refine lv_iload hx hb dX6_answerFour_247 (lv_at hl 0 rfl) ?_
        refine lv_iconst (v := (2 : Int32)) hx hb dX6_answerFour_249 (by decide) ?_
        refine lv_iadd hx hb dX6_answerFour_250 ?_
        refine lv_iconst (v := (2 : Int32)) hx hb dX6_answerFour_251 (by decide) ?_
        refine lv_aload hx hb dX6_answerFour_252 (lv_at hl 2 rfl) ?_
        refine lv_iload hx hb dX6_answerFour_254 (lv_at hl 0 rfl) ?_
        refine lv_iload hx hb dX6_answerFour_256 (lv_at hl 1 rfl) ?_
        refine lv_iload hx hb dX6_answerFour_258 (lv_at hl 3 rfl) ?_
        refine lv_iadd hx hb dX6_answerFour_260 ?_
        refine cpcalll_p hsz hI (va_runV (As := [.int x15, .int (r5 + x4)]) (rest := [.int (2 : Int32), .int (x15 + (2 : Int32)), .ref (a 6)]) ⟨hx, hb, hml, hown, hu⟩ (met_X4_sum_6 l dC dI a kA t _ M18 L x15 (r5 + x4) _ h) (cwl_X6_163_X4 hu ⟨by decide, by decide⟩) (cppre (ci := 3) hK hE hsz hI rfl rfl) rfl rfl hl.1 rfl (lv_room (Nat.le_of_ble_eq_true rfl)) dX6_answerFour_261 ⟨by decide, by decide⟩) (fun r19 H locs h hI => ?_)
        refine cpcalli_p hsz hI (va_runS (As := [.long r19]) (rest := [.int (2 : Int32), .int (x15 + (2 : Int32)), .ref (a 6)]) ⟨hx, hb, hml, hown, hu⟩ (met_X6_checksum l dC dI a kA t _ M18 L r19 _ h) (cwl_X6_167_S hu ⟨by decide, by decide⟩) (cppreS hK hE hsz hI) rfl rfl hl.1 rfl (lv_room (Nat.le_of_ble_eq_true rfl)) dX6_answerFour_264 ⟨by decide, by decide⟩) (fun r20 H locs h hI => ?_)
        refine lv_i2l hx hb dX6_answerFour_267 rfl ?_
        refine cpcallv_m hsz hI (va_runV (As := [.int (x15 + (2 : Int32)), .int (2 : Int32), .long (r20.toInt64)]) (rest := []) ⟨hx, hb, hml, hown, hu⟩ (met_X4_put_6 l dC dI a kA t _ M18 L (x15 + (2 : Int32)) (2 : Int32) (r20.toInt64) _ h) (cwl_X6_99_X4 hu ⟨by decide, by decide⟩) (cppre (ci := 3) hK hE hsz hI rfl rfl) rfl rfl hl.1 rfl (lv_room (Nat.le_of_ble_eq_true rfl)) dX6_answerFour_268 ⟨by decide, by decide⟩) (fun M21 H locs h hI => ?_)
        refine lv_bipush (v := (10 : Int32)) hx hb dX6_answerFour_271 (by decide) ?_
        exact cpiret (Z := (fun r M' L' => L' = L ∧ Z r M')) hx hb hr hlocks hK hI dX6_answerFour_273 ⟨rfl, h⟩
      refine lv_icmp_ne (tgt := 54) hx hb dX6_answerFour_43 (by decide) (fun c22 => ?_) (fun c22 => ?_)
      · have h := h.1 c22
        exact J54  _ _ _ h hI (lv_sub hl [1, 2, 3, 4] rfl)
      · have h := h.2 c22
        refine lv_iload hx hb dX6_answerFour_46 (lv_at hl 0 rfl) ?_
        refine lv_if_ne (tgt := 54) hx hb dX6_answerFour_48 (by decide) (fun c23 => ?_) (fun c23 => ?_)
        · have h := h.1 c23
          exact J54  _ _ _ h hI (lv_sub hl [1, 2, 3, 4] rfl)
        · have h := h.2 c23
          refine lv_bipush (v := (9 : Int32)) hx hb dX6_answerFour_51 (by decide) ?_
          exact cpiret (Z := (fun r M' L' => L' = L ∧ Z r M')) hx hb hr hlocks hK hI dX6_answerFour_53 ⟨rfl, h⟩
  obtain ⟨K28, hK28, h⟩ := h
  have J28 : ∀  (H : Heap) (locs : List Loc) (ls : Array Slot), K28  → cpI dC dI a kA (cpA a sz) s M L H locs → lv_has ls 10 [(0, .ref (a 0)), (1, .ref (a 11)), (2, .int p2), (3, .int p3)] → W p l e rm_X6_answerFour_0_11 s m (av_X6_answerFour_0_11 a t p2 p3).toArray below meth c H locs 0 0 (MQ below (qc_X6_answerFour_0_11 dC dI a kA sz M L Z) (av_X6_answerFour_0_11 a t p2 p3).toArray s 0 0 (cpA a sz)) (F0 m 28 ls []) := by
    intro  H locs ls h hI hl
    have h := hK28  h
    refine lv_iconst (v := (0 : Int32)) hx hb dX6_answerFour_28 (by decide) ?_
    exact J29 (0 : Int32) _ _ _ h hI (lv_sub hl [0, 1, 2, 3] rfl)
  refine lv_if_le (tgt := 28) hx hb dX6_answerFour_4 (by decide) (fun c24 => ?_) (fun c24 => ?_)
  · have h := h.1 c24
    exact J28  _ _ _ h hI (lv_sub hl [0, 1, 2, 3] rfl)
  · have h := h.2 c24
    refine lv_aload_n hx hb dX6_answerFour_7 rfl (lv_at hl 0 rfl) ?_
    refine va_get (D := (dC, dI)) (ci := 5) (v := .ref (a 1)) (C := RX6) (T := TX6) (N := 17) hx hb hu uX6 hown hK hI.1 0 rfl rfl 0 (by decide) (hu _ uww_213) (fun _ h9 => h9) rfl dX6_answerFour_8 ?_
    refine lv_aload_n hx hb dX6_answerFour_11 rfl (lv_at hl 1 rfl) ?_
    refine va_get (D := (dC, dI)) (ci := 0) (v := .int (M 11 7)) (C := RX0) (T := TX0) (N := 18) hx hb hu uX0 hown hK hI.1 11 rfl rfl 7 (by decide) (hu _ uww_275) (u_same (hu _ uww_38)) rfl dX6_answerFour_12 ?_
    refine cpcalli_p hsz hI (va_runV (As := [.int (M 11 7)]) (rest := []) ⟨hx, hb, hml, hown, hu⟩ (met_X4_at_1 l dC dI a kA t _ M L (M 11 7) _ h) (cwl_X6_158_X4 hu ⟨by decide, by decide⟩) (cppre (ci := 3) hK hE hsz hI rfl rfl) rfl rfl hl.1 rfl (lv_room (Nat.le_of_ble_eq_true rfl)) dX6_answerFour_15 ⟨by decide, by decide⟩) (fun r25 H locs h hI => ?_)
    refine cpcalli_p hsz hI (va_runS (As := [.int r25]) (rest := []) ⟨hx, hb, hml, hown, hu⟩ (met_X6_isEchoFour l dC dI a kA t _ M L r25 _ h) (cwl_X6_257_S hu ⟨by decide, by decide⟩) (cppreS hK hE hsz hI) rfl rfl hl.1 rfl (lv_room (Nat.le_of_ble_eq_true rfl)) dX6_answerFour_18 ⟨by decide, by decide⟩) (fun r26 H locs h hI => ?_)
    refine lv_if_eq (tgt := 28) hx hb dX6_answerFour_21 (by decide) (fun c27 => ?_) (fun c27 => ?_)
    · have h := h.1 c27
      exact J28  _ _ _ h hI (lv_sub hl [0, 1, 2, 3] rfl)
    · have h := h.2 c27
      refine lv_iconst (v := (1 : Int32)) hx hb dX6_answerFour_24 (by decide) ?_
      refine lv_goto (tgt := 29) hx hb dX6_answerFour_25 (by decide) ?_
      exact J29 (1 : Int32) _ _ _ h hI (lv_sub hl [0, 1, 2, 3] rfl)

abbrev rm_X4_copy_3_1 : Room := { frames := 1, cells := 0, slots := 0, locals := 60 }
abbrev av_X4_copy_3_1 (a t : Nat → Nat) (p2 : Int32) (p3 : Int32) (p4 : Int32) : List Value := [.ref (a 3), .ref (a 1), .int p2, .int p3, .int p4]
abbrev qc_X4_copy_3_1 (dC : Nat → ClassId) (dI : Nat → Nat → Nat) (a : Nat → Nat) (kA : Nat → ClassId) (sz : Nat) (M : cM) (L : cL) (Z : cM → Prop) : Array Value → State → Outcome → State → Prop := va_Qv (fun (u : cM × cL) => u.2 = L ∧ Z u.1) (cpAt dC dI a kA (cpA a sz)) (cpA a sz)
set_option maxHeartbeats 4000000 in
set_option maxRecDepth 100000 in
theorem met_X4_copy_3_1 (l : Launch) (dC : Nat → ClassId) (dI : Nat → Nat → Nat) (a : Nat → Nat) (kA : Nat → ClassId) (t : Nat → Nat) (sz : Nat) (M : cM) (L : cL) (p2 : Int32) (p3 : Int32) (p4 : Int32) (Z : cM → Prop) (h : wp_X4_copy_3_1 M L p2 p3 p4 Z) : Met l yX4_copy (Cond.code yX4_copy cX4_copy 6 none :: uW) rm_X4_copy_3_1 (va_Pc (av_X4_copy_3_1 a t p2 p3 p4) (cpPre dC dI a kA t M L sz)) (qc_X4_copy_3_1 dC dI a kA sz M L Z) 0 0 (cpA a sz) := by
  refine cpenter (cc := cX4_copy) (n := 6) (ret := none) (by decide) rfl (Nat.le_of_ble_eq_true rfl) ?_
  intro p e s m below meth c ls hx hb hml hr hlocks hown hts hK hE hsz hI hl hmn
  have hu : ∀ w ∈ uW, w.before (av_X4_copy_3_1 a t p2 p3 p4).toArray s = true := fun w h => hts w (List.mem_cons_of_mem _ h)
  have hown : s.vm.findClass RX4 = some m.cls := hown
  have hl : lv_has ls 6 [(0, .ref (a 3)), (1, .ref (a 1)), (2, .int p2), (3, .int p3), (4, .int p4)] := hl
  unfold wp_X4_copy_3_1 at h
  refine lv_iload hx hb dX4_copy_0 (lv_at hl 4 rfl) ?_
  obtain ⟨K26, hK26, h⟩ := h
  have J26 : ∀ (v1 : Int32) (H : Heap) (locs : List Loc) (ls : Array Slot), K26 v1 → cpI dC dI a kA (cpA a sz) s M L H locs → lv_has ls 6 [(0, .ref (a 3)), (1, .ref (a 1)), (2, .int p2), (3, .int p3), (4, .int p4)] → W p l e rm_X4_copy_3_1 s m (av_X4_copy_3_1 a t p2 p3 p4).toArray below meth c H locs 0 0 (MQ below (qc_X4_copy_3_1 dC dI a kA sz M L Z) (av_X4_copy_3_1 a t p2 p3 p4).toArray s 0 0 (cpA a sz)) (F0 m 26 ls [.int v1]) := by
    intro v1 H locs ls h hI hl
    have h := hK26 v1 h
    refine lv_istore (lv' := [(5, .int v1), (0, .ref (a 3)), (1, .ref (a 1)), (2, .int p2), (3, .int p3), (4, .int p4)]) hx hb dX4_copy_26 hl (by decide) rfl (fun ls hl => ?_)
    refine lv_iload hx hb dX4_copy_28 (lv_at hl 0 rfl) ?_
    refine lv_if_eq (tgt := 64) hx hb dX4_copy_30 (by decide) (fun c2 => ?_) (fun c2 => ?_)
    · have h := h.1 c2
      exact cpvret (Z := (fun M' L' => L' = L ∧ Z M')) hx hb hr hlocks hK hI dX4_copy_64 ⟨rfl, h⟩
    · have h := h.2 c2
      refine lv_iload_n hx hb dX4_copy_33 rfl (lv_at hl 4 rfl) ?_
      refine lv_if_lt (tgt := 64) hx hb dX4_copy_34 (by decide) (fun c3 => ?_) (fun c3 => ?_)
      · have h := h.1 c3
        exact cpvret (Z := (fun M' L' => L' = L ∧ Z M')) hx hb hr hlocks hK hI dX4_copy_64 ⟨rfl, h⟩
      · have h := h.2 c3
        refine lv_iload_n hx hb dX4_copy_37 rfl (lv_at hl 4 rfl) ?_
        refine lv_aload_n hx hb dX4_copy_38 rfl (lv_at hl 1 rfl) ?_
        refine va_get (D := (dC, dI)) (ci := 3) (v := .ref (a 4)) (C := RX4) (T := TX4) (N := 2) hx hb hu uX4 hown hK hI.1 3 rfl rfl 0 (by decide) (hu _ uww_52) (fun _ h9 => h9) rfl dX4_copy_39 ?_
        refine va_alen (v := (2408 : Int32)) hx hb hK hI.1 4 1 rfl rfl rfl dX4_copy_42 ?_
        refine lv_iload hx hb dX4_copy_43 (lv_at hl 5 rfl) ?_
        refine lv_isub hx hb dX4_copy_45 ?_
        refine lv_icmp_gt (tgt := 64) hx hb dX4_copy_46 (by decide) (fun c4 => ?_) (fun c4 => ?_)
        · have h := h.1 c4
          exact cpvret (Z := (fun M' L' => L' = L ∧ Z M')) hx hb hr hlocks hK hI dX4_copy_64 ⟨rfl, h⟩
        · have h := h.2 c4
          refine lv_aload_n hx hb dX4_copy_49 rfl (lv_at hl 2 rfl) ?_
          refine va_get (D := (dC, dI)) (ci := 3) (v := .ref (a 2)) (C := RX4) (T := TX4) (N := 2) hx hb hu uX4 hown hK hI.1 1 rfl rfl 0 (by decide) (hu _ uww_52) (fun _ h9 => h9) rfl dX4_copy_50 ?_
          refine lv_iload_n hx hb dX4_copy_53 rfl (lv_at hl 3 rfl) ?_
          refine lv_aload_n hx hb dX4_copy_54 rfl (lv_at hl 1 rfl) ?_
          refine va_get (D := (dC, dI)) (ci := 3) (v := .ref (a 4)) (C := RX4) (T := TX4) (N := 2) hx hb hu uX4 hown hK hI.1 3 rfl rfl 0 (by decide) (hu _ uww_52) (fun _ h9 => h9) rfl dX4_copy_55 ?_
          refine lv_iload_n hx hb dX4_copy_58 rfl (lv_at hl 4 rfl) ?_
          refine lv_iload hx hb dX4_copy_59 (lv_at hl 5 rfl) ?_
          refine va_copyi (ty := .byte) hx hb (hml.trans hl.1.symm) hown (hu _ uww_143) (hu _ uww_144) (hu _ uww_145) (hu _ uww_146) hK hI.1 hI.2.1 hI.2.2 2 4 0 1 rfl rfl rfl rfl rfl h.1.1 h.1.2.1 h.1.2.2.1 h.1.2.2.2.1 h.1.2.2.2.2.1 h.1.2.2.2.2.2 (Nat.le_of_ble_eq_true rfl) (Nat.le_of_ble_eq_true rfl) dX4_copy_61 (fun H locs hP hD hS => ?_)
          obtain ⟨M5, eM5⟩ : ∃ z : cM, z = ms M 4 (va_cpy (M 2) (M 4) p2.toNatClampNeg p3.toNatClampNeg p4.toNatClampNeg) := ⟨_, rfl⟩
          have hI : cpI dC dI a kA (cpA a sz) s M5 L H locs := ⟨by rw [eM5]; exact cpsets_4 _ _ _ _ _ ▸ hP, by rw [eM5]; exact cpsets_4 _ _ _ _ _ ▸ hD, hS⟩
          have h := h.2 M5 eM5
          exact cpvret (Z := (fun M' L' => L' = L ∧ Z M')) hx hb hr hlocks hK hI dX4_copy_64 ⟨rfl, h⟩
  obtain ⟨K25, hK25, h⟩ := h
  have J25 : ∀  (H : Heap) (locs : List Loc) (ls : Array Slot), K25  → cpI dC dI a kA (cpA a sz) s M L H locs → lv_has ls 6 [(0, .ref (a 3)), (1, .ref (a 1)), (2, .int p2), (3, .int p3), (4, .int p4)] → W p l e rm_X4_copy_3_1 s m (av_X4_copy_3_1 a t p2 p3 p4).toArray below meth c H locs 0 0 (MQ below (qc_X4_copy_3_1 dC dI a kA sz M L Z) (av_X4_copy_3_1 a t p2 p3 p4).toArray s 0 0 (cpA a sz)) (F0 m 25 ls []) := by
    intro  H locs ls h hI hl
    have h := hK25  h
    refine lv_iconst (v := (0 : Int32)) hx hb dX4_copy_25 (by decide) ?_
    exact J26 (0 : Int32) _ _ _ h hI (lv_sub hl [0, 1, 2, 3, 4] rfl)
  refine lv_if_le (tgt := 25) hx hb dX4_copy_2 (by decide) (fun c6 => ?_) (fun c6 => ?_)
  · have h := h.1 c6
    exact J25  _ _ _ h hI (lv_sub hl [0, 1, 2, 3, 4] rfl)
  · have h := h.2 c6
    refine lv_iload_n hx hb dX4_copy_5 rfl (lv_at hl 2 rfl) ?_
    refine lv_if_lt (tgt := 25) hx hb dX4_copy_6 (by decide) (fun c7 => ?_) (fun c7 => ?_)
    · have h := h.1 c7
      exact J25  _ _ _ h hI (lv_sub hl [0, 1, 2, 3, 4] rfl)
    · have h := h.2 c7
      refine lv_iload_n hx hb dX4_copy_9 rfl (lv_at hl 2 rfl) ?_
      refine lv_aload_n hx hb dX4_copy_10 rfl (lv_at hl 1 rfl) ?_
      refine va_get (D := (dC, dI)) (ci := 3) (v := .ref (a 2)) (C := RX4) (T := TX4) (N := 2) hx hb hu uX4 hown hK hI.1 1 rfl rfl 0 (by decide) (hu _ uww_52) (fun _ h9 => h9) rfl dX4_copy_11 ?_
      refine va_alen (v := (2400 : Int32)) hx hb hK hI.1 2 0 rfl rfl rfl dX4_copy_14 ?_
      refine lv_iload hx hb dX4_copy_15 (lv_at hl 4 rfl) ?_
      refine lv_isub hx hb dX4_copy_17 ?_
      refine lv_icmp_gt (tgt := 25) hx hb dX4_copy_18 (by decide) (fun c8 => ?_) (fun c8 => ?_)
      · have h := h.1 c8
        exact J25  _ _ _ h hI (lv_sub hl [0, 1, 2, 3, 4] rfl)
      · have h := h.2 c8
        refine lv_iconst (v := (1 : Int32)) hx hb dX4_copy_21 (by decide) ?_
        refine lv_goto (tgt := 26) hx hb dX4_copy_22 (by decide) ?_
        exact J26 (1 : Int32) _ _ _ h hI (lv_sub hl [0, 1, 2, 3, 4] rfl)

abbrev rm_X4_word_3 : Room := { frames := 0, cells := 0, slots := 0, locals := 0 }
abbrev av_X4_word_3 (a t : Nat → Nat) (p1 : Int32) : List Value := [.ref (a 3), .int p1]
abbrev qc_X4_word_3 (dC : Nat → ClassId) (dI : Nat → Nat → Nat) (a : Nat → Nat) (kA : Nat → ClassId) (sz : Nat) (M : cM) (L : cL) (Z : Int32 → Prop) : Array Value → State → Outcome → State → Prop := va_Qi (fun r (u : cM × cL) => u.1 = M ∧ u.2 = L ∧ Z r) (cpAt dC dI a kA (cpA a sz)) (cpA a sz)
set_option maxHeartbeats 4000000 in
set_option maxRecDepth 100000 in
theorem met_X4_word_3 (l : Launch) (dC : Nat → ClassId) (dI : Nat → Nat → Nat) (a : Nat → Nat) (kA : Nat → ClassId) (t : Nat → Nat) (sz : Nat) (M : cM) (L : cL) (p1 : Int32) (Z : Int32 → Prop) (h : wp_X4_word_3 M L p1 Z) : Met l yX4_word (Cond.code yX4_word cX4_word 2 (some .int) :: uW) rm_X4_word_3 (va_Pc (av_X4_word_3 a t p1) (cpPre dC dI a kA t M L sz)) (qc_X4_word_3 dC dI a kA sz M L Z) 0 0 (cpA a sz) := by
  refine cpenter (cc := cX4_word) (n := 2) (ret := (some .int)) (by decide) rfl (Nat.le_of_ble_eq_true rfl) ?_
  intro p e s m below meth c ls hx hb hml hr hlocks hown hts hK hE hsz hI hl hmn
  have hu : ∀ w ∈ uW, w.before (av_X4_word_3 a t p1).toArray s = true := fun w h => hts w (List.mem_cons_of_mem _ h)
  have hown : s.vm.findClass RX4 = some m.cls := hown
  have hl : lv_has ls 2 [(0, .ref (a 3)), (1, .int p1)] := hl
  unfold wp_X4_word_3 at h
  refine lv_iload_n hx hb dX4_word_0 rfl (lv_at hl 1 rfl) ?_
  refine lv_if_lt (tgt := 44) hx hb dX4_word_1 (by decide) (fun c1 => ?_) (fun c1 => ?_)
  · have h := h.1 c1
    refine lv_iconst (v := (0 : Int32)) hx hb dX4_word_44 (by decide) ?_
    exact cpiret (Z := (fun r M' L' => M' = M ∧ L' = L ∧ Z r)) hx hb hr hlocks hK hI dX4_word_45 ⟨rfl, rfl, h⟩
  · have h := h.2 c1
    refine lv_iload_n hx hb dX4_word_4 rfl (lv_at hl 1 rfl) ?_
    refine lv_aload_n hx hb dX4_word_5 rfl (lv_at hl 0 rfl) ?_
    refine va_get (D := (dC, dI)) (ci := 3) (v := .ref (a 4)) (C := RX4) (T := TX4) (N := 2) hx hb hu uX4 hown hK hI.1 3 rfl rfl 0 (by decide) (hu _ uww_52) (fun _ h9 => h9) rfl dX4_word_6 ?_
    refine va_alen (v := (2408 : Int32)) hx hb hK hI.1 4 1 rfl rfl rfl dX4_word_9 ?_
    refine lv_iconst (v := (1 : Int32)) hx hb dX4_word_10 (by decide) ?_
    refine lv_isub hx hb dX4_word_11 ?_
    refine lv_icmp_ge (tgt := 44) hx hb dX4_word_12 (by decide) (fun c2 => ?_) (fun c2 => ?_)
    · have h := h.1 c2
      refine lv_iconst (v := (0 : Int32)) hx hb dX4_word_44 (by decide) ?_
      exact cpiret (Z := (fun r M' L' => M' = M ∧ L' = L ∧ Z r)) hx hb hr hlocks hK hI dX4_word_45 ⟨rfl, rfl, h⟩
    · have h := h.2 c2
      refine lv_aload_n hx hb dX4_word_15 rfl (lv_at hl 0 rfl) ?_
      refine va_get (D := (dC, dI)) (ci := 3) (v := .ref (a 4)) (C := RX4) (T := TX4) (N := 2) hx hb hu uX4 hown hK hI.1 3 rfl rfl 0 (by decide) (hu _ uww_52) (fun _ h9 => h9) rfl dX4_word_16 ?_
      refine lv_iload_n hx hb dX4_word_19 rfl (lv_at hl 1 rfl) ?_
      refine va_bald hx hb hK hI.1 4 1 rfl rfl h.1 dX4_word_20 ?_
      have h := h.2
      refine lv_sipush (v := (255 : Int32)) hx hb dX4_word_21 (by decide) ?_
      refine lv_iand hx hb dX4_word_24 ?_
      refine lv_bipush (v := (8 : Int32)) hx hb dX4_word_25 (by decide) ?_
      refine lv_ishl hx hb dX4_word_27 ?_
      refine lv_aload_n hx hb dX4_word_28 rfl (lv_at hl 0 rfl) ?_
      refine va_get (D := (dC, dI)) (ci := 3) (v := .ref (a 4)) (C := RX4) (T := TX4) (N := 2) hx hb hu uX4 hown hK hI.1 3 rfl rfl 0 (by decide) (hu _ uww_52) (fun _ h9 => h9) rfl dX4_word_29 ?_
      refine lv_iload_n hx hb dX4_word_32 rfl (lv_at hl 1 rfl) ?_
      refine lv_iconst (v := (1 : Int32)) hx hb dX4_word_33 (by decide) ?_
      refine lv_iadd hx hb dX4_word_34 ?_
      refine va_bald hx hb hK hI.1 4 1 rfl rfl h.1 dX4_word_35 ?_
      have h := h.2
      refine lv_sipush (v := (255 : Int32)) hx hb dX4_word_36 (by decide) ?_
      refine lv_iand hx hb dX4_word_39 ?_
      refine lv_ior hx hb dX4_word_40 ?_
      refine lv_goto (tgt := 45) hx hb dX4_word_41 (by decide) ?_
      exact cpiret (Z := (fun r M' L' => M' = M ∧ L' = L ∧ Z r)) hx hb hr hlocks hK hI dX4_word_45 ⟨rfl, rfl, h⟩

abbrev rm_X6_adjusted : Room := { frames := 1, cells := 0, slots := 0, locals := 24 }
abbrev av_X6_adjusted (a t : Nat → Nat) (p0 : Int32) (p1 : Int64) (p3 : Int32) (p4 : Int64) : List Value := [.int p0, .long p1, .int p3, .long p4]
abbrev qc_X6_adjusted (dC : Nat → ClassId) (dI : Nat → Nat → Nat) (a : Nat → Nat) (kA : Nat → ClassId) (sz : Nat) (M : cM) (L : cL) (Z : Int32 → Prop) : Array Value → State → Outcome → State → Prop := va_Qi (fun r (u : cM × cL) => u.1 = M ∧ u.2 = L ∧ Z r) (cpAt dC dI a kA (cpA a sz)) (cpA a sz)
set_option maxHeartbeats 4000000 in
set_option maxRecDepth 100000 in
theorem met_X6_adjusted (l : Launch) (dC : Nat → ClassId) (dI : Nat → Nat → Nat) (a : Nat → Nat) (kA : Nat → ClassId) (t : Nat → Nat) (sz : Nat) (M : cM) (L : cL) (p0 : Int32) (p1 : Int64) (p3 : Int32) (p4 : Int64) (Z : Int32 → Prop) (h : wp_X6_adjusted M L p0 p1 p3 p4 Z) : Met l yX6_adjusted (Cond.code yX6_adjusted cX6_adjusted 6 (some .int) :: uW) rm_X6_adjusted (va_Pc (av_X6_adjusted a t p0 p1 p3 p4) (cpPre dC dI a kA t M L sz)) (qc_X6_adjusted dC dI a kA sz M L Z) 0 0 (cpA a sz) := by
  refine cpenter (cc := cX6_adjusted) (n := 6) (ret := (some .int)) (by decide) rfl (Nat.le_of_ble_eq_true rfl) ?_
  intro p e s m below meth c ls hx hb hml hr hlocks hown hts hK hE hsz hI hl hmn
  have hu : ∀ w ∈ uW, w.before (av_X6_adjusted a t p0 p1 p3 p4).toArray s = true := fun w h => hts w (List.mem_cons_of_mem _ h)
  have hown : s.vm.findClass RX6 = some m.cls := hown
  have hl : lv_has ls 6 [(0, .int p0), (1, .long p1), (3, .int p3), (4, .long p4)] := hl
  unfold wp_X6_adjusted at h
  refine lv_ldcw (own := RX6) (v := (65535 : Int32)) hx hb hown (hu _ uww_300) dX6_adjusted_0 ?_
  refine lv_ldcw (own := RX6) (v := (65535 : Int32)) hx hb hown (hu _ uww_300) dX6_adjusted_3 ?_
  refine lv_iload_n hx hb dX6_adjusted_6 rfl (lv_at hl 0 rfl) ?_
  refine lv_isub hx hb dX6_adjusted_7 ?_
  refine lv_i2l hx hb dX6_adjusted_8 rfl ?_
  refine lv_ldc2 (own := RX6) (v := (65535 : Int64)) hx hb hown (hu _ uww_69) dX6_adjusted_9 ?_
  refine lv_iload_n hx hb dX6_adjusted_12 rfl (lv_at hl 2 rfl) ?_
  refine lv_i2l hx hb dX6_adjusted_13 rfl ?_
  refine lv_lmul hx hb dX6_adjusted_14 ?_
  refine lv_lload_n hx hb dX6_adjusted_15 rfl (lv_at hl 1 rfl) ?_
  refine lv_lsub hx hb dX6_adjusted_16 ?_
  refine lv_ladd hx hb dX6_adjusted_17 ?_
  refine lv_lload hx hb dX6_adjusted_18 (lv_at hl 3 rfl) ?_
  refine lv_ladd hx hb dX6_adjusted_20 ?_
  refine cpcalli_p hsz hI (va_runS (As := [.long (((((65535 : Int32) - p0).toInt64) + (((65535 : Int64) * (p3.toInt64)) - p1)) + p4)]) (rest := [.int (65535 : Int32)]) ⟨hx, hb, hml, hown, hu⟩ (met_X6_folded l dC dI a kA t _ M L (((((65535 : Int32) - p0).toInt64) + (((65535 : Int64) * (p3.toInt64)) - p1)) + p4) _ h) (cwl_X6_305_S hu ⟨by decide, by decide⟩) (cppreS hK hE hsz hI) rfl rfl hl.1 rfl (lv_room (Nat.le_of_ble_eq_true rfl)) dX6_adjusted_21 ⟨by decide, by decide⟩) (fun r1 H locs h hI => ?_)
  refine lv_isub hx hb dX6_adjusted_24 ?_
  exact cpiret (Z := (fun r M' L' => M' = M ∧ L' = L ∧ Z r)) hx hb hr hlocks hK hI dX6_adjusted_25 ⟨rfl, rfl, h⟩

abbrev rm_X4_put_3 : Room := { frames := 0, cells := 0, slots := 0, locals := 0 }
abbrev av_X4_put_3 (a t : Nat → Nat) (p1 : Int32) (p2 : Int32) (p3 : Int64) : List Value := [.ref (a 3), .int p1, .int p2, .long p3]
abbrev qc_X4_put_3 (dC : Nat → ClassId) (dI : Nat → Nat → Nat) (a : Nat → Nat) (kA : Nat → ClassId) (sz : Nat) (M : cM) (L : cL) (Z : cM → Prop) : Array Value → State → Outcome → State → Prop := va_Qv (fun (u : cM × cL) => u.2 = L ∧ Z u.1) (cpAt dC dI a kA (cpA a sz)) (cpA a sz)
set_option maxHeartbeats 4000000 in
set_option maxRecDepth 100000 in
theorem met_X4_put_3 (l : Launch) (dC : Nat → ClassId) (dI : Nat → Nat → Nat) (a : Nat → Nat) (kA : Nat → ClassId) (t : Nat → Nat) (sz : Nat) (M : cM) (L : cL) (p1 : Int32) (p2 : Int32) (p3 : Int64) (Z : cM → Prop) (h : wp_X4_put_3 M L p1 p2 p3 Z) : Met l yX4_put (Cond.code yX4_put cX4_put 7 none :: uW) rm_X4_put_3 (va_Pc (av_X4_put_3 a t p1 p2 p3) (cpPre dC dI a kA t M L sz)) (qc_X4_put_3 dC dI a kA sz M L Z) 0 0 (cpA a sz) := by
  refine cpenter (cc := cX4_put) (n := 7) (ret := none) (by decide) rfl (Nat.le_of_ble_eq_true rfl) ?_
  intro p e s m below meth c ls hx hb hml hr hlocks hown hts hK hE hsz hI hl hmn
  have hu : ∀ w ∈ uW, w.before (av_X4_put_3 a t p1 p2 p3).toArray s = true := fun w h => hts w (List.mem_cons_of_mem _ h)
  have hown : s.vm.findClass RX4 = some m.cls := hown
  have hl : lv_has ls 7 [(0, .ref (a 3)), (1, .int p1), (2, .int p2), (3, .long p3)] := hl
  unfold wp_X4_put_3 at h
  refine lv_iconst (v := (0 : Int32)) hx hb dX4_put_0 (by decide) ?_
  refine lv_istore (lv' := [(5, .int (0 : Int32)), (0, .ref (a 3)), (1, .int p1), (2, .int p2), (3, .long p3)]) hx hb dX4_put_1 hl (by decide) rfl (fun ls hl => ?_)
  obtain ⟨I3, m3, h, hs3⟩ := h
  have P3 : ∀ (n3 : Nat) (x1 : Int32) (M2 : cM) (H : Heap) (locs : List Loc) (ls : Array Slot), I3 x1 M2 → m3 x1 M2 < n3 → cpI dC dI a kA (cpA a sz) s M2 L H locs → lv_has ls 7 [(0, .ref (a 3)), (1, .int p1), (2, .int p2), (3, .long p3), (5, .int x1)] → W p l e rm_X4_put_3 s m (av_X4_put_3 a t p1 p2 p3).toArray below meth c H locs 0 0 (MQ below (qc_X4_put_3 dC dI a kA sz M L Z) (av_X4_put_3 a t p1 p2 p3).toArray s 0 0 (cpA a sz)) (F0 m 3 ls []) := by
    intro n3
    induction n3 with
    | zero => intro x1 M2 H locs ls _ hn; exact absurd hn (Nat.not_lt_zero _)
    | succ n3 ih3 =>
      intro x1 M2 H locs ls h hn3 hI hl
      have h := hs3 x1 M2 h
      refine lv_iload hx hb dX4_put_3 (lv_at hl 4 rfl) ?_
      refine lv_iload_n hx hb dX4_put_5 rfl (lv_at hl 2 rfl) ?_
      refine lv_icmp_ge (tgt := 56) hx hb dX4_put_6 (by decide) (fun c3 => ?_) (fun c3 => ?_)
      · have h := h.1 c3
        exact cpvret (Z := (fun M' L' => L' = L ∧ Z M')) hx hb hr hlocks hK hI dX4_put_56 ⟨rfl, h⟩
      · have h := h.2 c3
        refine lv_iload_n hx hb dX4_put_9 rfl (lv_at hl 1 rfl) ?_
        refine lv_iload hx hb dX4_put_10 (lv_at hl 4 rfl) ?_
        refine lv_iadd hx hb dX4_put_12 ?_
        refine lv_topi (fun x4 ex4 => ?_)
        have h := h x4 ex4
        refine lv_istore (lv' := [(6, .int x4), (0, .ref (a 3)), (1, .int p1), (2, .int p2), (3, .long p3), (5, .int x1)]) hx hb dX4_put_13 hl (by decide) rfl (fun ls hl => ?_)
        refine lv_iload hx hb dX4_put_15 (lv_at hl 0 rfl) ?_
        obtain ⟨K50, hK50, h⟩ := h
        have J50 : ∀ (M5 : cM) (H : Heap) (locs : List Loc) (ls : Array Slot), K50 M5 → cpI dC dI a kA (cpA a sz) s M5 L H locs → lv_has ls 7 [(0, .ref (a 3)), (1, .int p1), (2, .int p2), (3, .long p3), (5, .int x1)] → W p l e rm_X4_put_3 s m (av_X4_put_3 a t p1 p2 p3).toArray below meth c H locs 0 0 (MQ below (qc_X4_put_3 dC dI a kA sz M L Z) (av_X4_put_3 a t p1 p2 p3).toArray s 0 0 (cpA a sz)) (F0 m 50 ls []) := by
          intro M5 H locs ls h hI hl
          have h := hK50 M5 h
          obtain ⟨x6, ex6⟩ : ∃ y : Int32, y = (x1 + (1 : Int32)) := ⟨_, rfl⟩
          have h := h x6 ex6
          refine lv_iinc (v := x6) (lv' := [(5, .int x6), (0, .ref (a 3)), (1, .int p1), (2, .int p2), (3, .long p3)]) hx hb dX4_put_50 hl (k := 4) rfl (by rw [ex6]; rfl) (by decide) rfl (fun ls hl => ?_)
          refine lv_goto (tgt := 3) hx hb dX4_put_53 (by decide) ?_
          exact ih3 x6 M5 _ _ _ h.1 (Nat.lt_of_lt_of_le h.2 (Nat.le_of_lt_succ hn3)) hI (lv_sub hl [1, 2, 3, 4, 0] rfl)
        refine lv_if_lt (tgt := 50) hx hb dX4_put_17 (by decide) (fun c7 => ?_) (fun c7 => ?_)
        · have h := h.1 c7
          exact J50 M2 _ _ _ h hI (lv_sub hl [1, 2, 3, 4, 5] rfl)
        · have h := h.2 c7
          refine lv_iload hx hb dX4_put_20 (lv_at hl 0 rfl) ?_
          refine lv_aload_n hx hb dX4_put_22 rfl (lv_at hl 1 rfl) ?_
          refine va_get (D := (dC, dI)) (ci := 3) (v := .ref (a 4)) (C := RX4) (T := TX4) (N := 2) hx hb hu uX4 hown hK hI.1 3 rfl rfl 0 (by decide) (hu _ uww_52) (fun _ h9 => h9) rfl dX4_put_23 ?_
          refine va_alen (v := (2408 : Int32)) hx hb hK hI.1 4 1 rfl rfl rfl dX4_put_26 ?_
          refine lv_icmp_ge (tgt := 50) hx hb dX4_put_27 (by decide) (fun c8 => ?_) (fun c8 => ?_)
          · have h := h.1 c8
            exact J50 M2 _ _ _ h hI (lv_sub hl [1, 2, 3, 4, 5] rfl)
          · have h := h.2 c8
            refine lv_aload_n hx hb dX4_put_30 rfl (lv_at hl 1 rfl) ?_
            refine va_get (D := (dC, dI)) (ci := 3) (v := .ref (a 4)) (C := RX4) (T := TX4) (N := 2) hx hb hu uX4 hown hK hI.1 3 rfl rfl 0 (by decide) (hu _ uww_52) (fun _ h9 => h9) rfl dX4_put_31 ?_
            refine lv_iload hx hb dX4_put_34 (lv_at hl 0 rfl) ?_
            refine lv_lload_n hx hb dX4_put_36 rfl (lv_at hl 4 rfl) ?_
            refine lv_bipush (v := (8 : Int32)) hx hb dX4_put_37 (by decide) ?_
            refine lv_iload_n hx hb dX4_put_39 rfl (lv_at hl 3 rfl) ?_
            refine lv_iconst (v := (1 : Int32)) hx hb dX4_put_40 (by decide) ?_
            refine lv_isub hx hb dX4_put_41 ?_
            refine lv_iload hx hb dX4_put_42 (lv_at hl 5 rfl) ?_
            refine lv_isub hx hb dX4_put_44 ?_
            refine lv_imul hx hb dX4_put_45 ?_
            refine lv_lushr hx hb dX4_put_46 rfl ?_
            refine lv_l2i hx hb dX4_put_47 rfl ?_
            refine lv_i2b hx hb dX4_put_48 rfl ?_
            refine cpbast hx hb hK hI 4 1 rfl rfl h.1 (cpset_4 _ _ _ _ _ _) dX4_put_49 (fun H locs M9 eM9 hI => ?_)
            have h := h.2 M9 eM9
            exact J50 M9 _ _ _ h hI (lv_sub hl [1, 2, 3, 4, 5] rfl)
  exact P3 (m3 (0 : Int32) M + 1) (0 : Int32) M _ _ _ h (Nat.lt_succ_self _) hI (lv_sub hl [1, 2, 3, 4, 0] rfl)

abbrev rm_X6_fixTransport_0_11 : Room := { frames := 2, cells := 0, slots := 0, locals := 49 }
abbrev av_X6_fixTransport_0_11 (a t : Nat → Nat) (p2 : Int32) (p3 : Int64) (p5 : Int32) (p6 : Int64) : List Value := [.ref (a 0), .ref (a 11), .int p2, .long p3, .int p5, .long p6]
abbrev qc_X6_fixTransport_0_11 (dC : Nat → ClassId) (dI : Nat → Nat → Nat) (a : Nat → Nat) (kA : Nat → ClassId) (sz : Nat) (M : cM) (L : cL) (Z : cM → Prop) : Array Value → State → Outcome → State → Prop := va_Qv (fun (u : cM × cL) => u.2 = L ∧ Z u.1) (cpAt dC dI a kA (cpA a sz)) (cpA a sz)
set_option maxHeartbeats 4000000 in
set_option maxRecDepth 100000 in
theorem met_X6_fixTransport_0_11 (l : Launch) (dC : Nat → ClassId) (dI : Nat → Nat → Nat) (a : Nat → Nat) (kA : Nat → ClassId) (t : Nat → Nat) (sz : Nat) (M : cM) (L : cL) (p2 : Int32) (p3 : Int64) (p5 : Int32) (p6 : Int64) (Z : cM → Prop) (h : wp_X6_fixTransport_0_11 M L p2 p3 p5 p6 Z) : Met l yX6_fixTransport (Cond.code yX6_fixTransport cX6_fixTransport 12 none :: uW) rm_X6_fixTransport_0_11 (va_Pc (av_X6_fixTransport_0_11 a t p2 p3 p5 p6) (cpPre dC dI a kA t M L sz)) (qc_X6_fixTransport_0_11 dC dI a kA sz M L Z) 0 0 (cpA a sz) := by
  refine cpenter (cc := cX6_fixTransport) (n := 12) (ret := none) (by decide) rfl (Nat.le_of_ble_eq_true rfl) ?_
  intro p e s m below meth c ls hx hb hml hr hlocks hown hts hK hE hsz hI hl hmn
  have hu : ∀ w ∈ uW, w.before (av_X6_fixTransport_0_11 a t p2 p3 p5 p6).toArray s = true := fun w h => hts w (List.mem_cons_of_mem _ h)
  have hown : s.vm.findClass RX6 = some m.cls := hown
  have hl : lv_has ls 12 [(0, .ref (a 0)), (1, .ref (a 11)), (2, .int p2), (3, .long p3), (5, .int p5), (6, .long p6)] := hl
  unfold wp_X6_fixTransport_0_11 at h
  refine lv_aload_n hx hb dX6_fixTransport_0 rfl (lv_at hl 1 rfl) ?_
  refine va_get (D := (dC, dI)) (ci := 0) (v := .int (M 11 3)) (C := RX0) (T := TX0) (N := 18) hx hb hu uX0 hown hK hI.1 11 rfl rfl 3 (by decide) (hu _ uww_321) (fun _ h9 => h9) rfl dX6_fixTransport_1 ?_
  refine lv_bipush (v := (17 : Int32)) hx hb dX6_fixTransport_4 (by decide) ?_
  obtain ⟨K16, hK16, h⟩ := h
  have J16 : ∀ (v1 : Int32) (H : Heap) (locs : List Loc) (ls : Array Slot), K16 v1 → cpI dC dI a kA (cpA a sz) s M L H locs → lv_has ls 12 [(0, .ref (a 0)), (1, .ref (a 11)), (2, .int p2), (3, .long p3), (5, .int p5), (6, .long p6)] → W p l e rm_X6_fixTransport_0_11 s m (av_X6_fixTransport_0_11 a t p2 p3 p5 p6).toArray below meth c H locs 0 0 (MQ below (qc_X6_fixTransport_0_11 dC dI a kA sz M L Z) (av_X6_fixTransport_0_11 a t p2 p3 p5 p6).toArray s 0 0 (cpA a sz)) (F0 m 16 ls [.int v1]) := by
    intro v1 H locs ls h hI hl
    have h := hK16 v1 h
    refine lv_istore (lv' := [(8, .int v1), (0, .ref (a 0)), (1, .ref (a 11)), (2, .int p2), (3, .long p3), (5, .int p5), (6, .long p6)]) hx hb dX6_fixTransport_16 hl (by decide) rfl (fun ls hl => ?_)
    refine lv_aload_n hx hb dX6_fixTransport_18 rfl (lv_at hl 2 rfl) ?_
    refine va_get (D := (dC, dI)) (ci := 0) (v := .int (M 11 3)) (C := RX0) (T := TX0) (N := 18) hx hb hu uX0 hown hK hI.1 11 rfl rfl 3 (by decide) (hu _ uww_321) (fun _ h9 => h9) rfl dX6_fixTransport_19 ?_
    refine lv_bipush (v := (17 : Int32)) hx hb dX6_fixTransport_22 (by decide) ?_
    obtain ⟨K41, hK41, h⟩ := h
    have J41 : ∀ (v2 : Int32) (H : Heap) (locs : List Loc) (ls : Array Slot), K41 v2 → cpI dC dI a kA (cpA a sz) s M L H locs → lv_has ls 12 [(0, .ref (a 0)), (1, .ref (a 11)), (2, .int p2), (3, .long p3), (5, .int p5), (6, .long p6), (8, .int v1)] → W p l e rm_X6_fixTransport_0_11 s m (av_X6_fixTransport_0_11 a t p2 p3 p5 p6).toArray below meth c H locs 0 0 (MQ below (qc_X6_fixTransport_0_11 dC dI a kA sz M L Z) (av_X6_fixTransport_0_11 a t p2 p3 p5 p6).toArray s 0 0 (cpA a sz)) (F0 m 41 ls [.int v2]) := by
      intro v2 H locs ls h hI hl
      have h := hK41 v2 h
      refine lv_istore (lv' := [(9, .int v2), (0, .ref (a 0)), (1, .ref (a 11)), (2, .int p2), (3, .long p3), (5, .int p5), (6, .long p6), (8, .int v1)]) hx hb dX6_fixTransport_41 hl (by decide) rfl (fun ls hl => ?_)
      refine lv_iload hx hb dX6_fixTransport_43 (lv_at hl 0 rfl) ?_
      refine lv_if_eq (tgt := 66) hx hb dX6_fixTransport_45 (by decide) (fun c3 => ?_) (fun c3 => ?_)
      · have h := h.1 c3
        exact cpvret (Z := (fun M' L' => L' = L ∧ Z M')) hx hb hr hlocks hK hI dX6_fixTransport_66 ⟨rfl, h⟩
      · have h := h.2 c3
        refine lv_aload_n hx hb dX6_fixTransport_48 rfl (lv_at hl 2 rfl) ?_
        refine va_get (D := (dC, dI)) (ci := 0) (v := .int (M 11 6)) (C := RX0) (T := TX0) (N := 18) hx hb hu uX0 hown hK hI.1 11 rfl rfl 6 (by decide) (hu _ uww_322) (fun _ h9 => h9) rfl dX6_fixTransport_49 ?_
        refine lv_if_ne (tgt := 66) hx hb dX6_fixTransport_52 (by decide) (fun c4 => ?_) (fun c4 => ?_)
        · have h := h.1 c4
          exact cpvret (Z := (fun M' L' => L' = L ∧ Z M')) hx hb hr hlocks hK hI dX6_fixTransport_66 ⟨rfl, h⟩
        · have h := h.2 c4
          refine lv_aload_n hx hb dX6_fixTransport_55 rfl (lv_at hl 2 rfl) ?_
          refine va_get (D := (dC, dI)) (ci := 0) (v := .int (M 11 9)) (C := RX0) (T := TX0) (N := 18) hx hb hu uX0 hown hK hI.1 11 rfl rfl 9 (by decide) (hu _ uww_400) (fun _ h9 => h9) rfl dX6_fixTransport_56 ?_
          refine lv_iload hx hb dX6_fixTransport_59 (lv_at hl 7 rfl) ?_
          refine lv_iconst (v := (2 : Int32)) hx hb dX6_fixTransport_61 (by decide) ?_
          refine lv_iadd hx hb dX6_fixTransport_62 ?_
          refine lv_icmp_ge (tgt := 67) hx hb dX6_fixTransport_63 (by decide) (fun c5 => ?_) (fun c5 => ?_)
          · have h := h.1 c5
            refine lv_aload_n hx hb dX6_fixTransport_67 rfl (lv_at hl 1 rfl) ?_
            refine va_get (D := (dC, dI)) (ci := 5) (v := .ref (a 3)) (C := RX6) (T := TX6) (N := 17) hx hb hu uX6 hown hK hI.1 0 rfl rfl 1 (by decide) (hu _ uww_214) (fun _ h9 => h9) rfl dX6_fixTransport_68 ?_
            refine lv_iload_n hx hb dX6_fixTransport_71 rfl (lv_at hl 3 rfl) ?_
            refine lv_iload hx hb dX6_fixTransport_72 (lv_at hl 7 rfl) ?_
            refine lv_iadd hx hb dX6_fixTransport_74 ?_
            refine cpcalli_p hsz hI (va_runV (As := [.int (p2 + v1)]) (rest := []) ⟨hx, hb, hml, hown, hu⟩ (met_X4_word_3 l dC dI a kA t _ M L (p2 + v1) _ h) (cwl_X6_272_X4 hu ⟨by decide, by decide⟩) (cppre (ci := 3) hK hE hsz hI rfl rfl) rfl rfl hl.1 rfl (lv_room (Nat.le_of_ble_eq_true rfl)) dX6_fixTransport_75 ⟨by decide, by decide⟩) (fun r6 H locs h hI => ?_)
            refine lv_istore (lv' := [(10, .int r6), (9, .int v2), (0, .ref (a 0)), (1, .ref (a 11)), (2, .int p2), (3, .long p3), (5, .int p5), (6, .long p6), (8, .int v1)]) hx hb dX6_fixTransport_78 hl (by decide) rfl (fun ls hl => ?_)
            refine lv_aload_n hx hb dX6_fixTransport_80 rfl (lv_at hl 3 rfl) ?_
            refine va_get (D := (dC, dI)) (ci := 0) (v := .int (M 11 3)) (C := RX0) (T := TX0) (N := 18) hx hb hu uX0 hown hK hI.1 11 rfl rfl 3 (by decide) (hu _ uww_321) (fun _ h9 => h9) rfl dX6_fixTransport_81 ?_
            refine lv_bipush (v := (6 : Int32)) hx hb dX6_fixTransport_84 (by decide) ?_
            refine lv_icmp_ne (tgt := 115) hx hb dX6_fixTransport_86 (by decide) (fun c7 => ?_) (fun c7 => ?_)
            · have h := h.1 c7
              refine lv_iload hx hb dX6_fixTransport_115 (lv_at hl 0 rfl) ?_
              refine lv_if_eq (tgt := 158) hx hb dX6_fixTransport_117 (by decide) (fun c8 => ?_) (fun c8 => ?_)
              · have h := h.1 c8
                exact cpvret (Z := (fun M' L' => L' = L ∧ Z M')) hx hb hr hlocks hK hI dX6_fixTransport_158 ⟨rfl, h⟩
              · have h := h.2 c8
                refine lv_iload hx hb dX6_fixTransport_120 (lv_at hl 0 rfl) ?_
                refine lv_lload_n hx hb dX6_fixTransport_122 rfl (lv_at hl 5 rfl) ?_
                refine lv_iload hx hb dX6_fixTransport_123 (lv_at hl 6 rfl) ?_
                refine lv_lload hx hb dX6_fixTransport_125 (lv_at hl 7 rfl) ?_
                refine cpcalli_p hsz hI (va_runS (As := [.int r6, .long p3, .int p5, .long p6]) (rest := []) ⟨hx, hb, hml, hown, hu⟩ (met_X6_adjusted l dC dI a kA t _ M L r6 p3 p5 p6 _ h) (cwl_X6_291_S hu ⟨by decide, by decide⟩) (cppreS hK hE hsz hI) rfl rfl hl.1 rfl (lv_room (Nat.le_of_ble_eq_true rfl)) dX6_fixTransport_127 ⟨by decide, by decide⟩) (fun r9 H locs h hI => ?_)
                refine lv_istore (lv' := [(11, .int r9), (10, .int r6), (9, .int v2), (0, .ref (a 0)), (1, .ref (a 11)), (2, .int p2), (3, .long p3), (5, .int p5), (6, .long p6), (8, .int v1)]) hx hb dX6_fixTransport_130 hl (by decide) rfl (fun ls hl => ?_)
                refine lv_aload_n hx hb dX6_fixTransport_132 rfl (lv_at hl 3 rfl) ?_
                refine va_get (D := (dC, dI)) (ci := 5) (v := .ref (a 3)) (C := RX6) (T := TX6) (N := 17) hx hb hu uX6 hown hK hI.1 0 rfl rfl 1 (by decide) (hu _ uww_214) (fun _ h9 => h9) rfl dX6_fixTransport_133 ?_
                refine lv_iload_n hx hb dX6_fixTransport_136 rfl (lv_at hl 5 rfl) ?_
                refine lv_iload hx hb dX6_fixTransport_137 (lv_at hl 9 rfl) ?_
                refine lv_iadd hx hb dX6_fixTransport_139 ?_
                refine lv_iconst (v := (2 : Int32)) hx hb dX6_fixTransport_140 (by decide) ?_
                refine lv_iload hx hb dX6_fixTransport_141 (lv_at hl 0 rfl) ?_
                obtain ⟨K155, hK155, h⟩ := h
                have J155 : ∀ (v10 : Int64) (H : Heap) (locs : List Loc) (ls : Array Slot), K155 v10 → cpI dC dI a kA (cpA a sz) s M L H locs → lv_has ls 12 [] → W p l e rm_X6_fixTransport_0_11 s m (av_X6_fixTransport_0_11 a t p2 p3 p5 p6).toArray below meth c H locs 0 0 (MQ below (qc_X6_fixTransport_0_11 dC dI a kA sz M L Z) (av_X6_fixTransport_0_11 a t p2 p3 p5 p6).toArray s 0 0 (cpA a sz)) (F0 m 155 ls [.long v10, .int (2 : Int32), .int (p2 + v1), .ref (a 3)]) := by
                  intro v10 H locs ls h hI hl
                  have h := hK155 v10 h
                  refine cpcallv_m hsz hI (va_runV (As := [.int (p2 + v1), .int (2 : Int32), .long v10]) (rest := []) ⟨hx, hb, hml, hown, hu⟩ (met_X4_put_3 l dC dI a kA t _ M L (p2 + v1) (2 : Int32) v10 _ h) (cwl_X6_99_X4 hu ⟨by decide, by decide⟩) (cppre (ci := 3) hK hE hsz hI rfl rfl) rfl rfl hl.1 rfl (lv_room (Nat.le_of_ble_eq_true rfl)) dX6_fixTransport_155 ⟨by decide, by decide⟩) (fun M11 H locs h hI => ?_)
                  exact cpvret (Z := (fun M' L' => L' = L ∧ Z M')) hx hb hr hlocks hK hI dX6_fixTransport_158 ⟨rfl, h⟩
                refine lv_if_ne (tgt := 152) hx hb dX6_fixTransport_143 (by decide) (fun c12 => ?_) (fun c12 => ?_)
                · have h := h.1 c12
                  refine lv_iload hx hb dX6_fixTransport_152 (lv_at hl 0 rfl) ?_
                  refine lv_i2l hx hb dX6_fixTransport_154 rfl ?_
                  exact J155 (r9.toInt64) _ _ _ h hI (lv_sub hl [] rfl)
                · have h := h.2 c12
                  refine lv_ldc2 (own := RX6) (v := (65535 : Int64)) hx hb hown (hu _ uww_69) dX6_fixTransport_146 ?_
                  refine lv_goto (tgt := 155) hx hb dX6_fixTransport_149 (by decide) ?_
                  exact J155 (65535 : Int64) _ _ _ h hI (lv_sub hl [] rfl)
            · have h := h.2 c7
              refine lv_aload_n hx hb dX6_fixTransport_89 rfl (lv_at hl 2 rfl) ?_
              refine va_get (D := (dC, dI)) (ci := 5) (v := .ref (a 3)) (C := RX6) (T := TX6) (N := 17) hx hb hu uX6 hown hK hI.1 0 rfl rfl 1 (by decide) (hu _ uww_214) (fun _ h9 => h9) rfl dX6_fixTransport_90 ?_
              refine lv_iload_n hx hb dX6_fixTransport_93 rfl (lv_at hl 4 rfl) ?_
              refine lv_iload hx hb dX6_fixTransport_94 (lv_at hl 8 rfl) ?_
              refine lv_iadd hx hb dX6_fixTransport_96 ?_
              refine lv_iconst (v := (2 : Int32)) hx hb dX6_fixTransport_97 (by decide) ?_
              refine lv_iload hx hb dX6_fixTransport_98 (lv_at hl 0 rfl) ?_
              refine lv_lload_n hx hb dX6_fixTransport_100 rfl (lv_at hl 5 rfl) ?_
              refine lv_iload hx hb dX6_fixTransport_101 (lv_at hl 6 rfl) ?_
              refine lv_lload hx hb dX6_fixTransport_103 (lv_at hl 7 rfl) ?_
              refine cpcalli_p hsz hI (va_runS (As := [.int r6, .long p3, .int p5, .long p6]) (rest := [.int (2 : Int32), .int (p2 + v1), .ref (a 3)]) ⟨hx, hb, hml, hown, hu⟩ (met_X6_adjusted l dC dI a kA t _ M L r6 p3 p5 p6 _ h) (cwl_X6_291_S hu ⟨by decide, by decide⟩) (cppreS hK hE hsz hI) rfl rfl hl.1 rfl (lv_room (Nat.le_of_ble_eq_true rfl)) dX6_fixTransport_105 ⟨by decide, by decide⟩) (fun r13 H locs h hI => ?_)
              refine lv_i2l hx hb dX6_fixTransport_108 rfl ?_
              refine cpcallv_m hsz hI (va_runV (As := [.int (p2 + v1), .int (2 : Int32), .long (r13.toInt64)]) (rest := []) ⟨hx, hb, hml, hown, hu⟩ (met_X4_put_3 l dC dI a kA t _ M L (p2 + v1) (2 : Int32) (r13.toInt64) _ h) (cwl_X6_99_X4 hu ⟨by decide, by decide⟩) (cppre (ci := 3) hK hE hsz hI rfl rfl) rfl rfl hl.1 rfl (lv_room (Nat.le_of_ble_eq_true rfl)) dX6_fixTransport_109 ⟨by decide, by decide⟩) (fun M14 H locs h hI => ?_)
              refine lv_goto (tgt := 158) hx hb dX6_fixTransport_112 (by decide) ?_
              exact cpvret (Z := (fun M' L' => L' = L ∧ Z M')) hx hb hr hlocks hK hI dX6_fixTransport_158 ⟨rfl, h⟩
          · have h := h.2 c5
            exact cpvret (Z := (fun M' L' => L' = L ∧ Z M')) hx hb hr hlocks hK hI dX6_fixTransport_66 ⟨rfl, h⟩
    obtain ⟨K36, hK36, h⟩ := h
    have J36 : ∀  (H : Heap) (locs : List Loc) (ls : Array Slot), K36  → cpI dC dI a kA (cpA a sz) s M L H locs → lv_has ls 12 [(0, .ref (a 0)), (1, .ref (a 11)), (2, .int p2), (3, .long p3), (5, .int p5), (6, .long p6), (8, .int v1)] → W p l e rm_X6_fixTransport_0_11 s m (av_X6_fixTransport_0_11 a t p2 p3 p5 p6).toArray below meth c H locs 0 0 (MQ below (qc_X6_fixTransport_0_11 dC dI a kA sz M L Z) (av_X6_fixTransport_0_11 a t p2 p3 p5 p6).toArray s 0 0 (cpA a sz)) (F0 m 36 ls []) := by
      intro  H locs ls h hI hl
      have h := hK36  h
      refine lv_iconst (v := (1 : Int32)) hx hb dX6_fixTransport_36 (by decide) ?_
      refine lv_goto (tgt := 41) hx hb dX6_fixTransport_37 (by decide) ?_
      exact J41 (1 : Int32) _ _ _ h hI (lv_sub hl [0, 1, 2, 3, 4, 5, 6] rfl)
    refine lv_icmp_eq (tgt := 36) hx hb dX6_fixTransport_24 (by decide) (fun c15 => ?_) (fun c15 => ?_)
    · have h := h.1 c15
      exact J36  _ _ _ h hI (lv_sub hl [1, 2, 3, 4, 5, 6, 0] rfl)
    · have h := h.2 c15
      refine lv_aload_n hx hb dX6_fixTransport_27 rfl (lv_at hl 2 rfl) ?_
      refine va_get (D := (dC, dI)) (ci := 0) (v := .int (M 11 3)) (C := RX0) (T := TX0) (N := 18) hx hb hu uX0 hown hK hI.1 11 rfl rfl 3 (by decide) (hu _ uww_321) (fun _ h9 => h9) rfl dX6_fixTransport_28 ?_
      refine lv_bipush (v := (6 : Int32)) hx hb dX6_fixTransport_31 (by decide) ?_
      refine lv_icmp_ne (tgt := 40) hx hb dX6_fixTransport_33 (by decide) (fun c16 => ?_) (fun c16 => ?_)
      · have h := h.1 c16
        refine lv_iconst (v := (0 : Int32)) hx hb dX6_fixTransport_40 (by decide) ?_
        exact J41 (0 : Int32) _ _ _ h hI (lv_sub hl [1, 2, 3, 4, 5, 6, 0] rfl)
      · have h := h.2 c16
        exact J36  _ _ _ h hI (lv_sub hl [1, 2, 3, 4, 5, 6, 0] rfl)
  refine lv_icmp_ne (tgt := 14) hx hb dX6_fixTransport_6 (by decide) (fun c17 => ?_) (fun c17 => ?_)
  · have h := h.1 c17
    refine lv_bipush (v := (16 : Int32)) hx hb dX6_fixTransport_14 (by decide) ?_
    exact J16 (16 : Int32) _ _ _ h hI (lv_sub hl [0, 1, 2, 3, 4, 5] rfl)
  · have h := h.2 c17
    refine lv_bipush (v := (6 : Int32)) hx hb dX6_fixTransport_9 (by decide) ?_
    refine lv_goto (tgt := 16) hx hb dX6_fixTransport_11 (by decide) ?_
    exact J16 (6 : Int32) _ _ _ h hI (lv_sub hl [0, 1, 2, 3, 4, 5] rfl)

abbrev rm_X6_fixToSix_0_11 : Room := { frames := 3, cells := 0, slots := 0, locals := 80 }
abbrev av_X6_fixToSix_0_11 (a t : Nat → Nat) (p2 : Int32) : List Value := [.ref (a 0), .ref (a 11), .int p2]
abbrev qc_X6_fixToSix_0_11 (dC : Nat → ClassId) (dI : Nat → Nat → Nat) (a : Nat → Nat) (kA : Nat → ClassId) (sz : Nat) (M : cM) (L : cL) (Z : cM → Prop) : Array Value → State → Outcome → State → Prop := va_Qv (fun (u : cM × cL) => u.2 = L ∧ Z u.1) (cpAt dC dI a kA (cpA a sz)) (cpA a sz)
set_option maxHeartbeats 4000000 in
set_option maxRecDepth 100000 in
theorem met_X6_fixToSix_0_11 (l : Launch) (dC : Nat → ClassId) (dI : Nat → Nat → Nat) (a : Nat → Nat) (kA : Nat → ClassId) (t : Nat → Nat) (sz : Nat) (M : cM) (L : cL) (p2 : Int32) (Z : cM → Prop) (h : wp_X6_fixToSix_0_11 M L p2 Z) : Met l yX6_fixToSix (Cond.code yX6_fixToSix cX6_fixToSix 8 none :: uW) rm_X6_fixToSix_0_11 (va_Pc (av_X6_fixToSix_0_11 a t p2) (cpPre dC dI a kA t M L sz)) (qc_X6_fixToSix_0_11 dC dI a kA sz M L Z) 0 0 (cpA a sz) := by
  refine cpenter (cc := cX6_fixToSix) (n := 8) (ret := none) (by decide) rfl (Nat.le_of_ble_eq_true rfl) ?_
  intro p e s m below meth c ls hx hb hml hr hlocks hown hts hK hE hsz hI hl hmn
  have hu : ∀ w ∈ uW, w.before (av_X6_fixToSix_0_11 a t p2).toArray s = true := fun w h => hts w (List.mem_cons_of_mem _ h)
  have hown : s.vm.findClass RX6 = some m.cls := hown
  have hl : lv_has ls 8 [(0, .ref (a 0)), (1, .ref (a 11)), (2, .int p2)] := hl
  unfold wp_X6_fixToSix_0_11 at h
  refine lv_aload_n hx hb dX6_fixToSix_0 rfl (lv_at hl 1 rfl) ?_
  refine va_get (D := (dC, dI)) (ci := 0) (v := .int (M 11 3)) (C := RX0) (T := TX0) (N := 18) hx hb hu uX0 hown hK hI.1 11 rfl rfl 3 (by decide) (hu _ uww_274) (u_same (hu _ uww_30)) rfl dX6_fixToSix_1 ?_
  refine lv_iconst (v := (1 : Int32)) hx hb dX6_fixToSix_4 (by decide) ?_
  refine lv_icmp_ne (tgt := 115) hx hb dX6_fixToSix_5 (by decide) (fun c1 => ?_) (fun c1 => ?_)
  · have h := h.1 c1
    refine lv_aload_n hx hb dX6_fixToSix_115 rfl (lv_at hl 0 rfl) ?_
    refine lv_aload_n hx hb dX6_fixToSix_116 rfl (lv_at hl 1 rfl) ?_
    refine lv_iload_n hx hb dX6_fixToSix_117 rfl (lv_at hl 2 rfl) ?_
    refine lv_aload_n hx hb dX6_fixToSix_118 rfl (lv_at hl 1 rfl) ?_
    refine va_get (D := (dC, dI)) (ci := 0) (v := .long (L 11 12)) (C := RX0) (T := TX0) (N := 18) hx hb hu uX0 hown hK hI.1 11 rfl rfl 12 (by decide) (hu _ uww_392) (u_same (hu _ uww_36)) rfl dX6_fixToSix_119 ?_
    refine lv_iconst (v := (4 : Int32)) hx hb dX6_fixToSix_122 (by decide) ?_
    refine lv_aload_n hx hb dX6_fixToSix_123 rfl (lv_at hl 1 rfl) ?_
    refine va_get (D := (dC, dI)) (ci := 0) (v := .long (L 11 13)) (C := RX0) (T := TX0) (N := 18) hx hb hu uX0 hown hK hI.1 11 rfl rfl 13 (by decide) (hu _ uww_272) (u_same (hu _ uww_273)) rfl dX6_fixToSix_124 ?_
    refine cpcallv_m hsz hI (va_runV (As := [.ref (a 11), .int p2, .long (L 11 12), .int (4 : Int32), .long (L 11 13)]) (rest := []) ⟨hx, hb, hml, hown, hu⟩ (met_X6_fixTransport_0_11 l dC dI a kA t _ M L p2 (L 11 12) (4 : Int32) (L 11 13) _ h) (cwl_X6_298_X6 hu ⟨by decide, by decide⟩) (cppre (ci := 5) hK hE hsz hI rfl rfl) rfl rfl hl.1 rfl (lv_room (Nat.le_of_ble_eq_true rfl)) dX6_fixToSix_127 ⟨by decide, by decide⟩) (fun M2 H locs h hI => ?_)
    exact cpvret (Z := (fun M' L' => L' = L ∧ Z M')) hx hb hr hlocks hK hI dX6_fixToSix_130 ⟨rfl, h⟩
  · have h := h.2 c1
    refine lv_aload_n hx hb dX6_fixToSix_8 rfl (lv_at hl 0 rfl) ?_
    refine va_get (D := (dC, dI)) (ci := 5) (v := .ref (a 3)) (C := RX6) (T := TX6) (N := 17) hx hb hu uX6 hown hK hI.1 0 rfl rfl 1 (by decide) (hu _ uww_214) (fun _ h9 => h9) rfl dX6_fixToSix_9 ?_
    refine lv_iload_n hx hb dX6_fixToSix_12 rfl (lv_at hl 2 rfl) ?_
    refine cpcalli_p hsz hI (va_runV (As := [.int p2]) (rest := []) ⟨hx, hb, hml, hown, hu⟩ (met_X4_word_3 l dC dI a kA t _ M L p2 _ h) (cwl_X6_272_X4 hu ⟨by decide, by decide⟩) (cppre (ci := 3) hK hE hsz hI rfl rfl) rfl rfl hl.1 rfl (lv_room (Nat.le_of_ble_eq_true rfl)) dX6_fixToSix_13 ⟨by decide, by decide⟩) (fun r3 H locs h hI => ?_)
    refine lv_istore_n (lv' := [(3, .int r3), (0, .ref (a 0)), (1, .ref (a 11)), (2, .int p2)]) hx hb dX6_fixToSix_16 rfl hl (by decide) rfl (fun ls hl => ?_)
    refine lv_iload_n hx hb dX6_fixToSix_17 rfl (lv_at hl 0 rfl) ?_
    refine lv_bipush (v := (8 : Int32)) hx hb dX6_fixToSix_18 (by decide) ?_
    refine lv_ishr hx hb dX6_fixToSix_20 ?_
    refine lv_bipush (v := (8 : Int32)) hx hb dX6_fixToSix_21 (by decide) ?_
    obtain ⟨K35, hK35, h⟩ := h
    have J35 : ∀ (v4 : Int32) (H : Heap) (locs : List Loc) (ls : Array Slot), K35 v4 → cpI dC dI a kA (cpA a sz) s M L H locs → lv_has ls 8 [(0, .ref (a 0)), (1, .ref (a 11)), (2, .int p2), (3, .int r3)] → W p l e rm_X6_fixToSix_0_11 s m (av_X6_fixToSix_0_11 a t p2).toArray below meth c H locs 0 0 (MQ below (qc_X6_fixToSix_0_11 dC dI a kA sz M L Z) (av_X6_fixToSix_0_11 a t p2).toArray s 0 0 (cpA a sz)) (F0 m 35 ls [.int v4]) := by
      intro v4 H locs ls h hI hl
      have h := hK35 v4 h
      refine lv_istore (lv' := [(4, .int v4), (0, .ref (a 0)), (1, .ref (a 11)), (2, .int p2), (3, .int r3)]) hx hb dX6_fixToSix_35 hl (by decide) rfl (fun ls hl => ?_)
      refine lv_iload hx hb dX6_fixToSix_37 (lv_at hl 0 rfl) ?_
      refine lv_bipush (v := (8 : Int32)) hx hb dX6_fixToSix_39 (by decide) ?_
      refine lv_ishl hx hb dX6_fixToSix_41 ?_
      refine lv_iload_n hx hb dX6_fixToSix_42 rfl (lv_at hl 4 rfl) ?_
      refine lv_sipush (v := (255 : Int32)) hx hb dX6_fixToSix_43 (by decide) ?_
      refine lv_iand hx hb dX6_fixToSix_46 ?_
      refine lv_ior hx hb dX6_fixToSix_47 ?_
      refine lv_topi (fun x5 ex5 => ?_)
      have h := h x5 ex5
      refine lv_istore (lv' := [(5, .int x5), (4, .int v4), (0, .ref (a 0)), (1, .ref (a 11)), (2, .int p2), (3, .int r3)]) hx hb dX6_fixToSix_48 hl (by decide) rfl (fun ls hl => ?_)
      refine lv_aload_n hx hb dX6_fixToSix_50 rfl (lv_at hl 2 rfl) ?_
      refine va_get (D := (dC, dI)) (ci := 5) (v := .ref (a 3)) (C := RX6) (T := TX6) (N := 17) hx hb hu uX6 hown hK hI.1 0 rfl rfl 1 (by decide) (hu _ uww_214) (fun _ h9 => h9) rfl dX6_fixToSix_51 ?_
      refine lv_iload_n hx hb dX6_fixToSix_54 rfl (lv_at hl 4 rfl) ?_
      refine lv_iconst (v := (2 : Int32)) hx hb dX6_fixToSix_55 (by decide) ?_
      refine lv_iload hx hb dX6_fixToSix_56 (lv_at hl 0 rfl) ?_
      refine lv_i2l hx hb dX6_fixToSix_58 rfl ?_
      refine cpcallv_m hsz hI (va_runV (As := [.int p2, .int (2 : Int32), .long (x5.toInt64)]) (rest := []) ⟨hx, hb, hml, hown, hu⟩ (met_X4_put_3 l dC dI a kA t _ M L p2 (2 : Int32) (x5.toInt64) _ h) (cwl_X6_99_X4 hu ⟨by decide, by decide⟩) (cppre (ci := 3) hK hE hsz hI rfl rfl) rfl rfl hl.1 rfl (lv_room (Nat.le_of_ble_eq_true rfl)) dX6_fixToSix_59 ⟨by decide, by decide⟩) (fun M6 H locs h hI => ?_)
      refine lv_iload hx hb dX6_fixToSix_62 (lv_at hl 0 rfl) ?_
      refine lv_i2l hx hb dX6_fixToSix_64 rfl ?_
      refine lv_aload_n hx hb dX6_fixToSix_65 rfl (lv_at hl 3 rfl) ?_
      refine va_get (D := (dC, dI)) (ci := 0) (v := .long (L 11 13)) (C := RX0) (T := TX0) (N := 18) hx hb hu uX0 hown hK hI.1 11 rfl rfl 13 (by decide) (hu _ uww_272) (u_same (hu _ uww_273)) rfl dX6_fixToSix_66 ?_
      refine lv_ladd hx hb dX6_fixToSix_69 ?_
      refine lv_aload_n hx hb dX6_fixToSix_70 rfl (lv_at hl 3 rfl) ?_
      refine va_get (D := (dC, dI)) (ci := 0) (v := .int (M6 11 8)) (C := RX0) (T := TX0) (N := 18) hx hb hu uX0 hown hK hI.1 11 rfl rfl 8 (by decide) (hu _ uww_284) (u_same (hu _ uww_40)) rfl dX6_fixToSix_71 ?_
      refine lv_i2l hx hb dX6_fixToSix_74 rfl ?_
      refine lv_ladd hx hb dX6_fixToSix_75 ?_
      refine lv_ldc2 (own := RX6) (v := (58 : Int64)) hx hb hown (hu _ uww_342) dX6_fixToSix_76 ?_
      refine lv_ladd hx hb dX6_fixToSix_79 ?_
      refine lv_topl (fun x7 ex7 => ?_)
      have h := h x7 ex7
      refine lv_lstore (lv' := [(6, .long x7), (5, .int x5), (4, .int v4), (0, .ref (a 0)), (1, .ref (a 11)), (2, .int p2), (3, .int r3)]) hx hb dX6_fixToSix_80 hl (by decide) rfl (fun ls hl => ?_)
      refine lv_aload_n hx hb dX6_fixToSix_82 rfl (lv_at hl 3 rfl) ?_
      refine va_get (D := (dC, dI)) (ci := 5) (v := .ref (a 3)) (C := RX6) (T := TX6) (N := 17) hx hb hu uX6 hown hK hI.1 0 rfl rfl 1 (by decide) (hu _ uww_214) (fun _ h9 => h9) rfl dX6_fixToSix_83 ?_
      refine lv_iload_n hx hb dX6_fixToSix_86 rfl (lv_at hl 5 rfl) ?_
      refine lv_iconst (v := (2 : Int32)) hx hb dX6_fixToSix_87 (by decide) ?_
      refine lv_iadd hx hb dX6_fixToSix_88 ?_
      refine lv_iconst (v := (2 : Int32)) hx hb dX6_fixToSix_89 (by decide) ?_
      refine lv_aload_n hx hb dX6_fixToSix_90 rfl (lv_at hl 3 rfl) ?_
      refine va_get (D := (dC, dI)) (ci := 5) (v := .ref (a 3)) (C := RX6) (T := TX6) (N := 17) hx hb hu uX6 hown hK hI.1 0 rfl rfl 1 (by decide) (hu _ uww_214) (fun _ h9 => h9) rfl dX6_fixToSix_91 ?_
      refine lv_iload_n hx hb dX6_fixToSix_94 rfl (lv_at hl 5 rfl) ?_
      refine lv_iconst (v := (2 : Int32)) hx hb dX6_fixToSix_95 (by decide) ?_
      refine lv_iadd hx hb dX6_fixToSix_96 ?_
      refine cpcalli_p hsz hI (va_runV (As := [.int (p2 + (2 : Int32))]) (rest := [.int (2 : Int32), .int (p2 + (2 : Int32)), .ref (a 3)]) ⟨hx, hb, hml, hown, hu⟩ (met_X4_word_3 l dC dI a kA t _ M6 L (p2 + (2 : Int32)) _ h) (cwl_X6_272_X4 hu ⟨by decide, by decide⟩) (cppre (ci := 3) hK hE hsz hI rfl rfl) rfl rfl hl.1 rfl (lv_room (Nat.le_of_ble_eq_true rfl)) dX6_fixToSix_97 ⟨by decide, by decide⟩) (fun r8 H locs h hI => ?_)
      refine lv_iload_n hx hb dX6_fixToSix_100 rfl (lv_at hl 6 rfl) ?_
      refine lv_i2l hx hb dX6_fixToSix_101 rfl ?_
      refine lv_iconst (v := (1 : Int32)) hx hb dX6_fixToSix_102 (by decide) ?_
      refine lv_lload hx hb dX6_fixToSix_103 (lv_at hl 0 rfl) ?_
      refine cpcalli_p hsz hI (va_runS (As := [.int r8, .long (r3.toInt64), .int (1 : Int32), .long x7]) (rest := [.int (2 : Int32), .int (p2 + (2 : Int32)), .ref (a 3)]) ⟨hx, hb, hml, hown, hu⟩ (met_X6_adjusted l dC dI a kA t _ M6 L r8 (r3.toInt64) (1 : Int32) x7 _ h) (cwl_X6_291_S hu ⟨by decide, by decide⟩) (cppreS hK hE hsz hI) rfl rfl hl.1 rfl (lv_room (Nat.le_of_ble_eq_true rfl)) dX6_fixToSix_105 ⟨by decide, by decide⟩) (fun r9 H locs h hI => ?_)
      refine lv_i2l hx hb dX6_fixToSix_108 rfl ?_
      refine cpcallv_m hsz hI (va_runV (As := [.int (p2 + (2 : Int32)), .int (2 : Int32), .long (r9.toInt64)]) (rest := []) ⟨hx, hb, hml, hown, hu⟩ (met_X4_put_3 l dC dI a kA t _ M6 L (p2 + (2 : Int32)) (2 : Int32) (r9.toInt64) _ h) (cwl_X6_99_X4 hu ⟨by decide, by decide⟩) (cppre (ci := 3) hK hE hsz hI rfl rfl) rfl rfl hl.1 rfl (lv_room (Nat.le_of_ble_eq_true rfl)) dX6_fixToSix_109 ⟨by decide, by decide⟩) (fun M10 H locs h hI => ?_)
      refine lv_goto (tgt := 130) hx hb dX6_fixToSix_112 (by decide) ?_
      exact cpvret (Z := (fun M' L' => L' = L ∧ Z M')) hx hb hr hlocks hK hI dX6_fixToSix_130 ⟨rfl, h⟩
    refine lv_icmp_ne (tgt := 32) hx hb dX6_fixToSix_23 (by decide) (fun c11 => ?_) (fun c11 => ?_)
    · have h := h.1 c11
      refine lv_sipush (v := (129 : Int32)) hx hb dX6_fixToSix_32 (by decide) ?_
      exact J35 (129 : Int32) _ _ _ h hI (lv_sub hl [1, 2, 3, 0] rfl)
    · have h := h.2 c11
      refine lv_sipush (v := (128 : Int32)) hx hb dX6_fixToSix_26 (by decide) ?_
      refine lv_goto (tgt := 35) hx hb dX6_fixToSix_29 (by decide) ?_
      exact J35 (128 : Int32) _ _ _ h hI (lv_sub hl [1, 2, 3, 0] rfl)

abbrev rm_X4_at_3 : Room := { frames := 0, cells := 0, slots := 0, locals := 0 }
abbrev av_X4_at_3 (a t : Nat → Nat) (p1 : Int32) : List Value := [.ref (a 3), .int p1]
abbrev qc_X4_at_3 (dC : Nat → ClassId) (dI : Nat → Nat → Nat) (a : Nat → Nat) (kA : Nat → ClassId) (sz : Nat) (M : cM) (L : cL) (Z : Int32 → Prop) : Array Value → State → Outcome → State → Prop := va_Qi (fun r (u : cM × cL) => u.1 = M ∧ u.2 = L ∧ Z r) (cpAt dC dI a kA (cpA a sz)) (cpA a sz)
set_option maxHeartbeats 4000000 in
set_option maxRecDepth 100000 in
theorem met_X4_at_3 (l : Launch) (dC : Nat → ClassId) (dI : Nat → Nat → Nat) (a : Nat → Nat) (kA : Nat → ClassId) (t : Nat → Nat) (sz : Nat) (M : cM) (L : cL) (p1 : Int32) (Z : Int32 → Prop) (h : wp_X4_at_3 M L p1 Z) : Met l yX4_at (Cond.code yX4_at cX4_at 2 (some .int) :: uW) rm_X4_at_3 (va_Pc (av_X4_at_3 a t p1) (cpPre dC dI a kA t M L sz)) (qc_X4_at_3 dC dI a kA sz M L Z) 0 0 (cpA a sz) := by
  refine cpenter (cc := cX4_at) (n := 2) (ret := (some .int)) (by decide) rfl (Nat.le_of_ble_eq_true rfl) ?_
  intro p e s m below meth c ls hx hb hml hr hlocks hown hts hK hE hsz hI hl hmn
  have hu : ∀ w ∈ uW, w.before (av_X4_at_3 a t p1).toArray s = true := fun w h => hts w (List.mem_cons_of_mem _ h)
  have hown : s.vm.findClass RX4 = some m.cls := hown
  have hl : lv_has ls 2 [(0, .ref (a 3)), (1, .int p1)] := hl
  unfold wp_X4_at_3 at h
  refine lv_iload_n hx hb dX4_at_0 rfl (lv_at hl 1 rfl) ?_
  refine lv_if_lt (tgt := 26) hx hb dX4_at_1 (by decide) (fun c1 => ?_) (fun c1 => ?_)
  · have h := h.1 c1
    refine lv_iconst (v := (0 : Int32)) hx hb dX4_at_26 (by decide) ?_
    exact cpiret (Z := (fun r M' L' => M' = M ∧ L' = L ∧ Z r)) hx hb hr hlocks hK hI dX4_at_27 ⟨rfl, rfl, h⟩
  · have h := h.2 c1
    refine lv_iload_n hx hb dX4_at_4 rfl (lv_at hl 1 rfl) ?_
    refine lv_aload_n hx hb dX4_at_5 rfl (lv_at hl 0 rfl) ?_
    refine va_get (D := (dC, dI)) (ci := 3) (v := .ref (a 4)) (C := RX4) (T := TX4) (N := 2) hx hb hu uX4 hown hK hI.1 3 rfl rfl 0 (by decide) (hu _ uww_52) (fun _ h9 => h9) rfl dX4_at_6 ?_
    refine va_alen (v := (2408 : Int32)) hx hb hK hI.1 4 1 rfl rfl rfl dX4_at_9 ?_
    refine lv_icmp_ge (tgt := 26) hx hb dX4_at_10 (by decide) (fun c2 => ?_) (fun c2 => ?_)
    · have h := h.1 c2
      refine lv_iconst (v := (0 : Int32)) hx hb dX4_at_26 (by decide) ?_
      exact cpiret (Z := (fun r M' L' => M' = M ∧ L' = L ∧ Z r)) hx hb hr hlocks hK hI dX4_at_27 ⟨rfl, rfl, h⟩
    · have h := h.2 c2
      refine lv_aload_n hx hb dX4_at_13 rfl (lv_at hl 0 rfl) ?_
      refine va_get (D := (dC, dI)) (ci := 3) (v := .ref (a 4)) (C := RX4) (T := TX4) (N := 2) hx hb hu uX4 hown hK hI.1 3 rfl rfl 0 (by decide) (hu _ uww_52) (fun _ h9 => h9) rfl dX4_at_14 ?_
      refine lv_iload_n hx hb dX4_at_17 rfl (lv_at hl 1 rfl) ?_
      refine va_bald hx hb hK hI.1 4 1 rfl rfl h.1 dX4_at_18 ?_
      have h := h.2
      refine lv_sipush (v := (255 : Int32)) hx hb dX4_at_19 (by decide) ?_
      refine lv_iand hx hb dX4_at_22 ?_
      refine lv_goto (tgt := 27) hx hb dX4_at_23 (by decide) ?_
      exact cpiret (Z := (fun r M' L' => M' = M ∧ L' = L ∧ Z r)) hx hb hr hlocks hK hI dX4_at_27 ⟨rfl, rfl, h⟩

abbrev rm_X4_sum_3 : Room := { frames := 1, cells := 0, slots := 0, locals := 21 }
abbrev av_X4_sum_3 (a t : Nat → Nat) (p1 : Int32) (p2 : Int32) : List Value := [.ref (a 3), .int p1, .int p2]
abbrev qc_X4_sum_3 (dC : Nat → ClassId) (dI : Nat → Nat → Nat) (a : Nat → Nat) (kA : Nat → ClassId) (sz : Nat) (M : cM) (L : cL) (Z : Int64 → Prop) : Array Value → State → Outcome → State → Prop := va_Ql (fun r (u : cM × cL) => u.1 = M ∧ u.2 = L ∧ Z r) (cpAt dC dI a kA (cpA a sz)) (cpA a sz)
set_option maxHeartbeats 4000000 in
set_option maxRecDepth 100000 in
theorem met_X4_sum_3 (l : Launch) (dC : Nat → ClassId) (dI : Nat → Nat → Nat) (a : Nat → Nat) (kA : Nat → ClassId) (t : Nat → Nat) (sz : Nat) (M : cM) (L : cL) (p1 : Int32) (p2 : Int32) (Z : Int64 → Prop) (h : wp_X4_sum_3 M L p1 p2 Z) : Met l yX4_sum (Cond.code yX4_sum cX4_sum 7 (some .long) :: uW) rm_X4_sum_3 (va_Pc (av_X4_sum_3 a t p1 p2) (cpPre dC dI a kA t M L sz)) (qc_X4_sum_3 dC dI a kA sz M L Z) 0 0 (cpA a sz) := by
  refine cpenter (cc := cX4_sum) (n := 7) (ret := (some .long)) (by decide) rfl (Nat.le_of_ble_eq_true rfl) ?_
  intro p e s m below meth c ls hx hb hml hr hlocks hown hts hK hE hsz hI hl hmn
  have hu : ∀ w ∈ uW, w.before (av_X4_sum_3 a t p1 p2).toArray s = true := fun w h => hts w (List.mem_cons_of_mem _ h)
  have hown : s.vm.findClass RX4 = some m.cls := hown
  have hl : lv_has ls 7 [(0, .ref (a 3)), (1, .int p1), (2, .int p2)] := hl
  unfold wp_X4_sum_3 at h
  refine lv_lconst (v := (0 : Int64)) hx hb dX4_sum_0 (by decide) ?_
  refine lv_lstore_n (lv' := [(3, .long (0 : Int64)), (0, .ref (a 3)), (1, .int p1), (2, .int p2)]) hx hb dX4_sum_1 rfl hl (by decide) rfl (fun ls hl => ?_)
  refine lv_iload_n hx hb dX4_sum_2 rfl (lv_at hl 2 rfl) ?_
  refine lv_istore (lv' := [(5, .int p1), (3, .long (0 : Int64)), (0, .ref (a 3)), (1, .int p1), (2, .int p2)]) hx hb dX4_sum_3 hl (by decide) rfl (fun ls hl => ?_)
  obtain ⟨I5, m5, h, hs5⟩ := h
  have P5 : ∀ (n5 : Nat) (x1 : Int64) (x2 : Int32) (H : Heap) (locs : List Loc) (ls : Array Slot), I5 x1 x2 → m5 x1 x2 < n5 → cpI dC dI a kA (cpA a sz) s M L H locs → lv_has ls 7 [(0, .ref (a 3)), (1, .int p1), (2, .int p2), (3, .long x1), (5, .int x2)] → W p l e rm_X4_sum_3 s m (av_X4_sum_3 a t p1 p2).toArray below meth c H locs 0 0 (MQ below (qc_X4_sum_3 dC dI a kA sz M L Z) (av_X4_sum_3 a t p1 p2).toArray s 0 0 (cpA a sz)) (F0 m 5 ls []) := by
    intro n5
    induction n5 with
    | zero => intro x1 x2 H locs ls _ hn; exact absurd hn (Nat.not_lt_zero _)
    | succ n5 ih5 =>
      intro x1 x2 H locs ls h hn5 hI hl
      have h := hs5 x1 x2 h
      refine lv_iload hx hb dX4_sum_5 (lv_at hl 4 rfl) ?_
      refine lv_iload_n hx hb dX4_sum_7 rfl (lv_at hl 2 rfl) ?_
      refine lv_icmp_ge (tgt := 49) hx hb dX4_sum_8 (by decide) (fun c3 => ?_) (fun c3 => ?_)
      · have h := h.1 c3
        refine lv_lload_n hx hb dX4_sum_49 rfl (lv_at hl 3 rfl) ?_
        exact cplret (Z := (fun r M' L' => M' = M ∧ L' = L ∧ Z r)) hx hb hr hlocks hK hI dX4_sum_50 ⟨rfl, rfl, h⟩
      · have h := h.2 c3
        refine lv_aload_n hx hb dX4_sum_11 rfl (lv_at hl 0 rfl) ?_
        refine lv_iload hx hb dX4_sum_12 (lv_at hl 4 rfl) ?_
        refine cpcalli_p hsz hI (va_runV (As := [.int x2]) (rest := []) ⟨hx, hb, hml, hown, hu⟩ (met_X4_at_3 l dC dI a kA t _ M L x2 _ h) (cwl_X4_13_X4 hu ⟨by decide, by decide⟩) (cppre (ci := 3) hK hE hsz hI rfl rfl) rfl rfl hl.1 rfl (lv_room (Nat.le_of_ble_eq_true rfl)) dX4_sum_14 ⟨by decide, by decide⟩) (fun r4 H locs h hI => ?_)
        refine lv_istore (lv' := [(6, .int r4), (0, .ref (a 3)), (1, .int p1), (2, .int p2), (3, .long x1), (5, .int x2)]) hx hb dX4_sum_17 hl (by decide) rfl (fun ls hl => ?_)
        refine lv_lload_n hx hb dX4_sum_19 rfl (lv_at hl 4 rfl) ?_
        refine lv_iload hx hb dX4_sum_20 (lv_at hl 5 rfl) ?_
        refine lv_iload_n hx hb dX4_sum_22 rfl (lv_at hl 2 rfl) ?_
        refine lv_isub hx hb dX4_sum_23 ?_
        refine lv_iconst (v := (1 : Int32)) hx hb dX4_sum_24 (by decide) ?_
        refine lv_iand hx hb dX4_sum_25 ?_
        obtain ⟨K41, hK41, h⟩ := h
        have J41 : ∀ (v5 : Int64) (H : Heap) (locs : List Loc) (ls : Array Slot), K41 v5 → cpI dC dI a kA (cpA a sz) s M L H locs → lv_has ls 7 [(0, .ref (a 3)), (1, .int p1), (2, .int p2), (5, .int x2)] → W p l e rm_X4_sum_3 s m (av_X4_sum_3 a t p1 p2).toArray below meth c H locs 0 0 (MQ below (qc_X4_sum_3 dC dI a kA sz M L Z) (av_X4_sum_3 a t p1 p2).toArray s 0 0 (cpA a sz)) (F0 m 41 ls [.long v5, .long x1]) := by
          intro v5 H locs ls h hI hl
          have h := hK41 v5 h
          refine lv_ladd hx hb dX4_sum_41 ?_
          refine lv_topl (fun x6 ex6 => ?_)
          have h := h x6 ex6
          refine lv_lstore_n (lv' := [(3, .long x6), (0, .ref (a 3)), (1, .int p1), (2, .int p2), (5, .int x2)]) hx hb dX4_sum_42 rfl hl (by decide) rfl (fun ls hl => ?_)
          obtain ⟨x7, ex7⟩ : ∃ y : Int32, y = (x2 + (1 : Int32)) := ⟨_, rfl⟩
          have h := h x7 ex7
          refine lv_iinc (v := x7) (lv' := [(5, .int x7), (3, .long x6), (0, .ref (a 3)), (1, .int p1), (2, .int p2)]) hx hb dX4_sum_43 hl (k := 4) rfl (by rw [ex7]; rfl) (by decide) rfl (fun ls hl => ?_)
          refine lv_goto (tgt := 5) hx hb dX4_sum_46 (by decide) ?_
          exact ih5 x6 x7 _ _ _ h.1 (Nat.lt_of_lt_of_le h.2 (Nat.le_of_lt_succ hn5)) hI (lv_sub hl [2, 3, 4, 1, 0] rfl)
        refine lv_if_ne (tgt := 38) hx hb dX4_sum_26 (by decide) (fun c8 => ?_) (fun c8 => ?_)
        · have h := h.1 c8
          refine lv_iload hx hb dX4_sum_38 (lv_at hl 0 rfl) ?_
          refine lv_i2l hx hb dX4_sum_40 rfl ?_
          exact J41 (r4.toInt64) _ _ _ h hI (lv_sub hl [1, 2, 3, 5] rfl)
        · have h := h.2 c8
          refine lv_iload hx hb dX4_sum_29 (lv_at hl 0 rfl) ?_
          refine lv_bipush (v := (8 : Int32)) hx hb dX4_sum_31 (by decide) ?_
          refine lv_ishl hx hb dX4_sum_33 ?_
          refine lv_i2l hx hb dX4_sum_34 rfl ?_
          refine lv_goto (tgt := 41) hx hb dX4_sum_35 (by decide) ?_
          exact J41 ((r4 <<< ((8 : Int32) &&& 31)).toInt64) _ _ _ h hI (lv_sub hl [1, 2, 3, 5] rfl)
  exact P5 (m5 (0 : Int64) p1 + 1) (0 : Int64) p1 _ _ _ h (Nat.lt_succ_self _) hI (lv_sub hl [2, 3, 4, 1, 0] rfl)

abbrev rm_X6_bodyFromFour_0_11 : Room := { frames := 4, cells := 0, slots := 0, locals := 107 }
abbrev av_X6_bodyFromFour_0_11 (a t : Nat → Nat)  : List Value := [.ref (a 0), .ref (a 11)]
abbrev qc_X6_bodyFromFour_0_11 (dC : Nat → ClassId) (dI : Nat → Nat → Nat) (a : Nat → Nat) (kA : Nat → ClassId) (sz : Nat) (M : cM) (L : cL) (Z : cM → Prop) : Array Value → State → Outcome → State → Prop := va_Qv (fun (u : cM × cL) => u.2 = L ∧ Z u.1) (cpAt dC dI a kA (cpA a sz)) (cpA a sz)
set_option maxHeartbeats 4000000 in
set_option maxRecDepth 100000 in
theorem met_X6_bodyFromFour_0_11 (l : Launch) (dC : Nat → ClassId) (dI : Nat → Nat → Nat) (a : Nat → Nat) (kA : Nat → ClassId) (t : Nat → Nat) (sz : Nat) (M : cM) (L : cL)  (Z : cM → Prop) (h : wp_X6_bodyFromFour_0_11 M L  Z) : Met l yX6_bodyFromFour (Cond.code yX6_bodyFromFour cX6_bodyFromFour 3 none :: uW) rm_X6_bodyFromFour_0_11 (va_Pc (av_X6_bodyFromFour_0_11 a t ) (cpPre dC dI a kA t M L sz)) (qc_X6_bodyFromFour_0_11 dC dI a kA sz M L Z) 0 0 (cpA a sz) := by
  refine cpenter (cc := cX6_bodyFromFour) (n := 3) (ret := none) (by decide) rfl (Nat.le_of_ble_eq_true rfl) ?_
  intro p e s m below meth c ls hx hb hml hr hlocks hown hts hK hE hsz hI hl hmn
  have hu : ∀ w ∈ uW, w.before (av_X6_bodyFromFour_0_11 a t ).toArray s = true := fun w h => hts w (List.mem_cons_of_mem _ h)
  have hown : s.vm.findClass RX6 = some m.cls := hown
  have hl : lv_has ls 3 [(0, .ref (a 0)), (1, .ref (a 11))] := hl
  unfold wp_X6_bodyFromFour_0_11 at h
  refine lv_aload_n hx hb dX6_bodyFromFour_0 rfl (lv_at hl 0 rfl) ?_
  refine va_get (D := (dC, dI)) (ci := 5) (v := .ref (a 3)) (C := RX6) (T := TX6) (N := 17) hx hb hu uX6 hown hK hI.1 0 rfl rfl 1 (by decide) (hu _ uww_214) (fun _ h9 => h9) rfl dX6_bodyFromFour_1 ?_
  refine lv_aload_n hx hb dX6_bodyFromFour_4 rfl (lv_at hl 0 rfl) ?_
  refine va_get (D := (dC, dI)) (ci := 5) (v := .ref (a 1)) (C := RX6) (T := TX6) (N := 17) hx hb hu uX6 hown hK hI.1 0 rfl rfl 0 (by decide) (hu _ uww_213) (fun _ h9 => h9) rfl dX6_bodyFromFour_5 ?_
  refine lv_aload_n hx hb dX6_bodyFromFour_8 rfl (lv_at hl 1 rfl) ?_
  refine va_get (D := (dC, dI)) (ci := 0) (v := .int (M 11 7)) (C := RX0) (T := TX0) (N := 18) hx hb hu uX0 hown hK hI.1 11 rfl rfl 7 (by decide) (hu _ uww_275) (u_same (hu _ uww_38)) rfl dX6_bodyFromFour_9 ?_
  refine lv_iconst (v := (0 : Int32)) hx hb dX6_bodyFromFour_12 (by decide) ?_
  refine lv_aload_n hx hb dX6_bodyFromFour_13 rfl (lv_at hl 1 rfl) ?_
  refine va_get (D := (dC, dI)) (ci := 0) (v := .int (M 11 8)) (C := RX0) (T := TX0) (N := 18) hx hb hu uX0 hown hK hI.1 11 rfl rfl 8 (by decide) (hu _ uww_284) (u_same (hu _ uww_40)) rfl dX6_bodyFromFour_14 ?_
  refine cpcallv_m hsz hI (va_runV (As := [.ref (a 1), .int (M 11 7), .int (0 : Int32), .int (M 11 8)]) (rest := []) ⟨hx, hb, hml, hown, hu⟩ (met_X4_copy_3_1 l dC dI a kA t _ M L (M 11 7) (0 : Int32) (M 11 8) _ h) (cwl_X6_276_X4 hu ⟨by decide, by decide⟩) (cppre (ci := 3) hK hE hsz hI rfl rfl) rfl rfl hl.1 rfl (lv_room (Nat.le_of_ble_eq_true rfl)) dX6_bodyFromFour_17 ⟨by decide, by decide⟩) (fun M1 H locs h hI => ?_)
  refine lv_aload_n hx hb dX6_bodyFromFour_20 rfl (lv_at hl 0 rfl) ?_
  refine va_get (D := (dC, dI)) (ci := 5) (v := .ref (a 3)) (C := RX6) (T := TX6) (N := 17) hx hb hu uX6 hown hK hI.1 0 rfl rfl 1 (by decide) (hu _ uww_214) (fun _ h9 => h9) rfl dX6_bodyFromFour_21 ?_
  refine lv_aload_n hx hb dX6_bodyFromFour_24 rfl (lv_at hl 1 rfl) ?_
  refine va_get (D := (dC, dI)) (ci := 0) (v := .int (M1 11 8)) (C := RX0) (T := TX0) (N := 18) hx hb hu uX0 hown hK hI.1 11 rfl rfl 8 (by decide) (hu _ uww_284) (u_same (hu _ uww_40)) rfl dX6_bodyFromFour_25 ?_
  refine cpputN (ci := 3) (C := RX4) (T := TX4) (N := 2) (ty := .int) hx hb hu uX4 tyX4 tyX4_ok nmX4 hown hK hI 3 rfl rfl 1 (by decide) (va_Nw.use rfl (hE.1 _ cpn_1)) (fun _ h9 => h9) rfl (by decide +kernel) rfl rfl (Nat.le_of_ble_eq_true rfl) (cpset_3_1 _ _ _ _ _) dX6_bodyFromFour_28 (fun H locs M2 eM2 hI => ?_)
  have h := h M2 eM2
  refine lv_aload_n hx hb dX6_bodyFromFour_31 rfl (lv_at hl 0 rfl) ?_
  refine lv_aload_n hx hb dX6_bodyFromFour_32 rfl (lv_at hl 1 rfl) ?_
  refine lv_iconst (v := (0 : Int32)) hx hb dX6_bodyFromFour_33 (by decide) ?_
  refine cpcallv_m hsz hI (va_runV (As := [.ref (a 11), .int (0 : Int32)]) (rest := []) ⟨hx, hb, hml, hown, hu⟩ (met_X6_fixToSix_0_11 l dC dI a kA t _ M2 L (0 : Int32) _ h) (cwl_X6_280_X6 hu ⟨by decide, by decide⟩) (cppre (ci := 5) hK hE hsz hI rfl rfl) rfl rfl hl.1 rfl (lv_room (Nat.le_of_ble_eq_true rfl)) dX6_bodyFromFour_34 ⟨by decide, by decide⟩) (fun M3 H locs h hI => ?_)
  refine lv_aload_n hx hb dX6_bodyFromFour_37 rfl (lv_at hl 1 rfl) ?_
  refine va_get (D := (dC, dI)) (ci := 0) (v := .int (M3 11 3)) (C := RX0) (T := TX0) (N := 18) hx hb hu uX0 hown hK hI.1 11 rfl rfl 3 (by decide) (hu _ uww_274) (u_same (hu _ uww_30)) rfl dX6_bodyFromFour_38 ?_
  refine lv_bipush (v := (17 : Int32)) hx hb dX6_bodyFromFour_41 (by decide) ?_
  refine lv_icmp_ne (tgt := 121) hx hb dX6_bodyFromFour_43 (by decide) (fun c4 => ?_) (fun c4 => ?_)
  · have h := h.1 c4
    exact cpvret (Z := (fun M' L' => L' = L ∧ Z M')) hx hb hr hlocks hK hI dX6_bodyFromFour_121 ⟨rfl, h⟩
  · have h := h.2 c4
    refine lv_aload_n hx hb dX6_bodyFromFour_46 rfl (lv_at hl 1 rfl) ?_
    refine va_get (D := (dC, dI)) (ci := 0) (v := .int (M3 11 6)) (C := RX0) (T := TX0) (N := 18) hx hb hu uX0 hown hK hI.1 11 rfl rfl 6 (by decide) (hu _ uww_285) (u_same (hu _ uww_26)) rfl dX6_bodyFromFour_47 ?_
    refine lv_if_ne (tgt := 121) hx hb dX6_bodyFromFour_50 (by decide) (fun c5 => ?_) (fun c5 => ?_)
    · have h := h.1 c5
      exact cpvret (Z := (fun M' L' => L' = L ∧ Z M')) hx hb hr hlocks hK hI dX6_bodyFromFour_121 ⟨rfl, h⟩
    · have h := h.2 c5
      refine lv_aload_n hx hb dX6_bodyFromFour_53 rfl (lv_at hl 0 rfl) ?_
      refine va_get (D := (dC, dI)) (ci := 5) (v := .ref (a 3)) (C := RX6) (T := TX6) (N := 17) hx hb hu uX6 hown hK hI.1 0 rfl rfl 1 (by decide) (hu _ uww_214) (fun _ h9 => h9) rfl dX6_bodyFromFour_54 ?_
      refine lv_bipush (v := (6 : Int32)) hx hb dX6_bodyFromFour_57 (by decide) ?_
      refine cpcalli_p hsz hI (va_runV (As := [.int (6 : Int32)]) (rest := []) ⟨hx, hb, hml, hown, hu⟩ (met_X4_word_3 l dC dI a kA t _ M3 L (6 : Int32) _ h) (cwl_X6_272_X4 hu ⟨by decide, by decide⟩) (cppre (ci := 3) hK hE hsz hI rfl rfl) rfl rfl hl.1 rfl (lv_room (Nat.le_of_ble_eq_true rfl)) dX6_bodyFromFour_59 ⟨by decide, by decide⟩) (fun r6 H locs h hI => ?_)
      refine lv_if_ne (tgt := 121) hx hb dX6_bodyFromFour_62 (by decide) (fun c7 => ?_) (fun c7 => ?_)
      · have h := h.1 c7
        exact cpvret (Z := (fun M' L' => L' = L ∧ Z M')) hx hb hr hlocks hK hI dX6_bodyFromFour_121 ⟨rfl, h⟩
      · have h := h.2 c7
        refine lv_aload_n hx hb dX6_bodyFromFour_65 rfl (lv_at hl 1 rfl) ?_
        refine va_get (D := (dC, dI)) (ci := 0) (v := .long (L 11 13)) (C := RX0) (T := TX0) (N := 18) hx hb hu uX0 hown hK hI.1 11 rfl rfl 13 (by decide) (hu _ uww_272) (u_same (hu _ uww_273)) rfl dX6_bodyFromFour_66 ?_
        refine lv_aload_n hx hb dX6_bodyFromFour_69 rfl (lv_at hl 1 rfl) ?_
        refine va_get (D := (dC, dI)) (ci := 0) (v := .int (M3 11 8)) (C := RX0) (T := TX0) (N := 18) hx hb hu uX0 hown hK hI.1 11 rfl rfl 8 (by decide) (hu _ uww_284) (u_same (hu _ uww_40)) rfl dX6_bodyFromFour_70 ?_
        refine lv_i2l hx hb dX6_bodyFromFour_73 rfl ?_
        refine lv_ladd hx hb dX6_bodyFromFour_74 ?_
        refine lv_ldc2 (own := RX6) (v := (17 : Int64)) hx hb hown (hu _ uww_409) dX6_bodyFromFour_75 ?_
        refine lv_ladd hx hb dX6_bodyFromFour_78 ?_
        refine lv_aload_n hx hb dX6_bodyFromFour_79 rfl (lv_at hl 0 rfl) ?_
        refine va_get (D := (dC, dI)) (ci := 5) (v := .ref (a 3)) (C := RX6) (T := TX6) (N := 17) hx hb hu uX6 hown hK hI.1 0 rfl rfl 1 (by decide) (hu _ uww_214) (fun _ h9 => h9) rfl dX6_bodyFromFour_80 ?_
        refine lv_iconst (v := (0 : Int32)) hx hb dX6_bodyFromFour_83 (by decide) ?_
        refine lv_aload_n hx hb dX6_bodyFromFour_84 rfl (lv_at hl 0 rfl) ?_
        refine va_get (D := (dC, dI)) (ci := 5) (v := .ref (a 3)) (C := RX6) (T := TX6) (N := 17) hx hb hu uX6 hown hK hI.1 0 rfl rfl 1 (by decide) (hu _ uww_214) (fun _ h9 => h9) rfl dX6_bodyFromFour_85 ?_
        refine va_getN (D := (dC, dI)) (ci := 3) (v := .int (M3 3 1)) (C := RX4) (T := TX4) (N := 2) hx hb hu uX4 hown hK hI.1 3 rfl rfl 1 (by decide) (va_Nw.use rfl (hE.1 _ cpn_1)) (fun _ h9 => h9) rfl dX6_bodyFromFour_88 ?_
        refine cpcalll_p hsz hI (va_runV (As := [.int (0 : Int32), .int (M3 3 1)]) (rest := [.long (((L 11 13) + ((M3 11 8).toInt64)) + (17 : Int64))]) ⟨hx, hb, hml, hown, hu⟩ (met_X4_sum_3 l dC dI a kA t _ M3 L (0 : Int32) (M3 3 1) _ h) (cwl_X6_163_X4 hu ⟨by decide, by decide⟩) (cppre (ci := 3) hK hE hsz hI rfl rfl) rfl rfl hl.1 rfl (lv_room (Nat.le_of_ble_eq_true rfl)) dX6_bodyFromFour_91 ⟨by decide, by decide⟩) (fun r8 H locs h hI => ?_)
        refine lv_ladd hx hb dX6_bodyFromFour_94 ?_
        refine cpcalli_p hsz hI (va_runS (As := [.long ((((L 11 13) + ((M3 11 8).toInt64)) + (17 : Int64)) + r8)]) (rest := []) ⟨hx, hb, hml, hown, hu⟩ (met_X6_checksum l dC dI a kA t _ M3 L ((((L 11 13) + ((M3 11 8).toInt64)) + (17 : Int64)) + r8) _ h) (cwl_X6_167_S hu ⟨by decide, by decide⟩) (cppreS hK hE hsz hI) rfl rfl hl.1 rfl (lv_room (Nat.le_of_ble_eq_true rfl)) dX6_bodyFromFour_95 ⟨by decide, by decide⟩) (fun r9 H locs h hI => ?_)
        refine lv_istore_n (lv' := [(2, .int r9), (0, .ref (a 0)), (1, .ref (a 11))]) hx hb dX6_bodyFromFour_98 rfl hl (by decide) rfl (fun ls hl => ?_)
        refine lv_aload_n hx hb dX6_bodyFromFour_99 rfl (lv_at hl 1 rfl) ?_
        refine va_get (D := (dC, dI)) (ci := 5) (v := .ref (a 3)) (C := RX6) (T := TX6) (N := 17) hx hb hu uX6 hown hK hI.1 0 rfl rfl 1 (by decide) (hu _ uww_214) (fun _ h9 => h9) rfl dX6_bodyFromFour_100 ?_
        refine lv_bipush (v := (6 : Int32)) hx hb dX6_bodyFromFour_103 (by decide) ?_
        refine lv_iconst (v := (2 : Int32)) hx hb dX6_bodyFromFour_105 (by decide) ?_
        refine lv_iload_n hx hb dX6_bodyFromFour_106 rfl (lv_at hl 0 rfl) ?_
        obtain ⟨K118, hK118, h⟩ := h
        have J118 : ∀ (v10 : Int64) (H : Heap) (locs : List Loc) (ls : Array Slot), K118 v10 → cpI dC dI a kA (cpA a sz) s M3 L H locs → lv_has ls 3 [] → W p l e rm_X6_bodyFromFour_0_11 s m (av_X6_bodyFromFour_0_11 a t ).toArray below meth c H locs 0 0 (MQ below (qc_X6_bodyFromFour_0_11 dC dI a kA sz M L Z) (av_X6_bodyFromFour_0_11 a t ).toArray s 0 0 (cpA a sz)) (F0 m 118 ls [.long v10, .int (2 : Int32), .int (6 : Int32), .ref (a 3)]) := by
          intro v10 H locs ls h hI hl
          have h := hK118 v10 h
          refine cpcallv_m hsz hI (va_runV (As := [.int (6 : Int32), .int (2 : Int32), .long v10]) (rest := []) ⟨hx, hb, hml, hown, hu⟩ (met_X4_put_3 l dC dI a kA t _ M3 L (6 : Int32) (2 : Int32) v10 _ h) (cwl_X6_99_X4 hu ⟨by decide, by decide⟩) (cppre (ci := 3) hK hE hsz hI rfl rfl) rfl rfl hl.1 rfl (lv_room (Nat.le_of_ble_eq_true rfl)) dX6_bodyFromFour_118 ⟨by decide, by decide⟩) (fun M11 H locs h hI => ?_)
          exact cpvret (Z := (fun M' L' => L' = L ∧ Z M')) hx hb hr hlocks hK hI dX6_bodyFromFour_121 ⟨rfl, h⟩
        refine lv_if_ne (tgt := 116) hx hb dX6_bodyFromFour_107 (by decide) (fun c12 => ?_) (fun c12 => ?_)
        · have h := h.1 c12
          refine lv_iload_n hx hb dX6_bodyFromFour_116 rfl (lv_at hl 0 rfl) ?_
          refine lv_i2l hx hb dX6_bodyFromFour_117 rfl ?_
          exact J118 (r9.toInt64) _ _ _ h hI (lv_sub hl [] rfl)
        · have h := h.2 c12
          refine lv_ldc2 (own := RX6) (v := (65535 : Int64)) hx hb hown (hu _ uww_69) dX6_bodyFromFour_110 ?_
          refine lv_goto (tgt := 118) hx hb dX6_bodyFromFour_113 (by decide) ?_
          exact J118 (65535 : Int64) _ _ _ h hI (lv_sub hl [] rfl)

abbrev rm_X6_entry_t0 : Room := { frames := 0, cells := 0, slots := 0, locals := 0 }
abbrev av_X6_entry_t0 (a t : Nat → Nat) (p1 : Int64) : List Value := [.ref (t 0), .long p1]
abbrev qc_X6_entry_t0 (dC : Nat → ClassId) (dI : Nat → Nat → Nat) (a : Nat → Nat) (kA : Nat → ClassId) (sz : Nat) (M : cM) (L : cL) (Z : Int32 → Prop) : Array Value → State → Outcome → State → Prop := va_Qi (fun r (u : cM × cL) => u.1 = M ∧ u.2 = L ∧ Z r) (cpAt dC dI a kA (cpA a sz)) (cpA a sz)
set_option maxHeartbeats 4000000 in
set_option maxRecDepth 100000 in
theorem met_X6_entry_t0 (l : Launch) (dC : Nat → ClassId) (dI : Nat → Nat → Nat) (a : Nat → Nat) (kA : Nat → ClassId) (t : Nat → Nat) (sz : Nat) (M : cM) (L : cL) (p1 : Int64) (Z : Int32 → Prop) (h : wp_X6_entry_t0 M L p1 Z) : Met l yX6_entry (Cond.code yX6_entry cX6_entry 3 (some .int) :: uW) rm_X6_entry_t0 (va_Pc (av_X6_entry_t0 a t p1) (cpPre dC dI a kA t M L sz)) (qc_X6_entry_t0 dC dI a kA sz M L Z) 0 0 (cpA a sz) := by
  refine cpenter (cc := cX6_entry) (n := 3) (ret := (some .int)) (by decide) rfl (Nat.le_of_ble_eq_true rfl) ?_
  intro p e s m below meth c ls hx hb hml hr hlocks hown hts hK hE hsz hI hl hmn
  have hu : ∀ w ∈ uW, w.before (av_X6_entry_t0 a t p1).toArray s = true := fun w h => hts w (List.mem_cons_of_mem _ h)
  have hown : s.vm.findClass RX6 = some m.cls := hown
  have hl : lv_has ls 3 [(0, .ref (t 0)), (1, .long p1)] := hl
  unfold wp_X6_entry_t0 at h
  refine lv_lload_n hx hb dX6_entry_0 rfl (lv_at hl 1 rfl) ?_
  refine lv_lconst (v := (0 : Int64)) hx hb dX6_entry_1 (by decide) ?_
  refine W.lcmp hx hb dX6_entry_2 ?_
  refine lv_if_lt (tgt := 21) hx hb dX6_entry_3 (by decide) (fun c1 => ?_) (fun c1 => ?_)
  · have h := h.1 c1
    refine lv_iconst (v := (-1 : Int32)) hx hb dX6_entry_21 (by decide) ?_
    exact cpiret (Z := (fun r M' L' => M' = M ∧ L' = L ∧ Z r)) hx hb hr hlocks hK hI dX6_entry_22 ⟨rfl, rfl, h⟩
  · have h := h.2 c1
    refine lv_lload_n hx hb dX6_entry_6 rfl (lv_at hl 1 rfl) ?_
    refine lv_aload_n hx hb dX6_entry_7 rfl (lv_at hl 0 rfl) ?_
    refine va_tlen (v := (16 : Int32)) hx hb hE.2.1.2 hI.2.2 (by decide) dX6_entry_8 ?_
    refine lv_i2l hx hb dX6_entry_9 rfl ?_
    refine W.lcmp hx hb dX6_entry_10 ?_
    refine lv_if_ge (tgt := 21) hx hb dX6_entry_11 (by decide) (fun c2 => ?_) (fun c2 => ?_)
    · have h := h.1 c2
      refine lv_iconst (v := (-1 : Int32)) hx hb dX6_entry_21 (by decide) ?_
      exact cpiret (Z := (fun r M' L' => M' = M ∧ L' = L ∧ Z r)) hx hb hr hlocks hK hI dX6_entry_22 ⟨rfl, rfl, h⟩
    · have h := h.2 c2
      refine lv_aload_n hx hb dX6_entry_14 rfl (lv_at hl 0 rfl) ?_
      refine lv_lload_n hx hb dX6_entry_15 rfl (lv_at hl 1 rfl) ?_
      refine lv_l2i hx hb dX6_entry_16 rfl ?_
      refine va_ti hx hb hE.2.1.2 hI.2.2 h.1 rfl dX6_entry_17 ?_
      have h := h.2
      refine lv_goto (tgt := 22) hx hb dX6_entry_18 (by decide) ?_
      exact cpiret (Z := (fun r M' L' => M' = M ∧ L' = L ∧ Z r)) hx hb hr hlocks hK hI dX6_entry_22 ⟨rfl, rfl, h⟩

abbrev rm_X6_errorToSix : Room := { frames := 1, cells := 0, slots := 0, locals := 22 }
abbrev av_X6_errorToSix (a t : Nat → Nat) (p0 : Int32) (p1 : Int32) : List Value := [.int p0, .int p1]
abbrev qc_X6_errorToSix (dC : Nat → ClassId) (dI : Nat → Nat → Nat) (a : Nat → Nat) (kA : Nat → ClassId) (sz : Nat) (M : cM) (L : cL) (Z : Int32 → Prop) : Array Value → State → Outcome → State → Prop := va_Qi (fun r (u : cM × cL) => u.1 = M ∧ u.2 = L ∧ Z r) (cpAt dC dI a kA (cpA a sz)) (cpA a sz)
set_option maxHeartbeats 4000000 in
set_option maxRecDepth 100000 in
theorem met_X6_errorToSix (l : Launch) (dC : Nat → ClassId) (dI : Nat → Nat → Nat) (a : Nat → Nat) (kA : Nat → ClassId) (t : Nat → Nat) (sz : Nat) (M : cM) (L : cL) (p0 : Int32) (p1 : Int32) (Z : Int32 → Prop) (h : wp_X6_errorToSix M L p0 p1 Z) : Met l yX6_errorToSix (Cond.code yX6_errorToSix cX6_errorToSix 2 (some .int) :: uW) rm_X6_errorToSix (va_Pc (av_X6_errorToSix a t p0 p1) (cpPre dC dI a kA t M L sz)) (qc_X6_errorToSix dC dI a kA sz M L Z) 0 0 (cpA a sz) := by
  refine cpenter (cc := cX6_errorToSix) (n := 2) (ret := (some .int)) (by decide) rfl (Nat.le_of_ble_eq_true rfl) ?_
  intro p e s m below meth c ls hx hb hml hr hlocks hown hts hK hE hsz hI hl hmn
  have hu : ∀ w ∈ uW, w.before (av_X6_errorToSix a t p0 p1).toArray s = true := fun w h => hts w (List.mem_cons_of_mem _ h)
  have hown : s.vm.findClass RX6 = some m.cls := hown
  have hl : lv_has ls 2 [(0, .int p0), (1, .int p1)] := hl
  unfold wp_X6_errorToSix at h
  refine lv_iload_n hx hb dX6_errorToSix_0 rfl (lv_at hl 0 rfl) ?_
  refine lv_iconst (v := (3 : Int32)) hx hb dX6_errorToSix_1 (by decide) ?_
  refine lv_icmp_ne (tgt := 14) hx hb dX6_errorToSix_2 (by decide) (fun c1 => ?_) (fun c1 => ?_)
  · have h := h.1 c1
    refine lv_iload_n hx hb dX6_errorToSix_14 rfl (lv_at hl 0 rfl) ?_
    refine lv_bipush (v := (11 : Int32)) hx hb dX6_errorToSix_15 (by decide) ?_
    refine lv_icmp_ne (tgt := 26) hx hb dX6_errorToSix_17 (by decide) (fun c2 => ?_) (fun c2 => ?_)
    · have h := h.1 c2
      refine lv_iload_n hx hb dX6_errorToSix_26 rfl (lv_at hl 1 rfl) ?_
      refine lv_if_eq (tgt := 35) hx hb dX6_errorToSix_27 (by decide) (fun c3 => ?_) (fun c3 => ?_)
      · have h := h.1 c3
        refine lv_sipush (v := (1024 : Int32)) hx hb dX6_errorToSix_35 (by decide) ?_
        refine lv_goto (tgt := 42) hx hb dX6_errorToSix_38 (by decide) ?_
        exact cpiret (Z := (fun r M' L' => M' = M ∧ L' = L ∧ Z r)) hx hb hr hlocks hK hI dX6_errorToSix_42 ⟨rfl, rfl, h⟩
      · have h := h.2 c3
        refine lv_iload_n hx hb dX6_errorToSix_30 rfl (lv_at hl 1 rfl) ?_
        refine lv_iconst (v := (2 : Int32)) hx hb dX6_errorToSix_31 (by decide) ?_
        refine lv_icmp_ne (tgt := 41) hx hb dX6_errorToSix_32 (by decide) (fun c4 => ?_) (fun c4 => ?_)
        · have h := h.1 c4
          refine lv_iconst (v := (-1 : Int32)) hx hb dX6_errorToSix_41 (by decide) ?_
          exact cpiret (Z := (fun r M' L' => M' = M ∧ L' = L ∧ Z r)) hx hb hr hlocks hK hI dX6_errorToSix_42 ⟨rfl, rfl, h⟩
        · have h := h.2 c4
          refine lv_sipush (v := (1024 : Int32)) hx hb dX6_errorToSix_35 (by decide) ?_
          refine lv_goto (tgt := 42) hx hb dX6_errorToSix_38 (by decide) ?_
          exact cpiret (Z := (fun r M' L' => M' = M ∧ L' = L ∧ Z r)) hx hb hr hlocks hK hI dX6_errorToSix_42 ⟨rfl, rfl, h⟩
    · have h := h.2 c2
      refine lv_sipush (v := (768 : Int32)) hx hb dX6_errorToSix_20 (by decide) ?_
      refine lv_iload_n hx hb dX6_errorToSix_23 rfl (lv_at hl 1 rfl) ?_
      refine lv_ior hx hb dX6_errorToSix_24 ?_
      exact cpiret (Z := (fun r M' L' => M' = M ∧ L' = L ∧ Z r)) hx hb hr hlocks hK hI dX6_errorToSix_25 ⟨rfl, rfl, h⟩
  · have h := h.2 c1
    refine va_gets hx hb hE.2.1.1 hI.2.2 hown (hu _ uww_346) (fun _ h9 => h9) dX6_errorToSix_5 ?_
    refine lv_iload_n hx hb dX6_errorToSix_8 rfl (lv_at hl 1 rfl) ?_
    refine lv_i2l hx hb dX6_errorToSix_9 rfl ?_
    refine cpcalli_p hsz hI (va_runS (As := [.ref (t 0), .long (p1.toInt64)]) (rest := []) ⟨hx, hb, hml, hown, hu⟩ (met_X6_entry_t0 l dC dI a kA t _ M L (p1.toInt64) _ h) (cwl_X6_340_S hu ⟨by decide, by decide⟩) (cppreS hK hE hsz hI) rfl rfl hl.1 rfl (lv_room (Nat.le_of_ble_eq_true rfl)) dX6_errorToSix_10 ⟨by decide, by decide⟩) (fun r5 H locs h hI => ?_)
    exact cpiret (Z := (fun r M' L' => M' = M ∧ L' = L ∧ Z r)) hx hb hr hlocks hK hI dX6_errorToSix_13 ⟨rfl, rfl, h⟩
