abbrev rm_X0_read_12_1 : Room := { frames := 2, cells := 0, slots := 0, locals := 47 }
abbrev av_X0_read_12_1 (a t : Nat → Nat) (p2 : Int32) (p3 : Int32) : List Value := [.ref (a 12), .ref (a 1), .int p2, .int p3]
abbrev qc_X0_read_12_1 (dC : Nat → ClassId) (dI : Nat → Nat → Nat) (a : Nat → Nat) (kA : Nat → ClassId) (sz : Nat) (M : cM) (L : cL) (Z : Int32 → cM → cL → Prop) : Array Value → State → Outcome → State → Prop := va_Qi (fun r (u : cM × cL) => Z r u.1 u.2) (cpAt dC dI a kA (cpA a sz)) (cpA a sz)
set_option maxHeartbeats 4000000 in
set_option maxRecDepth 100000 in
theorem met_X0_read_12_1 (l : Launch) (dC : Nat → ClassId) (dI : Nat → Nat → Nat) (a : Nat → Nat) (kA : Nat → ClassId) (t : Nat → Nat) (sz : Nat) (M : cM) (L : cL) (p2 : Int32) (p3 : Int32) (Z : Int32 → cM → cL → Prop) (h : wp_X0_read_12_1 M L p2 p3 Z) : Met l yX0_read (Cond.code yX0_read cX0_read 7 (some .boolean) :: uW) rm_X0_read_12_1 (va_Pc (av_X0_read_12_1 a t p2 p3) (cpPre dC dI a kA t M L sz)) (qc_X0_read_12_1 dC dI a kA sz M L Z) 0 0 (cpA a sz) := by
  refine cpenter (cc := cX0_read) (n := 7) (ret := (some .boolean)) (by decide) rfl (Nat.le_of_ble_eq_true rfl) ?_
  intro p e s m below meth c ls hx hb hml hr hlocks hown hts hK hE hsz hI hl hmn
  have hu : ∀ w ∈ uW, w.before (av_X0_read_12_1 a t p2 p3).toArray s = true := fun w h => hts w (List.mem_cons_of_mem _ h)
  have hown : s.vm.findClass RX0 = some m.cls := hown
  have hl : lv_has ls 7 [(0, .ref (a 12)), (1, .ref (a 1)), (2, .int p2), (3, .int p3)] := hl
  unfold wp_X0_read_12_1 at h
  refine lv_aload_n hx hb dX0_read_0 rfl (lv_at hl 1 rfl) ?_
  refine lv_iload_n hx hb dX0_read_1 rfl (lv_at hl 2 rfl) ?_
  refine cpcalli_p hsz hI (va_runV (As := [.int p2]) (rest := []) ⟨hx, hb, hml, hown, hu⟩ (met_X4_at_1 l dC dI a kA t _ M L p2 _ h) (cwl_X0_44_X4 hu ⟨by decide, by decide⟩) (cppre (ci := 3) hK hE hsz hI rfl rfl) rfl rfl hl.1 rfl (lv_room (Nat.le_of_ble_eq_true rfl)) dX0_read_2 ⟨by decide, by decide⟩) (fun r1 H locs h hI => ?_)
  refine lv_istore (lv' := [(4, .int r1), (0, .ref (a 12)), (1, .ref (a 1)), (2, .int p2), (3, .int p3)]) hx hb dX0_read_5 hl (by decide) rfl (fun ls hl => ?_)
  refine lv_aload_n hx hb dX0_read_7 rfl (lv_at hl 1 rfl) ?_
  refine lv_iload hx hb dX0_read_8 (lv_at hl 0 rfl) ?_
  refine lv_bipush (v := (15 : Int32)) hx hb dX0_read_10 (by decide) ?_
  refine lv_iand hx hb dX0_read_12 ?_
  refine lv_iconst (v := (4 : Int32)) hx hb dX0_read_13 (by decide) ?_
  refine lv_imul hx hb dX0_read_14 ?_
  refine cpput (ci := 0) (C := RX0) (T := TX0) (N := 18) (ty := .int) hx hb hu uX0 tyX0 tyX0_ok nmX0 hown hK hI 12 rfl rfl 14 (by decide) (hu _ uww_9) (fun _ h9 => h9) rfl (by decide +kernel) rfl rfl (Nat.le_of_ble_eq_true rfl) (cpset_12_14 _ _ _ _ _) dX0_read_15 (fun H locs M2 eM2 hI => ?_)
  have h := h M2 eM2
  refine lv_aload_n hx hb dX0_read_18 rfl (lv_at hl 1 rfl) ?_
  refine lv_aload_n hx hb dX0_read_19 rfl (lv_at hl 2 rfl) ?_
  refine lv_iload_n hx hb dX0_read_20 rfl (lv_at hl 3 rfl) ?_
  refine lv_iconst (v := (2 : Int32)) hx hb dX0_read_21 (by decide) ?_
  refine lv_iadd hx hb dX0_read_22 ?_
  refine cpcalli_p hsz hI (va_runV (As := [.int (p2 + (2 : Int32))]) (rest := [.ref (a 12)]) ⟨hx, hb, hml, hown, hu⟩ (met_X4_word_1 l dC dI a kA t _ M2 L (p2 + (2 : Int32)) _ h) (cwl_X0_48_X4 hu ⟨by decide, by decide⟩) (cppre (ci := 3) hK hE hsz hI rfl rfl) rfl rfl hl.1 rfl (lv_room (Nat.le_of_ble_eq_true rfl)) dX0_read_23 ⟨by decide, by decide⟩) (fun r3 H locs h hI => ?_)
  refine cpput (ci := 0) (C := RX0) (T := TX0) (N := 18) (ty := .int) hx hb hu uX0 tyX0 tyX0_ok nmX0 hown hK hI 12 rfl rfl 15 (by decide) (hu _ uww_8) (fun _ h9 => h9) rfl (by decide +kernel) rfl rfl (Nat.le_of_ble_eq_true rfl) (cpset_12_15 _ _ _ _ _) dX0_read_26 (fun H locs M4 eM4 hI => ?_)
  have h := h M4 eM4
  refine lv_iload_n hx hb dX0_read_29 rfl (lv_at hl 4 rfl) ?_
  refine lv_iload_n hx hb dX0_read_30 rfl (lv_at hl 3 rfl) ?_
  refine lv_isub hx hb dX0_read_31 ?_
  refine lv_bipush (v := (20 : Int32)) hx hb dX0_read_32 (by decide) ?_
  obtain ⟨K52, hK52, h⟩ := h
  have J52 : ∀ (v5 : Int32) (H : Heap) (locs : List Loc) (ls : Array Slot), K52 v5 → cpI dC dI a kA (cpA a sz) s M4 L H locs → lv_has ls 7 [(0, .ref (a 12)), (1, .ref (a 1)), (2, .int p2), (3, .int p3), (4, .int r1)] → W p l e rm_X0_read_12_1 s m (av_X0_read_12_1 a t p2 p3).toArray below meth c H locs 0 0 (MQ below (qc_X0_read_12_1 dC dI a kA sz M L Z) (av_X0_read_12_1 a t p2 p3).toArray s 0 0 (cpA a sz)) (F0 m 52 ls [.int v5]) := by
    intro v5 H locs ls h hI hl
    have h := hK52 v5 h
    refine lv_istore (lv' := [(5, .int v5), (0, .ref (a 12)), (1, .ref (a 1)), (2, .int p2), (3, .int p3), (4, .int r1)]) hx hb dX0_read_52 hl (by decide) rfl (fun ls hl => ?_)
    refine lv_iload hx hb dX0_read_54 (lv_at hl 0 rfl) ?_
    refine lv_if_eq (tgt := 87) hx hb dX0_read_56 (by decide) (fun c6 => ?_) (fun c6 => ?_)
    · have h := h.1 c6
      refine lv_iconst (v := (0 : Int32)) hx hb dX0_read_87 (by decide) ?_
      exact cpzret (Z := (fun r M' L' => Z r M' L')) hx hb hr hlocks hK hI dX0_read_88 ⟨isB_0, h⟩
    · have h := h.2 c6
      refine lv_iload hx hb dX0_read_59 (lv_at hl 5 rfl) ?_
      refine lv_iconst (v := (4 : Int32)) hx hb dX0_read_61 (by decide) ?_
      refine lv_ishr hx hb dX0_read_62 ?_
      refine lv_iconst (v := (4 : Int32)) hx hb dX0_read_63 (by decide) ?_
      refine lv_icmp_ne (tgt := 87) hx hb dX0_read_64 (by decide) (fun c7 => ?_) (fun c7 => ?_)
      · have h := h.1 c7
        refine lv_iconst (v := (0 : Int32)) hx hb dX0_read_87 (by decide) ?_
        exact cpzret (Z := (fun r M' L' => Z r M' L')) hx hb hr hlocks hK hI dX0_read_88 ⟨isB_0, h⟩
      · have h := h.2 c7
        refine lv_aload_n hx hb dX0_read_67 rfl (lv_at hl 1 rfl) ?_
        refine va_get (D := (dC, dI)) (ci := 0) (v := .int (M4 12 14)) (C := RX0) (T := TX0) (N := 18) hx hb hu uX0 hown hK hI.1 12 rfl rfl 14 (by decide) (hu _ uww_9) (fun _ h9 => h9) rfl dX0_read_68 ?_
        refine lv_bipush (v := (20 : Int32)) hx hb dX0_read_71 (by decide) ?_
        refine lv_icmp_lt (tgt := 87) hx hb dX0_read_73 (by decide) (fun c8 => ?_) (fun c8 => ?_)
        · have h := h.1 c8
          refine lv_iconst (v := (0 : Int32)) hx hb dX0_read_87 (by decide) ?_
          exact cpzret (Z := (fun r M' L' => Z r M' L')) hx hb hr hlocks hK hI dX0_read_88 ⟨isB_0, h⟩
        · have h := h.2 c8
          refine lv_aload_n hx hb dX0_read_76 rfl (lv_at hl 1 rfl) ?_
          refine va_get (D := (dC, dI)) (ci := 0) (v := .int (M4 12 15)) (C := RX0) (T := TX0) (N := 18) hx hb hu uX0 hown hK hI.1 12 rfl rfl 15 (by decide) (hu _ uww_8) (fun _ h9 => h9) rfl dX0_read_77 ?_
          refine lv_aload_n hx hb dX0_read_80 rfl (lv_at hl 1 rfl) ?_
          refine va_get (D := (dC, dI)) (ci := 0) (v := .int (M4 12 14)) (C := RX0) (T := TX0) (N := 18) hx hb hu uX0 hown hK hI.1 12 rfl rfl 14 (by decide) (hu _ uww_9) (fun _ h9 => h9) rfl dX0_read_81 ?_
          refine lv_icmp_ge (tgt := 89) hx hb dX0_read_84 (by decide) (fun c9 => ?_) (fun c9 => ?_)
          · have h := h.1 c9
            refine lv_aload_n hx hb dX0_read_89 rfl (lv_at hl 1 rfl) ?_
            refine lv_iload_n hx hb dX0_read_90 rfl (lv_at hl 3 rfl) ?_
            refine cpput (ci := 0) (C := RX0) (T := TX0) (N := 18) (ty := .int) hx hb hu uX0 tyX0 tyX0_ok nmX0 hown hK hI 12 rfl rfl 0 (by decide) (hu _ uww_16) (u_same (hu _ uww_17)) rfl (by decide +kernel) rfl rfl (Nat.le_of_ble_eq_true rfl) (cpset_12_0 _ _ _ _ _) dX0_read_91 (fun H locs M10 eM10 hI => ?_)
            have h := h M10 eM10
            refine lv_aload_n hx hb dX0_read_94 rfl (lv_at hl 1 rfl) ?_
            refine lv_aload_n hx hb dX0_read_95 rfl (lv_at hl 2 rfl) ?_
            refine lv_iload_n hx hb dX0_read_96 rfl (lv_at hl 3 rfl) ?_
            refine lv_iconst (v := (1 : Int32)) hx hb dX0_read_97 (by decide) ?_
            refine lv_iadd hx hb dX0_read_98 ?_
            refine cpcalli_p hsz hI (va_runV (As := [.int (p2 + (1 : Int32))]) (rest := [.ref (a 12)]) ⟨hx, hb, hml, hown, hu⟩ (met_X4_at_1 l dC dI a kA t _ M10 L (p2 + (1 : Int32)) _ h) (cwl_X0_44_X4 hu ⟨by decide, by decide⟩) (cppre (ci := 3) hK hE hsz hI rfl rfl) rfl rfl hl.1 rfl (lv_room (Nat.le_of_ble_eq_true rfl)) dX0_read_99 ⟨by decide, by decide⟩) (fun r11 H locs h hI => ?_)
            refine cpput (ci := 0) (C := RX0) (T := TX0) (N := 18) (ty := .int) hx hb hu uX0 tyX0 tyX0_ok nmX0 hown hK hI 12 rfl rfl 1 (by decide) (hu _ uww_18) (u_same (hu _ uww_19)) rfl (by decide +kernel) rfl rfl (Nat.le_of_ble_eq_true rfl) (cpset_12_1 _ _ _ _ _) dX0_read_102 (fun H locs M12 eM12 hI => ?_)
            have h := h M12 eM12
            refine lv_aload_n hx hb dX0_read_105 rfl (lv_at hl 1 rfl) ?_
            refine lv_aload_n hx hb dX0_read_106 rfl (lv_at hl 2 rfl) ?_
            refine lv_iload_n hx hb dX0_read_107 rfl (lv_at hl 3 rfl) ?_
            refine lv_iconst (v := (4 : Int32)) hx hb dX0_read_108 (by decide) ?_
            refine lv_iadd hx hb dX0_read_109 ?_
            refine cpcalli_p hsz hI (va_runV (As := [.int (p2 + (4 : Int32))]) (rest := [.ref (a 12)]) ⟨hx, hb, hml, hown, hu⟩ (met_X4_word_1 l dC dI a kA t _ M12 L (p2 + (4 : Int32)) _ h) (cwl_X0_48_X4 hu ⟨by decide, by decide⟩) (cppre (ci := 3) hK hE hsz hI rfl rfl) rfl rfl hl.1 rfl (lv_room (Nat.le_of_ble_eq_true rfl)) dX0_read_110 ⟨by decide, by decide⟩) (fun r13 H locs h hI => ?_)
            refine cpput (ci := 0) (C := RX0) (T := TX0) (N := 18) (ty := .int) hx hb hu uX0 tyX0 tyX0_ok nmX0 hown hK hI 12 rfl rfl 4 (by decide) (hu _ uww_20) (u_same (hu _ uww_21)) rfl (by decide +kernel) rfl rfl (Nat.le_of_ble_eq_true rfl) (cpset_12_4 _ _ _ _ _) dX0_read_113 (fun H locs M14 eM14 hI => ?_)
            have h := h M14 eM14
            refine lv_aload_n hx hb dX0_read_116 rfl (lv_at hl 2 rfl) ?_
            refine lv_iload_n hx hb dX0_read_117 rfl (lv_at hl 3 rfl) ?_
            refine lv_bipush (v := (6 : Int32)) hx hb dX0_read_118 (by decide) ?_
            refine lv_iadd hx hb dX0_read_120 ?_
            refine cpcalli_p hsz hI (va_runV (As := [.int (p2 + (6 : Int32))]) (rest := []) ⟨hx, hb, hml, hown, hu⟩ (met_X4_word_1 l dC dI a kA t _ M14 L (p2 + (6 : Int32)) _ h) (cwl_X0_48_X4 hu ⟨by decide, by decide⟩) (cppre (ci := 3) hK hE hsz hI rfl rfl) rfl rfl hl.1 rfl (lv_room (Nat.le_of_ble_eq_true rfl)) dX0_read_121 ⟨by decide, by decide⟩) (fun r15 H locs h hI => ?_)
            refine lv_istore (lv' := [(6, .int r15), (5, .int v5), (0, .ref (a 12)), (1, .ref (a 1)), (2, .int p2), (3, .int p3), (4, .int r1)]) hx hb dX0_read_124 hl (by decide) rfl (fun ls hl => ?_)
            refine lv_aload_n hx hb dX0_read_126 rfl (lv_at hl 2 rfl) ?_
            refine lv_iload hx hb dX0_read_127 (lv_at hl 0 rfl) ?_
            refine lv_sipush (v := (16384 : Int32)) hx hb dX0_read_129 (by decide) ?_
            refine lv_iand hx hb dX0_read_132 ?_
            obtain ⟨K141, hK141, h⟩ := h
            have J141 : ∀ (v16 : Int32) (H : Heap) (locs : List Loc) (ls : Array Slot), K141 v16 → cpI dC dI a kA (cpA a sz) s M14 L H locs → lv_has ls 7 [(0, .ref (a 12)), (1, .ref (a 1)), (2, .int p2), (3, .int p3), (6, .int r15)] → W p l e rm_X0_read_12_1 s m (av_X0_read_12_1 a t p2 p3).toArray below meth c H locs 0 0 (MQ below (qc_X0_read_12_1 dC dI a kA sz M L Z) (av_X0_read_12_1 a t p2 p3).toArray s 0 0 (cpA a sz)) (F0 m 141 ls [.int v16, .ref (a 12)]) := by
              intro v16 H locs ls h hI hl
              have h := hK141 v16 h
              refine cpput (ci := 0) (C := RX0) (T := TX0) (N := 18) (ty := .boolean) hx hb hu uX0 tyX0 tyX0_ok nmX0 hown hK hI 12 rfl rfl 16 (by decide) (hu _ uww_22) (fun _ h9 => h9) rfl (by decide +kernel) h.1.1 h.1.2 (Nat.le_of_ble_eq_true rfl) (cpset_12_16 _ _ _ _ _) dX0_read_141 (fun H locs M17 eM17 hI => ?_)
              have h := h.2 M17 eM17
              refine lv_aload_n hx hb dX0_read_144 rfl (lv_at hl 0 rfl) ?_
              refine lv_iload hx hb dX0_read_145 (lv_at hl 4 rfl) ?_
              refine lv_sipush (v := (8192 : Int32)) hx hb dX0_read_147 (by decide) ?_
              refine lv_iand hx hb dX0_read_150 ?_
              obtain ⟨K159, hK159, h⟩ := h
              have J159 : ∀ (v18 : Int32) (H : Heap) (locs : List Loc) (ls : Array Slot), K159 v18 → cpI dC dI a kA (cpA a sz) s M17 L H locs → lv_has ls 7 [(0, .ref (a 12)), (1, .ref (a 1)), (2, .int p2), (3, .int p3), (6, .int r15)] → W p l e rm_X0_read_12_1 s m (av_X0_read_12_1 a t p2 p3).toArray below meth c H locs 0 0 (MQ below (qc_X0_read_12_1 dC dI a kA sz M L Z) (av_X0_read_12_1 a t p2 p3).toArray s 0 0 (cpA a sz)) (F0 m 159 ls [.int v18, .ref (a 12)]) := by
                intro v18 H locs ls h hI hl
                have h := hK159 v18 h
                refine cpput (ci := 0) (C := RX0) (T := TX0) (N := 18) (ty := .boolean) hx hb hu uX0 tyX0 tyX0_ok nmX0 hown hK hI 12 rfl rfl 5 (by decide) (hu _ uww_23) (u_same (hu _ uww_24)) rfl (by decide +kernel) h.1.1 h.1.2 (Nat.le_of_ble_eq_true rfl) (cpset_12_5 _ _ _ _ _) dX0_read_159 (fun H locs M19 eM19 hI => ?_)
                have h := h.2 M19 eM19
                refine lv_aload_n hx hb dX0_read_162 rfl (lv_at hl 0 rfl) ?_
                refine lv_iload hx hb dX0_read_163 (lv_at hl 4 rfl) ?_
                refine lv_sipush (v := (8191 : Int32)) hx hb dX0_read_165 (by decide) ?_
                refine lv_iand hx hb dX0_read_168 ?_
                refine cpput (ci := 0) (C := RX0) (T := TX0) (N := 18) (ty := .int) hx hb hu uX0 tyX0 tyX0_ok nmX0 hown hK hI 12 rfl rfl 6 (by decide) (hu _ uww_25) (u_same (hu _ uww_26)) rfl (by decide +kernel) rfl rfl (Nat.le_of_ble_eq_true rfl) (cpset_12_6 _ _ _ _ _) dX0_read_169 (fun H locs M20 eM20 hI => ?_)
                have h := h M20 eM20
                refine lv_aload_n hx hb dX0_read_172 rfl (lv_at hl 0 rfl) ?_
                refine lv_aload_n hx hb dX0_read_173 rfl (lv_at hl 1 rfl) ?_
                refine lv_iload_n hx hb dX0_read_174 rfl (lv_at hl 2 rfl) ?_
                refine lv_bipush (v := (8 : Int32)) hx hb dX0_read_175 (by decide) ?_
                refine lv_iadd hx hb dX0_read_177 ?_
                refine cpcalli_p hsz hI (va_runV (As := [.int (p2 + (8 : Int32))]) (rest := [.ref (a 12)]) ⟨hx, hb, hml, hown, hu⟩ (met_X4_at_1 l dC dI a kA t _ M20 L (p2 + (8 : Int32)) _ h) (cwl_X0_44_X4 hu ⟨by decide, by decide⟩) (cppre (ci := 3) hK hE hsz hI rfl rfl) rfl rfl hl.1 rfl (lv_room (Nat.le_of_ble_eq_true rfl)) dX0_read_178 ⟨by decide, by decide⟩) (fun r21 H locs h hI => ?_)
                refine cpput (ci := 0) (C := RX0) (T := TX0) (N := 18) (ty := .int) hx hb hu uX0 tyX0 tyX0_ok nmX0 hown hK hI 12 rfl rfl 2 (by decide) (hu _ uww_27) (u_same (hu _ uww_28)) rfl (by decide +kernel) rfl rfl (Nat.le_of_ble_eq_true rfl) (cpset_12_2 _ _ _ _ _) dX0_read_181 (fun H locs M22 eM22 hI => ?_)
                have h := h M22 eM22
                refine lv_aload_n hx hb dX0_read_184 rfl (lv_at hl 0 rfl) ?_
                refine lv_aload_n hx hb dX0_read_185 rfl (lv_at hl 1 rfl) ?_
                refine lv_iload_n hx hb dX0_read_186 rfl (lv_at hl 2 rfl) ?_
                refine lv_bipush (v := (9 : Int32)) hx hb dX0_read_187 (by decide) ?_
                refine lv_iadd hx hb dX0_read_189 ?_
                refine cpcalli_p hsz hI (va_runV (As := [.int (p2 + (9 : Int32))]) (rest := [.ref (a 12)]) ⟨hx, hb, hml, hown, hu⟩ (met_X4_at_1 l dC dI a kA t _ M22 L (p2 + (9 : Int32)) _ h) (cwl_X0_44_X4 hu ⟨by decide, by decide⟩) (cppre (ci := 3) hK hE hsz hI rfl rfl) rfl rfl hl.1 rfl (lv_room (Nat.le_of_ble_eq_true rfl)) dX0_read_190 ⟨by decide, by decide⟩) (fun r23 H locs h hI => ?_)
                refine cpput (ci := 0) (C := RX0) (T := TX0) (N := 18) (ty := .int) hx hb hu uX0 tyX0 tyX0_ok nmX0 hown hK hI 12 rfl rfl 3 (by decide) (hu _ uww_29) (u_same (hu _ uww_30)) rfl (by decide +kernel) rfl rfl (Nat.le_of_ble_eq_true rfl) (cpset_12_3 _ _ _ _ _) dX0_read_193 (fun H locs M24 eM24 hI => ?_)
                have h := h M24 eM24
                refine lv_aload_n hx hb dX0_read_196 rfl (lv_at hl 0 rfl) ?_
                refine lv_aload_n hx hb dX0_read_197 rfl (lv_at hl 1 rfl) ?_
                refine lv_iload_n hx hb dX0_read_198 rfl (lv_at hl 2 rfl) ?_
                refine lv_bipush (v := (12 : Int32)) hx hb dX0_read_199 (by decide) ?_
                refine lv_iadd hx hb dX0_read_201 ?_
                refine lv_iconst (v := (4 : Int32)) hx hb dX0_read_202 (by decide) ?_
                refine cpcalll_p hsz hI (va_runV (As := [.int (p2 + (12 : Int32)), .int (4 : Int32)]) (rest := [.ref (a 12)]) ⟨hx, hb, hml, hown, hu⟩ (met_X4_number_1 l dC dI a kA t _ M24 L (p2 + (12 : Int32)) (4 : Int32) _ h) (cwl_X0_75_X4 hu ⟨by decide, by decide⟩) (cppre (ci := 3) hK hE hsz hI rfl rfl) rfl rfl hl.1 rfl (lv_room (Nat.le_of_ble_eq_true rfl)) dX0_read_203 ⟨by decide, by decide⟩) (fun r25 H locs h hI => ?_)
                refine lv_l2i hx hb dX0_read_206 rfl ?_
                refine cpput (ci := 0) (C := RX0) (T := TX0) (N := 18) (ty := .int) hx hb hu uX0 tyX0 tyX0_ok nmX0 hown hK hI 12 rfl rfl 10 (by decide) (hu _ uww_31) (u_same (hu _ uww_32)) rfl (by decide +kernel) rfl rfl (Nat.le_of_ble_eq_true rfl) (cpset_12_10 _ _ _ _ _) dX0_read_207 (fun H locs M26 eM26 hI => ?_)
                have h := h M26 eM26
                refine lv_aload_n hx hb dX0_read_210 rfl (lv_at hl 0 rfl) ?_
                refine lv_aload_n hx hb dX0_read_211 rfl (lv_at hl 1 rfl) ?_
                refine lv_iload_n hx hb dX0_read_212 rfl (lv_at hl 2 rfl) ?_
                refine lv_bipush (v := (16 : Int32)) hx hb dX0_read_213 (by decide) ?_
                refine lv_iadd hx hb dX0_read_215 ?_
                refine lv_iconst (v := (4 : Int32)) hx hb dX0_read_216 (by decide) ?_
                refine cpcalll_p hsz hI (va_runV (As := [.int (p2 + (16 : Int32)), .int (4 : Int32)]) (rest := [.ref (a 12)]) ⟨hx, hb, hml, hown, hu⟩ (met_X4_number_1 l dC dI a kA t _ M26 L (p2 + (16 : Int32)) (4 : Int32) _ h) (cwl_X0_75_X4 hu ⟨by decide, by decide⟩) (cppre (ci := 3) hK hE hsz hI rfl rfl) rfl rfl hl.1 rfl (lv_room (Nat.le_of_ble_eq_true rfl)) dX0_read_217 ⟨by decide, by decide⟩) (fun r27 H locs h hI => ?_)
                refine lv_l2i hx hb dX0_read_220 rfl ?_
                refine cpput (ci := 0) (C := RX0) (T := TX0) (N := 18) (ty := .int) hx hb hu uX0 tyX0 tyX0_ok nmX0 hown hK hI 12 rfl rfl 11 (by decide) (hu _ uww_33) (u_same (hu _ uww_34)) rfl (by decide +kernel) rfl rfl (Nat.le_of_ble_eq_true rfl) (cpset_12_11 _ _ _ _ _) dX0_read_221 (fun H locs M28 eM28 hI => ?_)
                have h := h M28 eM28
                refine lv_aload_n hx hb dX0_read_224 rfl (lv_at hl 0 rfl) ?_
                refine lv_aload_n hx hb dX0_read_225 rfl (lv_at hl 1 rfl) ?_
                refine lv_iload_n hx hb dX0_read_226 rfl (lv_at hl 2 rfl) ?_
                refine lv_bipush (v := (12 : Int32)) hx hb dX0_read_227 (by decide) ?_
                refine lv_iadd hx hb dX0_read_229 ?_
                refine lv_iload_n hx hb dX0_read_230 rfl (lv_at hl 2 rfl) ?_
                refine lv_bipush (v := (20 : Int32)) hx hb dX0_read_231 (by decide) ?_
                refine lv_iadd hx hb dX0_read_233 ?_
                refine cpcalll_p hsz hI (va_runV (As := [.int (p2 + (12 : Int32)), .int (p2 + (20 : Int32))]) (rest := [.ref (a 12)]) ⟨hx, hb, hml, hown, hu⟩ (met_X4_sum_1 l dC dI a kA t _ M28 L (p2 + (12 : Int32)) (p2 + (20 : Int32)) _ h) (cwl_X0_27_X4 hu ⟨by decide, by decide⟩) (cppre (ci := 3) hK hE hsz hI rfl rfl) rfl rfl hl.1 rfl (lv_room (Nat.le_of_ble_eq_true rfl)) dX0_read_234 ⟨by decide, by decide⟩) (fun r29 H locs h hI => ?_)
                refine cpputl (ci := 0) (C := RX0) (T := TX0) (N := 18) (ty := .long) hx hb hu uX0 tyX0 tyX0_ok nmX0 hown hK hI 12 rfl rfl 12 (by decide) (hu _ uww_35) (u_same (hu _ uww_36)) rfl (by decide +kernel) rfl rfl (Nat.le_of_ble_eq_true rfl) (cpset_12_12 _ _ _ _ _) dX0_read_237 (fun H locs L30 eL30 hI => ?_)
                have h := h L30 eL30
                refine lv_aload_n hx hb dX0_read_240 rfl (lv_at hl 0 rfl) ?_
                refine lv_iload_n hx hb dX0_read_241 rfl (lv_at hl 2 rfl) ?_
                refine lv_aload_n hx hb dX0_read_242 rfl (lv_at hl 0 rfl) ?_
                refine va_get (D := (dC, dI)) (ci := 0) (v := .int (M28 12 14)) (C := RX0) (T := TX0) (N := 18) hx hb hu uX0 hown hK hI.1 12 rfl rfl 14 (by decide) (hu _ uww_9) (fun _ h9 => h9) rfl dX0_read_243 ?_
                refine lv_iadd hx hb dX0_read_246 ?_
                refine cpput (ci := 0) (C := RX0) (T := TX0) (N := 18) (ty := .int) hx hb hu uX0 tyX0 tyX0_ok nmX0 hown hK hI 12 rfl rfl 7 (by decide) (hu _ uww_37) (u_same (hu _ uww_38)) rfl (by decide +kernel) rfl rfl (Nat.le_of_ble_eq_true rfl) (cpset_12_7 _ _ _ _ _) dX0_read_247 (fun H locs M31 eM31 hI => ?_)
                have h := h M31 eM31
                refine lv_aload_n hx hb dX0_read_250 rfl (lv_at hl 0 rfl) ?_
                refine lv_aload_n hx hb dX0_read_251 rfl (lv_at hl 0 rfl) ?_
                refine va_get (D := (dC, dI)) (ci := 0) (v := .int (M31 12 15)) (C := RX0) (T := TX0) (N := 18) hx hb hu uX0 hown hK hI.1 12 rfl rfl 15 (by decide) (hu _ uww_8) (fun _ h9 => h9) rfl dX0_read_252 ?_
                refine lv_aload_n hx hb dX0_read_255 rfl (lv_at hl 0 rfl) ?_
                refine va_get (D := (dC, dI)) (ci := 0) (v := .int (M31 12 14)) (C := RX0) (T := TX0) (N := 18) hx hb hu uX0 hown hK hI.1 12 rfl rfl 14 (by decide) (hu _ uww_9) (fun _ h9 => h9) rfl dX0_read_256 ?_
                refine lv_isub hx hb dX0_read_259 ?_
                refine cpput (ci := 0) (C := RX0) (T := TX0) (N := 18) (ty := .int) hx hb hu uX0 tyX0 tyX0_ok nmX0 hown hK hI 12 rfl rfl 8 (by decide) (hu _ uww_39) (u_same (hu _ uww_40)) rfl (by decide +kernel) rfl rfl (Nat.le_of_ble_eq_true rfl) (cpset_12_8 _ _ _ _ _) dX0_read_260 (fun H locs M32 eM32 hI => ?_)
                have h := h M32 eM32
                refine lv_aload_n hx hb dX0_read_263 rfl (lv_at hl 0 rfl) ?_
                refine lv_iload_n hx hb dX0_read_264 rfl (lv_at hl 3 rfl) ?_
                refine lv_iload_n hx hb dX0_read_265 rfl (lv_at hl 2 rfl) ?_
                refine lv_aload_n hx hb dX0_read_266 rfl (lv_at hl 0 rfl) ?_
                refine va_get (D := (dC, dI)) (ci := 0) (v := .int (M32 12 15)) (C := RX0) (T := TX0) (N := 18) hx hb hu uX0 hown hK hI.1 12 rfl rfl 15 (by decide) (hu _ uww_8) (fun _ h9 => h9) rfl dX0_read_267 ?_
                refine lv_iadd hx hb dX0_read_270 ?_
                refine va_mmin hx hb (hml.trans hl.1.symm) hown (hu _ uww_41) (hu _ uww_42) (hu _ uww_43) (hu _ uww_44) (Nat.le_of_ble_eq_true rfl) (Nat.le_of_ble_eq_true rfl) (Nat.le_of_ble_eq_true rfl) (Nat.le_of_ble_eq_true rfl) dX0_read_271 ?_
                refine lv_aload_n hx hb dX0_read_274 rfl (lv_at hl 0 rfl) ?_
                refine va_get (D := (dC, dI)) (ci := 0) (v := .int (M32 12 7)) (C := RX0) (T := TX0) (N := 18) hx hb hu uX0 hown hK hI.1 12 rfl rfl 7 (by decide) (hu _ uww_37) (u_same (hu _ uww_38)) rfl dX0_read_275 ?_
                refine lv_isub hx hb dX0_read_278 ?_
                refine cpput (ci := 0) (C := RX0) (T := TX0) (N := 18) (ty := .int) hx hb hu uX0 tyX0 tyX0_ok nmX0 hown hK hI 12 rfl rfl 9 (by decide) (hu _ uww_45) (u_same (hu _ uww_46)) rfl (by decide +kernel) rfl rfl (Nat.le_of_ble_eq_true rfl) (cpset_12_9 _ _ _ _ _) dX0_read_279 (fun H locs M33 eM33 hI => ?_)
                have h := h M33 eM33
                refine lv_iconst (v := (1 : Int32)) hx hb dX0_read_282 (by decide) ?_
                exact cpzret (Z := (fun r M' L' => Z r M' L')) hx hb hr hlocks hK hI dX0_read_283 ⟨isB_1, h⟩
              refine lv_if_eq (tgt := 158) hx hb dX0_read_151 (by decide) (fun c34 => ?_) (fun c34 => ?_)
              · have h := h.1 c34
                refine lv_iconst (v := (0 : Int32)) hx hb dX0_read_158 (by decide) ?_
                exact J159 (0 : Int32) _ _ _ h hI (lv_sub hl [0, 1, 2, 3, 4] rfl)
              · have h := h.2 c34
                refine lv_iconst (v := (1 : Int32)) hx hb dX0_read_154 (by decide) ?_
                refine lv_goto (tgt := 159) hx hb dX0_read_155 (by decide) ?_
                exact J159 (1 : Int32) _ _ _ h hI (lv_sub hl [0, 1, 2, 3, 4] rfl)
            refine lv_if_eq (tgt := 140) hx hb dX0_read_133 (by decide) (fun c35 => ?_) (fun c35 => ?_)
            · have h := h.1 c35
              refine lv_iconst (v := (0 : Int32)) hx hb dX0_read_140 (by decide) ?_
              exact J141 (0 : Int32) _ _ _ h hI (lv_sub hl [2, 3, 4, 5, 0] rfl)
            · have h := h.2 c35
              refine lv_iconst (v := (1 : Int32)) hx hb dX0_read_136 (by decide) ?_
              refine lv_goto (tgt := 141) hx hb dX0_read_137 (by decide) ?_
              exact J141 (1 : Int32) _ _ _ h hI (lv_sub hl [2, 3, 4, 5, 0] rfl)
          · have h := h.2 c9
            refine lv_iconst (v := (0 : Int32)) hx hb dX0_read_87 (by decide) ?_
            exact cpzret (Z := (fun r M' L' => Z r M' L')) hx hb hr hlocks hK hI dX0_read_88 ⟨isB_0, h⟩
  obtain ⟨K51, hK51, h⟩ := h
  have J51 : ∀  (H : Heap) (locs : List Loc) (ls : Array Slot), K51  → cpI dC dI a kA (cpA a sz) s M4 L H locs → lv_has ls 7 [(0, .ref (a 12)), (1, .ref (a 1)), (2, .int p2), (3, .int p3), (4, .int r1)] → W p l e rm_X0_read_12_1 s m (av_X0_read_12_1 a t p2 p3).toArray below meth c H locs 0 0 (MQ below (qc_X0_read_12_1 dC dI a kA sz M L Z) (av_X0_read_12_1 a t p2 p3).toArray s 0 0 (cpA a sz)) (F0 m 51 ls []) := by
    intro  H locs ls h hI hl
    have h := hK51  h
    refine lv_iconst (v := (0 : Int32)) hx hb dX0_read_51 (by decide) ?_
    exact J52 (0 : Int32) _ _ _ h hI (lv_sub hl [0, 1, 2, 3, 4] rfl)
  refine lv_icmp_lt (tgt := 51) hx hb dX0_read_34 (by decide) (fun c36 => ?_) (fun c36 => ?_)
  · have h := h.1 c36
    exact J51  _ _ _ h hI (lv_sub hl [1, 2, 3, 4, 0] rfl)
  · have h := h.2 c36
    refine lv_iload_n hx hb dX0_read_37 rfl (lv_at hl 4 rfl) ?_
    refine lv_iload_n hx hb dX0_read_38 rfl (lv_at hl 3 rfl) ?_
    refine lv_isub hx hb dX0_read_39 ?_
    refine lv_aload_n hx hb dX0_read_40 rfl (lv_at hl 1 rfl) ?_
    refine va_get (D := (dC, dI)) (ci := 0) (v := .int (M4 12 14)) (C := RX0) (T := TX0) (N := 18) hx hb hu uX0 hown hK hI.1 12 rfl rfl 14 (by decide) (hu _ uww_9) (fun _ h9 => h9) rfl dX0_read_41 ?_
    refine lv_icmp_lt (tgt := 51) hx hb dX0_read_44 (by decide) (fun c37 => ?_) (fun c37 => ?_)
    · have h := h.1 c37
      exact J51  _ _ _ h hI (lv_sub hl [1, 2, 3, 4, 0] rfl)
    · have h := h.2 c37
      refine lv_iconst (v := (1 : Int32)) hx hb dX0_read_47 (by decide) ?_
      refine lv_goto (tgt := 52) hx hb dX0_read_48 (by decide) ?_
      exact J52 (1 : Int32) _ _ _ h hI (lv_sub hl [1, 2, 3, 4, 0] rfl)

abbrev rm_X2_fragment_12 : Room := { frames := 0, cells := 0, slots := 0, locals := 0 }
abbrev av_X2_fragment_12 (a t : Nat → Nat)  : List Value := [.ref (a 12)]
abbrev qc_X2_fragment_12 (dC : Nat → ClassId) (dI : Nat → Nat → Nat) (a : Nat → Nat) (kA : Nat → ClassId) (sz : Nat) (M : cM) (L : cL) (Z : Int32 → Prop) : Array Value → State → Outcome → State → Prop := va_Qi (fun r (u : cM × cL) => u.1 = M ∧ u.2 = L ∧ Z r) (cpAt dC dI a kA (cpA a sz)) (cpA a sz)
set_option maxHeartbeats 4000000 in
set_option maxRecDepth 100000 in
theorem met_X2_fragment_12 (l : Launch) (dC : Nat → ClassId) (dI : Nat → Nat → Nat) (a : Nat → Nat) (kA : Nat → ClassId) (t : Nat → Nat) (sz : Nat) (M : cM) (L : cL)  (Z : Int32 → Prop) (h : wp_X2_fragment_12 M L  Z) : Met l yX2_fragment (Cond.code yX2_fragment cX2_fragment 1 (some .boolean) :: uW) rm_X2_fragment_12 (va_Pc (av_X2_fragment_12 a t ) (cpPre dC dI a kA t M L sz)) (qc_X2_fragment_12 dC dI a kA sz M L Z) 0 0 (cpA a sz) := by
  refine cpenter (cc := cX2_fragment) (n := 1) (ret := (some .boolean)) (by decide) rfl (Nat.le_of_ble_eq_true rfl) ?_
  intro p e s m below meth c ls hx hb hml hr hlocks hown hts hK hE hsz hI hl hmn
  have hu : ∀ w ∈ uW, w.before (av_X2_fragment_12 a t ).toArray s = true := fun w h => hts w (List.mem_cons_of_mem _ h)
  have hown : s.vm.findClass RX2 = some m.cls := hown
  have hl : lv_has ls 1 [(0, .ref (a 12))] := hl
  unfold wp_X2_fragment_12 at h
  refine lv_aload_n hx hb dX2_fragment_0 rfl (lv_at hl 0 rfl) ?_
  refine va_get (D := (dC, dI)) (ci := 0) (v := .int (M 12 5)) (C := RX0) (T := TX0) (N := 18) hx hb hu uX0 hown hK hI.1 12 rfl rfl 5 (by decide) (hu _ uww_88) (fun _ h9 => h9) rfl dX2_fragment_1 ?_
  refine lv_if_ne (tgt := 14) hx hb dX2_fragment_4 (by decide) (fun c1 => ?_) (fun c1 => ?_)
  · have h := h.1 c1
    refine lv_iconst (v := (1 : Int32)) hx hb dX2_fragment_14 (by decide) ?_
    refine lv_goto (tgt := 19) hx hb dX2_fragment_15 (by decide) ?_
    exact cpzret (Z := (fun r M' L' => M' = M ∧ L' = L ∧ Z r)) hx hb hr hlocks hK hI dX2_fragment_19 ⟨isB_1, ⟨rfl, rfl, h⟩⟩
  · have h := h.2 c1
    refine lv_aload_n hx hb dX2_fragment_7 rfl (lv_at hl 0 rfl) ?_
    refine va_get (D := (dC, dI)) (ci := 0) (v := .int (M 12 6)) (C := RX0) (T := TX0) (N := 18) hx hb hu uX0 hown hK hI.1 12 rfl rfl 6 (by decide) (hu _ uww_80) (fun _ h9 => h9) rfl dX2_fragment_8 ?_
    refine lv_if_eq (tgt := 18) hx hb dX2_fragment_11 (by decide) (fun c2 => ?_) (fun c2 => ?_)
    · have h := h.1 c2
      refine lv_iconst (v := (0 : Int32)) hx hb dX2_fragment_18 (by decide) ?_
      exact cpzret (Z := (fun r M' L' => M' = M ∧ L' = L ∧ Z r)) hx hb hr hlocks hK hI dX2_fragment_19 ⟨isB_0, ⟨rfl, rfl, h⟩⟩
    · have h := h.2 c2
      refine lv_iconst (v := (1 : Int32)) hx hb dX2_fragment_14 (by decide) ?_
      refine lv_goto (tgt := 19) hx hb dX2_fragment_15 (by decide) ?_
      exact cpzret (Z := (fun r M' L' => M' = M ∧ L' = L ∧ Z r)) hx hb hr hlocks hK hI dX2_fragment_19 ⟨isB_1, ⟨rfl, rfl, h⟩⟩

abbrev rm_X6_innerFourFits_0_12 : Room := { frames := 2, cells := 0, slots := 0, locals := 40 }
abbrev av_X6_innerFourFits_0_12 (a t : Nat → Nat)  : List Value := [.ref (a 0), .ref (a 12)]
abbrev qc_X6_innerFourFits_0_12 (dC : Nat → ClassId) (dI : Nat → Nat → Nat) (a : Nat → Nat) (kA : Nat → ClassId) (sz : Nat) (M : cM) (L : cL) (Z : Int32 → Prop) : Array Value → State → Outcome → State → Prop := va_Qi (fun r (u : cM × cL) => u.1 = M ∧ u.2 = L ∧ Z r) (cpAt dC dI a kA (cpA a sz)) (cpA a sz)
set_option maxHeartbeats 4000000 in
set_option maxRecDepth 100000 in
theorem met_X6_innerFourFits_0_12 (l : Launch) (dC : Nat → ClassId) (dI : Nat → Nat → Nat) (a : Nat → Nat) (kA : Nat → ClassId) (t : Nat → Nat) (sz : Nat) (M : cM) (L : cL)  (Z : Int32 → Prop) (h : wp_X6_innerFourFits_0_12 M L  Z) : Met l yX6_innerFourFits (Cond.code yX6_innerFourFits cX6_innerFourFits 2 (some .boolean) :: uW) rm_X6_innerFourFits_0_12 (va_Pc (av_X6_innerFourFits_0_12 a t ) (cpPre dC dI a kA t M L sz)) (qc_X6_innerFourFits_0_12 dC dI a kA sz M L Z) 0 0 (cpA a sz) := by
  refine cpenter (cc := cX6_innerFourFits) (n := 2) (ret := (some .boolean)) (by decide) rfl (Nat.le_of_ble_eq_true rfl) ?_
  intro p e s m below meth c ls hx hb hml hr hlocks hown hts hK hE hsz hI hl hmn
  have hu : ∀ w ∈ uW, w.before (av_X6_innerFourFits_0_12 a t ).toArray s = true := fun w h => hts w (List.mem_cons_of_mem _ h)
  have hown : s.vm.findClass RX6 = some m.cls := hown
  have hl : lv_has ls 2 [(0, .ref (a 0)), (1, .ref (a 12))] := hl
  unfold wp_X6_innerFourFits_0_12 at h
  refine lv_aload_n hx hb dX6_innerFourFits_0 rfl (lv_at hl 0 rfl) ?_
  refine va_get (D := (dC, dI)) (ci := 5) (v := .ref (a 10)) (C := RX6) (T := TX6) (N := 17) hx hb hu uX6 hown hK hI.1 0 rfl rfl 3 (by decide) (hu _ uww_221) (fun _ h9 => h9) rfl dX6_innerFourFits_1 ?_
  refine lv_aload_n hx hb dX6_innerFourFits_4 rfl (lv_at hl 1 rfl) ?_
  refine va_get (D := (dC, dI)) (ci := 0) (v := .int (M 12 10)) (C := RX0) (T := TX0) (N := 18) hx hb hu uX0 hown hK hI.1 12 rfl rfl 10 (by decide) (hu _ uww_269) (u_same (hu _ uww_32)) rfl dX6_innerFourFits_5 ?_
  refine cpcalli_p hsz hI (va_runV (As := [.int (M 12 10)]) (rest := []) ⟨hx, hb, hml, hown, hu⟩ (met_X1_mappable_10 l dC dI a kA t _ M L (M 12 10) _ h) (cwl_X6_171_X1 hu ⟨by decide, by decide⟩) (cppre (ci := 1) hK hE hsz hI rfl rfl) rfl rfl hl.1 rfl (lv_room (Nat.le_of_ble_eq_true rfl)) dX6_innerFourFits_8 ⟨by decide, by decide⟩) (fun r1 H locs h hI => ?_)
  refine lv_if_eq (tgt := 38) hx hb dX6_innerFourFits_11 (by decide) (fun c2 => ?_) (fun c2 => ?_)
  · have h := h.1 c2
    refine lv_iconst (v := (0 : Int32)) hx hb dX6_innerFourFits_38 (by decide) ?_
    exact cpzret (Z := (fun r M' L' => M' = M ∧ L' = L ∧ Z r)) hx hb hr hlocks hK hI dX6_innerFourFits_39 ⟨isB_0, ⟨rfl, rfl, h⟩⟩
  · have h := h.2 c2
    refine lv_aload_n hx hb dX6_innerFourFits_14 rfl (lv_at hl 0 rfl) ?_
    refine va_get (D := (dC, dI)) (ci := 5) (v := .ref (a 10)) (C := RX6) (T := TX6) (N := 17) hx hb hu uX6 hown hK hI.1 0 rfl rfl 3 (by decide) (hu _ uww_221) (fun _ h9 => h9) rfl dX6_innerFourFits_15 ?_
    refine lv_aload_n hx hb dX6_innerFourFits_18 rfl (lv_at hl 1 rfl) ?_
    refine va_get (D := (dC, dI)) (ci := 0) (v := .int (M 12 11)) (C := RX0) (T := TX0) (N := 18) hx hb hu uX0 hown hK hI.1 12 rfl rfl 11 (by decide) (hu _ uww_270) (u_same (hu _ uww_34)) rfl dX6_innerFourFits_19 ?_
    refine cpcalli_p hsz hI (va_runV (As := [.int (M 12 11)]) (rest := []) ⟨hx, hb, hml, hown, hu⟩ (met_X1_mappable_10 l dC dI a kA t _ M L (M 12 11) _ h) (cwl_X6_171_X1 hu ⟨by decide, by decide⟩) (cppre (ci := 1) hK hE hsz hI rfl rfl) rfl rfl hl.1 rfl (lv_room (Nat.le_of_ble_eq_true rfl)) dX6_innerFourFits_22 ⟨by decide, by decide⟩) (fun r3 H locs h hI => ?_)
    refine lv_if_eq (tgt := 38) hx hb dX6_innerFourFits_25 (by decide) (fun c4 => ?_) (fun c4 => ?_)
    · have h := h.1 c4
      refine lv_iconst (v := (0 : Int32)) hx hb dX6_innerFourFits_38 (by decide) ?_
      exact cpzret (Z := (fun r M' L' => M' = M ∧ L' = L ∧ Z r)) hx hb hr hlocks hK hI dX6_innerFourFits_39 ⟨isB_0, ⟨rfl, rfl, h⟩⟩
    · have h := h.2 c4
      refine lv_aload_n hx hb dX6_innerFourFits_28 rfl (lv_at hl 1 rfl) ?_
      refine va_get (D := (dC, dI)) (ci := 0) (v := .int (M 12 3)) (C := RX0) (T := TX0) (N := 18) hx hb hu uX0 hown hK hI.1 12 rfl rfl 3 (by decide) (hu _ uww_274) (u_same (hu _ uww_30)) rfl dX6_innerFourFits_29 ?_
      refine cpcalli_p hsz hI (va_runS (As := [.int (M 12 3)]) (rest := []) ⟨hx, hb, hml, hown, hu⟩ (met_X6_neverFromFour l dC dI a kA t _ M L (M 12 3) _ h) (cwl_X6_243_S hu ⟨by decide, by decide⟩) (cppreS hK hE hsz hI) rfl rfl hl.1 rfl (lv_room (Nat.le_of_ble_eq_true rfl)) dX6_innerFourFits_32 ⟨by decide, by decide⟩) (fun r5 H locs h hI => ?_)
      refine lv_if_eq (tgt := 40) hx hb dX6_innerFourFits_35 (by decide) (fun c6 => ?_) (fun c6 => ?_)
      · have h := h.1 c6
        refine lv_aload_n hx hb dX6_innerFourFits_40 rfl (lv_at hl 1 rfl) ?_
        refine va_get (D := (dC, dI)) (ci := 0) (v := .int (M 12 3)) (C := RX0) (T := TX0) (N := 18) hx hb hu uX0 hown hK hI.1 12 rfl rfl 3 (by decide) (hu _ uww_274) (u_same (hu _ uww_30)) rfl dX6_innerFourFits_41 ?_
        refine lv_iconst (v := (1 : Int32)) hx hb dX6_innerFourFits_44 (by decide) ?_
        refine lv_icmp_eq (tgt := 50) hx hb dX6_innerFourFits_45 (by decide) (fun c7 => ?_) (fun c7 => ?_)
        · have h := h.1 c7
          refine lv_aload_n hx hb dX6_innerFourFits_50 rfl (lv_at hl 1 rfl) ?_
          refine cpcalli_p hsz hI (va_runU (As := []) (rest := []) ⟨hx, hb, hml, hown, hu⟩ (met_X2_fragment_12 l dC dI a kA t _ M L  _ h) (cwl_X6_246_X0 hu ⟨by decide, by decide⟩) (cppre (ci := 0) hK hE hsz hI rfl rfl) rfl rfl hl.1 rfl (lv_room (Nat.le_of_ble_eq_true rfl)) dX6_innerFourFits_51 ⟨by decide, by decide⟩) (fun r8 H locs h hI => ?_)
          refine lv_if_ne (tgt := 86) hx hb dX6_innerFourFits_54 (by decide) (fun c9 => ?_) (fun c9 => ?_)
          · have h := h.1 c9
            refine lv_iconst (v := (0 : Int32)) hx hb dX6_innerFourFits_86 (by decide) ?_
            exact cpzret (Z := (fun r M' L' => M' = M ∧ L' = L ∧ Z r)) hx hb hr hlocks hK hI dX6_innerFourFits_87 ⟨isB_0, ⟨rfl, rfl, h⟩⟩
          · have h := h.2 c9
            refine lv_aload_n hx hb dX6_innerFourFits_57 rfl (lv_at hl 1 rfl) ?_
            refine va_get (D := (dC, dI)) (ci := 0) (v := .int (M 12 9)) (C := RX0) (T := TX0) (N := 18) hx hb hu uX0 hown hK hI.1 12 rfl rfl 9 (by decide) (hu _ uww_341) (u_same (hu _ uww_46)) rfl dX6_innerFourFits_58 ?_
            refine lv_iconst (v := (4 : Int32)) hx hb dX6_innerFourFits_61 (by decide) ?_
            refine lv_icmp_lt (tgt := 86) hx hb dX6_innerFourFits_62 (by decide) (fun c10 => ?_) (fun c10 => ?_)
            · have h := h.1 c10
              refine lv_iconst (v := (0 : Int32)) hx hb dX6_innerFourFits_86 (by decide) ?_
              exact cpzret (Z := (fun r M' L' => M' = M ∧ L' = L ∧ Z r)) hx hb hr hlocks hK hI dX6_innerFourFits_87 ⟨isB_0, ⟨rfl, rfl, h⟩⟩
            · have h := h.2 c10
              refine lv_aload_n hx hb dX6_innerFourFits_65 rfl (lv_at hl 0 rfl) ?_
              refine va_get (D := (dC, dI)) (ci := 5) (v := .ref (a 1)) (C := RX6) (T := TX6) (N := 17) hx hb hu uX6 hown hK hI.1 0 rfl rfl 0 (by decide) (hu _ uww_213) (fun _ h9 => h9) rfl dX6_innerFourFits_66 ?_
              refine lv_aload_n hx hb dX6_innerFourFits_69 rfl (lv_at hl 1 rfl) ?_
              refine va_get (D := (dC, dI)) (ci := 0) (v := .int (M 12 7)) (C := RX0) (T := TX0) (N := 18) hx hb hu uX0 hown hK hI.1 12 rfl rfl 7 (by decide) (hu _ uww_275) (u_same (hu _ uww_38)) rfl dX6_innerFourFits_70 ?_
              refine cpcalli_p hsz hI (va_runV (As := [.int (M 12 7)]) (rest := []) ⟨hx, hb, hml, hown, hu⟩ (met_X4_at_1 l dC dI a kA t _ M L (M 12 7) _ h) (cwl_X6_158_X4 hu ⟨by decide, by decide⟩) (cppre (ci := 3) hK hE hsz hI rfl rfl) rfl rfl hl.1 rfl (lv_room (Nat.le_of_ble_eq_true rfl)) dX6_innerFourFits_73 ⟨by decide, by decide⟩) (fun r11 H locs h hI => ?_)
              refine cpcalli_p hsz hI (va_runS (As := [.int r11]) (rest := []) ⟨hx, hb, hml, hown, hu⟩ (met_X6_isEchoFour l dC dI a kA t _ M L r11 _ h) (cwl_X6_257_S hu ⟨by decide, by decide⟩) (cppreS hK hE hsz hI) rfl rfl hl.1 rfl (lv_room (Nat.le_of_ble_eq_true rfl)) dX6_innerFourFits_76 ⟨by decide, by decide⟩) (fun r12 H locs h hI => ?_)
              refine lv_if_eq (tgt := 86) hx hb dX6_innerFourFits_79 (by decide) (fun c13 => ?_) (fun c13 => ?_)
              · have h := h.1 c13
                refine lv_iconst (v := (0 : Int32)) hx hb dX6_innerFourFits_86 (by decide) ?_
                exact cpzret (Z := (fun r M' L' => M' = M ∧ L' = L ∧ Z r)) hx hb hr hlocks hK hI dX6_innerFourFits_87 ⟨isB_0, ⟨rfl, rfl, h⟩⟩
              · have h := h.2 c13
                refine lv_iconst (v := (1 : Int32)) hx hb dX6_innerFourFits_82 (by decide) ?_
                refine lv_goto (tgt := 87) hx hb dX6_innerFourFits_83 (by decide) ?_
                exact cpzret (Z := (fun r M' L' => M' = M ∧ L' = L ∧ Z r)) hx hb hr hlocks hK hI dX6_innerFourFits_87 ⟨isB_1, ⟨rfl, rfl, h⟩⟩
        · have h := h.2 c7
          refine lv_iconst (v := (1 : Int32)) hx hb dX6_innerFourFits_48 (by decide) ?_
          exact cpzret (Z := (fun r M' L' => M' = M ∧ L' = L ∧ Z r)) hx hb hr hlocks hK hI dX6_innerFourFits_49 ⟨isB_1, ⟨rfl, rfl, h⟩⟩
      · have h := h.2 c6
        refine lv_iconst (v := (0 : Int32)) hx hb dX6_innerFourFits_38 (by decide) ?_
        exact cpzret (Z := (fun r M' L' => M' = M ∧ L' = L ∧ Z r)) hx hb hr hlocks hK hI dX6_innerFourFits_39 ⟨isB_0, ⟨rfl, rfl, h⟩⟩

abbrev rm_X6_plateauBelow : Room := { frames := 0, cells := 0, slots := 0, locals := 0 }
abbrev av_X6_plateauBelow (a t : Nat → Nat) (p0 : Int32) : List Value := [.int p0]
abbrev qc_X6_plateauBelow (dC : Nat → ClassId) (dI : Nat → Nat → Nat) (a : Nat → Nat) (kA : Nat → ClassId) (sz : Nat) (M : cM) (L : cL) (Z : Int32 → Prop) : Array Value → State → Outcome → State → Prop := va_Qi (fun r (u : cM × cL) => u.1 = M ∧ u.2 = L ∧ Z r) (cpAt dC dI a kA (cpA a sz)) (cpA a sz)
set_option maxHeartbeats 4000000 in
set_option maxRecDepth 100000 in
theorem met_X6_plateauBelow (l : Launch) (dC : Nat → ClassId) (dI : Nat → Nat → Nat) (a : Nat → Nat) (kA : Nat → ClassId) (t : Nat → Nat) (sz : Nat) (M : cM) (L : cL) (p0 : Int32) (Z : Int32 → Prop) (h : wp_X6_plateauBelow M L p0 Z) : Met l yX6_plateauBelow (Cond.code yX6_plateauBelow cX6_plateauBelow 5 (some .int) :: uW) rm_X6_plateauBelow (va_Pc (av_X6_plateauBelow a t p0) (cpPre dC dI a kA t M L sz)) (qc_X6_plateauBelow dC dI a kA sz M L Z) 0 0 (cpA a sz) := by
  refine cpenter (cc := cX6_plateauBelow) (n := 5) (ret := (some .int)) (by decide) rfl (Nat.le_of_ble_eq_true rfl) ?_
  intro p e s m below meth c ls hx hb hml hr hlocks hown hts hK hE hsz hI hl hmn
  have hu : ∀ w ∈ uW, w.before (av_X6_plateauBelow a t p0).toArray s = true := fun w h => hts w (List.mem_cons_of_mem _ h)
  have hown : s.vm.findClass RX6 = some m.cls := hown
  have hl : lv_has ls 5 [(0, .int p0)] := hl
  unfold wp_X6_plateauBelow at h
  refine va_gets hx hb hE.2.2.2.1.1 hI.2.2 hown (hu _ uww_370) (fun _ h9 => h9) dX6_plateauBelow_0 ?_
  refine lv_astore_n (lv' := [(1, .ref (t 2)), (0, .int p0)]) hx hb dX6_plateauBelow_3 rfl hl (by decide) rfl (fun ls hl => ?_)
  refine lv_aload_n hx hb dX6_plateauBelow_4 rfl (lv_at hl 0 rfl) ?_
  refine va_tlen (v := (10 : Int32)) hx hb hE.2.2.2.1.2 hI.2.2 (by decide) dX6_plateauBelow_5 ?_
  refine lv_istore_n (lv' := [(2, .int (10 : Int32)), (1, .ref (t 2)), (0, .int p0)]) hx hb dX6_plateauBelow_6 rfl hl (by decide) rfl (fun ls hl => ?_)
  refine lv_iconst (v := (0 : Int32)) hx hb dX6_plateauBelow_7 (by decide) ?_
  refine lv_istore_n (lv' := [(3, .int (0 : Int32)), (2, .int (10 : Int32)), (1, .ref (t 2)), (0, .int p0)]) hx hb dX6_plateauBelow_8 rfl hl (by decide) rfl (fun ls hl => ?_)
  obtain ⟨I9, m9, h, hs9⟩ := h
  have P9 : ∀ (n9 : Nat) (x1 : Int32) (H : Heap) (locs : List Loc) (ls : Array Slot), I9 x1 → m9 x1 < n9 → cpI dC dI a kA (cpA a sz) s M L H locs → lv_has ls 5 [(0, .int p0), (1, .ref (t 2)), (2, .int (10 : Int32)), (3, .int x1)] → W p l e rm_X6_plateauBelow s m (av_X6_plateauBelow a t p0).toArray below meth c H locs 0 0 (MQ below (qc_X6_plateauBelow dC dI a kA sz M L Z) (av_X6_plateauBelow a t p0).toArray s 0 0 (cpA a sz)) (F0 m 9 ls []) := by
    intro n9
    induction n9 with
    | zero => intro x1 H locs ls _ hn; exact absurd hn (Nat.not_lt_zero _)
    | succ n9 ih9 =>
      intro x1 H locs ls h hn9 hI hl
      have h := hs9 x1 h
      refine lv_iload_n hx hb dX6_plateauBelow_9 rfl (lv_at hl 3 rfl) ?_
      refine lv_iload_n hx hb dX6_plateauBelow_10 rfl (lv_at hl 2 rfl) ?_
      refine lv_icmp_ge (tgt := 34) hx hb dX6_plateauBelow_11 (by decide) (fun c2 => ?_) (fun c2 => ?_)
      · have h := h.1 c2
        refine lv_bipush (v := (68 : Int32)) hx hb dX6_plateauBelow_34 (by decide) ?_
        exact cpiret (Z := (fun r M' L' => M' = M ∧ L' = L ∧ Z r)) hx hb hr hlocks hK hI dX6_plateauBelow_36 ⟨rfl, rfl, h⟩
      · have h := h.2 c2
        refine lv_aload_n hx hb dX6_plateauBelow_14 rfl (lv_at hl 1 rfl) ?_
        refine lv_iload_n hx hb dX6_plateauBelow_15 rfl (lv_at hl 3 rfl) ?_
        refine va_ti hx hb hE.2.2.2.1.2 hI.2.2 h.1 rfl dX6_plateauBelow_16 ?_
        have h := h.2
        refine lv_topi (fun x3 ex3 => ?_)
        have h := h x3 ex3
        refine lv_istore (lv' := [(4, .int x3), (0, .int p0), (1, .ref (t 2)), (2, .int (10 : Int32)), (3, .int x1)]) hx hb dX6_plateauBelow_17 hl (by decide) rfl (fun ls hl => ?_)
        refine lv_iload hx hb dX6_plateauBelow_19 (lv_at hl 0 rfl) ?_
        refine lv_iload_n hx hb dX6_plateauBelow_21 rfl (lv_at hl 1 rfl) ?_
        refine lv_icmp_ge (tgt := 28) hx hb dX6_plateauBelow_22 (by decide) (fun c4 => ?_) (fun c4 => ?_)
        · have h := h.1 c4
          obtain ⟨x5, ex5⟩ : ∃ y : Int32, y = (x1 + (1 : Int32)) := ⟨_, rfl⟩
          have h := h x5 ex5
          refine lv_iinc (v := x5) (lv' := [(3, .int x5), (4, .int x3), (0, .int p0), (1, .ref (t 2)), (2, .int (10 : Int32))]) hx hb dX6_plateauBelow_28 hl (k := 4) rfl (by rw [ex5]; rfl) (by decide) rfl (fun ls hl => ?_)
          refine lv_goto (tgt := 9) hx hb dX6_plateauBelow_31 (by decide) ?_
          exact ih9 x5 _ _ _ h.1 (Nat.lt_of_lt_of_le h.2 (Nat.le_of_lt_succ hn9)) hI (lv_sub hl [2, 3, 4, 0] rfl)
        · have h := h.2 c4
          refine lv_iload hx hb dX6_plateauBelow_25 (lv_at hl 0 rfl) ?_
          exact cpiret (Z := (fun r M' L' => M' = M ∧ L' = L ∧ Z r)) hx hb hr hlocks hK hI dX6_plateauBelow_27 ⟨rfl, rfl, h⟩
  exact P9 (m9 (0 : Int32) + 1) (0 : Int32) _ _ _ h (Nat.lt_succ_self _) hI (lv_sub hl [3, 2, 1, 0] rfl)

abbrev rm_X6_mtuToSix_0 : Room := { frames := 1, cells := 0, slots := 0, locals := 24 }
abbrev av_X6_mtuToSix_0 (a t : Nat → Nat) (p1 : Int32) (p2 : Int32) : List Value := [.ref (a 0), .int p1, .int p2]
abbrev qc_X6_mtuToSix_0 (dC : Nat → ClassId) (dI : Nat → Nat → Nat) (a : Nat → Nat) (kA : Nat → ClassId) (sz : Nat) (M : cM) (L : cL) (Z : Int32 → Prop) : Array Value → State → Outcome → State → Prop := va_Qi (fun r (u : cM × cL) => u.1 = M ∧ u.2 = L ∧ Z r) (cpAt dC dI a kA (cpA a sz)) (cpA a sz)
set_option maxHeartbeats 4000000 in
set_option maxRecDepth 100000 in
theorem met_X6_mtuToSix_0 (l : Launch) (dC : Nat → ClassId) (dI : Nat → Nat → Nat) (a : Nat → Nat) (kA : Nat → ClassId) (t : Nat → Nat) (sz : Nat) (M : cM) (L : cL) (p1 : Int32) (p2 : Int32) (Z : Int32 → Prop) (h : wp_X6_mtuToSix_0 M L p1 p2 Z) : Met l yX6_mtuToSix (Cond.code yX6_mtuToSix cX6_mtuToSix 4 (some .int) :: uW) rm_X6_mtuToSix_0 (va_Pc (av_X6_mtuToSix_0 a t p1 p2) (cpPre dC dI a kA t M L sz)) (qc_X6_mtuToSix_0 dC dI a kA sz M L Z) 0 0 (cpA a sz) := by
  refine cpenter (cc := cX6_mtuToSix) (n := 4) (ret := (some .int)) (by decide) rfl (Nat.le_of_ble_eq_true rfl) ?_
  intro p e s m below meth c ls hx hb hml hr hlocks hown hts hK hE hsz hI hl hmn
  have hu : ∀ w ∈ uW, w.before (av_X6_mtuToSix_0 a t p1 p2).toArray s = true := fun w h => hts w (List.mem_cons_of_mem _ h)
  have hown : s.vm.findClass RX6 = some m.cls := hown
  have hl : lv_has ls 4 [(0, .ref (a 0)), (1, .int p1), (2, .int p2)] := hl
  unfold wp_X6_mtuToSix_0 at h
  refine lv_iload_n hx hb dX6_mtuToSix_0 rfl (lv_at hl 1 rfl) ?_
  obtain ⟨K12, hK12, h⟩ := h
  have J12 : ∀ (v1 : Int32) (H : Heap) (locs : List Loc) (ls : Array Slot), K12 v1 → cpI dC dI a kA (cpA a sz) s M L H locs → lv_has ls 4 [(0, .ref (a 0))] → W p l e rm_X6_mtuToSix_0 s m (av_X6_mtuToSix_0 a t p1 p2).toArray below meth c H locs 0 0 (MQ below (qc_X6_mtuToSix_0 dC dI a kA sz M L Z) (av_X6_mtuToSix_0 a t p1 p2).toArray s 0 0 (cpA a sz)) (F0 m 12 ls [.int v1]) := by
    intro v1 H locs ls h hI hl
    have h := hK12 v1 h
    refine lv_bipush (v := (20 : Int32)) hx hb dX6_mtuToSix_12 (by decide) ?_
    refine lv_iadd hx hb dX6_mtuToSix_14 ?_
    refine lv_topi (fun x2 ex2 => ?_)
    have h := h x2 ex2
    refine lv_istore_n (lv' := [(3, .int x2), (0, .ref (a 0))]) hx hb dX6_mtuToSix_15 rfl hl (by decide) rfl (fun ls hl => ?_)
    refine lv_sipush (v := (1280 : Int32)) hx hb dX6_mtuToSix_16 (by decide) ?_
    refine lv_iload_n hx hb dX6_mtuToSix_19 rfl (lv_at hl 0 rfl) ?_
    refine lv_aload_n hx hb dX6_mtuToSix_20 rfl (lv_at hl 1 rfl) ?_
    refine va_get (D := (dC, dI)) (ci := 5) (v := .int (M 0 13)) (C := RX6) (T := TX6) (N := 17) hx hb hu uX6 hown hK hI.1 0 rfl rfl 13 (by decide) (hu _ uww_237) (fun _ h9 => h9) rfl dX6_mtuToSix_21 ?_
    refine lv_aload_n hx hb dX6_mtuToSix_24 rfl (lv_at hl 1 rfl) ?_
    refine va_get (D := (dC, dI)) (ci := 5) (v := .int (M 0 12)) (C := RX6) (T := TX6) (N := 17) hx hb hu uX6 hown hK hI.1 0 rfl rfl 12 (by decide) (hu _ uww_236) (fun _ h9 => h9) rfl dX6_mtuToSix_25 ?_
    refine lv_bipush (v := (20 : Int32)) hx hb dX6_mtuToSix_28 (by decide) ?_
    refine lv_iadd hx hb dX6_mtuToSix_30 ?_
    refine va_mmin hx hb (hml.trans hl.1.symm) hown (hu _ uww_286) (hu _ uww_42) (hu _ uww_43) (hu _ uww_44) (Nat.le_of_ble_eq_true rfl) (Nat.le_of_ble_eq_true rfl) (Nat.le_of_ble_eq_true rfl) (Nat.le_of_ble_eq_true rfl) dX6_mtuToSix_31 ?_
    refine va_mmin hx hb (hml.trans hl.1.symm) hown (hu _ uww_286) (hu _ uww_42) (hu _ uww_43) (hu _ uww_44) (Nat.le_of_ble_eq_true rfl) (Nat.le_of_ble_eq_true rfl) (Nat.le_of_ble_eq_true rfl) (Nat.le_of_ble_eq_true rfl) dX6_mtuToSix_34 ?_
    refine va_mmax hx hb (hml.trans hl.1.symm) hown (hu _ uww_364) (hu _ uww_365) (hu _ uww_43) (hu _ uww_366) (Nat.le_of_ble_eq_true rfl) (Nat.le_of_ble_eq_true rfl) (Nat.le_of_ble_eq_true rfl) (Nat.le_of_ble_eq_true rfl) dX6_mtuToSix_37 ?_
    exact cpiret (Z := (fun r M' L' => M' = M ∧ L' = L ∧ Z r)) hx hb hr hlocks hK hI dX6_mtuToSix_40 ⟨rfl, rfl, h⟩
  refine lv_if_ne (tgt := 11) hx hb dX6_mtuToSix_1 (by decide) (fun c3 => ?_) (fun c3 => ?_)
  · have h := h.1 c3
    refine lv_iload_n hx hb dX6_mtuToSix_11 rfl (lv_at hl 1 rfl) ?_
    exact J12 p1 _ _ _ h hI (lv_sub hl [0] rfl)
  · have h := h.2 c3
    refine lv_iload_n hx hb dX6_mtuToSix_4 rfl (lv_at hl 2 rfl) ?_
    refine cpcalli_p hsz hI (va_runS (As := [.int p2]) (rest := []) ⟨hx, hb, hml, hown, hu⟩ (met_X6_plateauBelow l dC dI a kA t _ M L p2 _ h) (cwl_X6_353_S hu ⟨by decide, by decide⟩) (cppreS hK hE hsz hI) rfl rfl hl.1 rfl (lv_room (Nat.le_of_ble_eq_true rfl)) dX6_mtuToSix_5 ⟨by decide, by decide⟩) (fun r4 H locs h hI => ?_)
    refine lv_goto (tgt := 12) hx hb dX6_mtuToSix_8 (by decide) ?_
    exact J12 r4 _ _ _ h hI (lv_sub hl [0] rfl)

abbrev rm_X6_entry_t1 : Room := { frames := 0, cells := 0, slots := 0, locals := 0 }
abbrev av_X6_entry_t1 (a t : Nat → Nat) (p1 : Int64) : List Value := [.ref (t 1), .long p1]
abbrev qc_X6_entry_t1 (dC : Nat → ClassId) (dI : Nat → Nat → Nat) (a : Nat → Nat) (kA : Nat → ClassId) (sz : Nat) (M : cM) (L : cL) (Z : Int32 → Prop) : Array Value → State → Outcome → State → Prop := va_Qi (fun r (u : cM × cL) => u.1 = M ∧ u.2 = L ∧ Z r) (cpAt dC dI a kA (cpA a sz)) (cpA a sz)
set_option maxHeartbeats 4000000 in
set_option maxRecDepth 100000 in
theorem met_X6_entry_t1 (l : Launch) (dC : Nat → ClassId) (dI : Nat → Nat → Nat) (a : Nat → Nat) (kA : Nat → ClassId) (t : Nat → Nat) (sz : Nat) (M : cM) (L : cL) (p1 : Int64) (Z : Int32 → Prop) (h : wp_X6_entry_t1 M L p1 Z) : Met l yX6_entry (Cond.code yX6_entry cX6_entry 3 (some .int) :: uW) rm_X6_entry_t1 (va_Pc (av_X6_entry_t1 a t p1) (cpPre dC dI a kA t M L sz)) (qc_X6_entry_t1 dC dI a kA sz M L Z) 0 0 (cpA a sz) := by
  refine cpenter (cc := cX6_entry) (n := 3) (ret := (some .int)) (by decide) rfl (Nat.le_of_ble_eq_true rfl) ?_
  intro p e s m below meth c ls hx hb hml hr hlocks hown hts hK hE hsz hI hl hmn
  have hu : ∀ w ∈ uW, w.before (av_X6_entry_t1 a t p1).toArray s = true := fun w h => hts w (List.mem_cons_of_mem _ h)
  have hown : s.vm.findClass RX6 = some m.cls := hown
  have hl : lv_has ls 3 [(0, .ref (t 1)), (1, .long p1)] := hl
  unfold wp_X6_entry_t1 at h
  refine lv_lload_n hx hb dX6_entry_0 rfl (lv_at hl 1 rfl) ?_
  refine lv_lconst (v := (0 : Int64)) hx hb dX6_entry_1 (by decide) ?_
  refine W.lcmp hx hb dX6_entry_2 ?_
  refine lv_if_lt (tgt := 21) hx hb dX6_entry_3 (by decide) (fun c1 => ?_) (fun c1 => ?_)
  · have h := h.1 c1
    refine lv_iconst (v := (-1 : Int32)) hx hb dX6_entry_21 (by decide) ?_
    exact cpiret (Z := (fun r M' L' => M' = M ∧ L' = L ∧ Z r)) hx hb hr hlocks hK hI dX6_entry_22 ⟨rfl, rfl, h⟩
  · have h := h.2 c1
    refine lv_lload_n hx hb dX6_entry_6 rfl (lv_at hl 1 rfl) ?_
    refine lv_aload_n hx hb dX6_entry_7 rfl (lv_at hl 0 rfl) ?_
    refine va_tlen (v := (20 : Int32)) hx hb hE.2.2.1.2 hI.2.2 (by decide) dX6_entry_8 ?_
    refine lv_i2l hx hb dX6_entry_9 rfl ?_
    refine W.lcmp hx hb dX6_entry_10 ?_
    refine lv_if_ge (tgt := 21) hx hb dX6_entry_11 (by decide) (fun c2 => ?_) (fun c2 => ?_)
    · have h := h.1 c2
      refine lv_iconst (v := (-1 : Int32)) hx hb dX6_entry_21 (by decide) ?_
      exact cpiret (Z := (fun r M' L' => M' = M ∧ L' = L ∧ Z r)) hx hb hr hlocks hK hI dX6_entry_22 ⟨rfl, rfl, h⟩
    · have h := h.2 c2
      refine lv_aload_n hx hb dX6_entry_14 rfl (lv_at hl 0 rfl) ?_
      refine lv_lload_n hx hb dX6_entry_15 rfl (lv_at hl 1 rfl) ?_
      refine lv_l2i hx hb dX6_entry_16 rfl ?_
      refine va_ti hx hb hE.2.2.1.2 hI.2.2 h.1 rfl dX6_entry_17 ?_
      have h := h.2
      refine lv_goto (tgt := 22) hx hb dX6_entry_18 (by decide) ?_
      exact cpiret (Z := (fun r M' L' => M' = M ∧ L' = L ∧ Z r)) hx hb hr hlocks hK hI dX6_entry_22 ⟨rfl, rfl, h⟩

abbrev rm_X6_secondToSix_0_11_12 : Room := { frames := 2, cells := 0, slots := 0, locals := 47 }
abbrev av_X6_secondToSix_0_11_12 (a t : Nat → Nat) (p1 : Int32) : List Value := [.ref (a 0), .int p1, .ref (a 11), .ref (a 12)]
abbrev qc_X6_secondToSix_0_11_12 (dC : Nat → ClassId) (dI : Nat → Nat → Nat) (a : Nat → Nat) (kA : Nat → ClassId) (sz : Nat) (M : cM) (L : cL) (Z : Int32 → Prop) : Array Value → State → Outcome → State → Prop := va_Qi (fun r (u : cM × cL) => u.1 = M ∧ u.2 = L ∧ Z r) (cpAt dC dI a kA (cpA a sz)) (cpA a sz)
set_option maxHeartbeats 4000000 in
set_option maxRecDepth 100000 in
theorem met_X6_secondToSix_0_11_12 (l : Launch) (dC : Nat → ClassId) (dI : Nat → Nat → Nat) (a : Nat → Nat) (kA : Nat → ClassId) (t : Nat → Nat) (sz : Nat) (M : cM) (L : cL) (p1 : Int32) (Z : Int32 → Prop) (h : wp_X6_secondToSix_0_11_12 M L p1 Z) : Met l yX6_secondToSix (Cond.code yX6_secondToSix cX6_secondToSix 4 (some .int) :: uW) rm_X6_secondToSix_0_11_12 (va_Pc (av_X6_secondToSix_0_11_12 a t p1) (cpPre dC dI a kA t M L sz)) (qc_X6_secondToSix_0_11_12 dC dI a kA sz M L Z) 0 0 (cpA a sz) := by
  refine cpenter (cc := cX6_secondToSix) (n := 4) (ret := (some .int)) (by decide) rfl (Nat.le_of_ble_eq_true rfl) ?_
  intro p e s m below meth c ls hx hb hml hr hlocks hown hts hK hE hsz hI hl hmn
  have hu : ∀ w ∈ uW, w.before (av_X6_secondToSix_0_11_12 a t p1).toArray s = true := fun w h => hts w (List.mem_cons_of_mem _ h)
  have hown : s.vm.findClass RX6 = some m.cls := hown
  have hl : lv_has ls 4 [(0, .ref (a 0)), (1, .int p1), (2, .ref (a 11)), (3, .ref (a 12))] := hl
  unfold wp_X6_secondToSix_0_11_12 at h
  refine lv_iload_n hx hb dX6_secondToSix_0 rfl (lv_at hl 1 rfl) ?_
  by_cases c1_0 : p1 = (512 : Int32)
  · have h := h.1 c1_0
    refine lv_lookup (off := 59) (tgt := 60) hx hb dX6_secondToSix_1 (by decide) (by rw [c1_0]; rfl) (by decide) ?_
    refine lv_aload_n hx hb dX6_secondToSix_60 rfl (lv_at hl 0 rfl) ?_
    refine lv_aload_n hx hb dX6_secondToSix_61 rfl (lv_at hl 0 rfl) ?_
    refine va_get (D := (dC, dI)) (ci := 5) (v := .ref (a 1)) (C := RX6) (T := TX6) (N := 17) hx hb hu uX6 hown hK hI.1 0 rfl rfl 0 (by decide) (hu _ uww_213) (fun _ h9 => h9) rfl dX6_secondToSix_62 ?_
    refine lv_aload_n hx hb dX6_secondToSix_65 rfl (lv_at hl 2 rfl) ?_
    refine va_get (D := (dC, dI)) (ci := 0) (v := .int (M 11 7)) (C := RX0) (T := TX0) (N := 18) hx hb hu uX0 hown hK hI.1 11 rfl rfl 7 (by decide) (hu _ uww_275) (u_same (hu _ uww_38)) rfl dX6_secondToSix_66 ?_
    refine lv_bipush (v := (6 : Int32)) hx hb dX6_secondToSix_69 (by decide) ?_
    refine lv_iadd hx hb dX6_secondToSix_71 ?_
    refine cpcalli_p hsz hI (va_runV (As := [.int ((M 11 7) + (6 : Int32))]) (rest := [.ref (a 0)]) ⟨hx, hb, hml, hown, hu⟩ (met_X4_word_1 l dC dI a kA t _ M L ((M 11 7) + (6 : Int32)) _ h) (cwl_X6_272_X4 hu ⟨by decide, by decide⟩) (cppre (ci := 3) hK hE hsz hI rfl rfl) rfl rfl hl.1 rfl (lv_room (Nat.le_of_ble_eq_true rfl)) dX6_secondToSix_72 ⟨by decide, by decide⟩) (fun r1 H locs h hI => ?_)
    refine lv_aload_n hx hb dX6_secondToSix_75 rfl (lv_at hl 3 rfl) ?_
    refine va_getN (D := (dC, dI)) (ci := 0) (v := .int (M 12 15)) (C := RX0) (T := TX0) (N := 18) hx hb hu uX0 hown hK hI.1 12 rfl rfl 15 (by decide) (va_Nw.use rfl (hE.1 _ cpn_10)) (fun _ h9 => h9) rfl dX6_secondToSix_76 ?_
    refine cpcalli_p hsz hI (va_runV (As := [.int r1, .int (M 12 15)]) (rest := []) ⟨hx, hb, hml, hown, hu⟩ (met_X6_mtuToSix_0 l dC dI a kA t _ M L r1 (M 12 15) _ h) (cwl_X6_350_X6 hu ⟨by decide, by decide⟩) (cppre (ci := 5) hK hE hsz hI rfl rfl) rfl rfl hl.1 rfl (lv_room (Nat.le_of_ble_eq_true rfl)) dX6_secondToSix_79 ⟨by decide, by decide⟩) (fun r2 H locs h hI => ?_)
    exact cpiret (Z := (fun r M' L' => M' = M ∧ L' = L ∧ Z r)) hx hb hr hlocks hK hI dX6_secondToSix_82 ⟨rfl, rfl, h⟩
  · have h := h.2 c1_0
    by_cases c1_1 : p1 = (1024 : Int32)
    · have h := h.1 c1_1
      refine lv_lookup (off := 38) (tgt := 39) hx hb dX6_secondToSix_1 (by decide) (by rw [c1_1]; rfl) (by decide) ?_
      refine va_gets hx hb hE.2.2.1.1 hI.2.2 hown (hu _ uww_359) (fun _ h9 => h9) dX6_secondToSix_39 ?_
      refine lv_aload_n hx hb dX6_secondToSix_42 rfl (lv_at hl 0 rfl) ?_
      refine va_get (D := (dC, dI)) (ci := 5) (v := .ref (a 1)) (C := RX6) (T := TX6) (N := 17) hx hb hu uX6 hown hK hI.1 0 rfl rfl 0 (by decide) (hu _ uww_213) (fun _ h9 => h9) rfl dX6_secondToSix_43 ?_
      refine lv_aload_n hx hb dX6_secondToSix_46 rfl (lv_at hl 2 rfl) ?_
      refine va_get (D := (dC, dI)) (ci := 0) (v := .int (M 11 7)) (C := RX0) (T := TX0) (N := 18) hx hb hu uX0 hown hK hI.1 11 rfl rfl 7 (by decide) (hu _ uww_275) (u_same (hu _ uww_38)) rfl dX6_secondToSix_47 ?_
      refine lv_iconst (v := (4 : Int32)) hx hb dX6_secondToSix_50 (by decide) ?_
      refine lv_iadd hx hb dX6_secondToSix_51 ?_
      refine cpcalli_p hsz hI (va_runV (As := [.int ((M 11 7) + (4 : Int32))]) (rest := [.ref (t 1)]) ⟨hx, hb, hml, hown, hu⟩ (met_X4_at_1 l dC dI a kA t _ M L ((M 11 7) + (4 : Int32)) _ h) (cwl_X6_158_X4 hu ⟨by decide, by decide⟩) (cppre (ci := 3) hK hE hsz hI rfl rfl) rfl rfl hl.1 rfl (lv_room (Nat.le_of_ble_eq_true rfl)) dX6_secondToSix_52 ⟨by decide, by decide⟩) (fun r3 H locs h hI => ?_)
      refine lv_i2l hx hb dX6_secondToSix_55 rfl ?_
      refine cpcalli_p hsz hI (va_runS (As := [.ref (t 1), .long (r3.toInt64)]) (rest := []) ⟨hx, hb, hml, hown, hu⟩ (met_X6_entry_t1 l dC dI a kA t _ M L (r3.toInt64) _ h) (cwl_X6_340_S hu ⟨by decide, by decide⟩) (cppreS hK hE hsz hI) rfl rfl hl.1 rfl (lv_room (Nat.le_of_ble_eq_true rfl)) dX6_secondToSix_56 ⟨by decide, by decide⟩) (fun r4 H locs h hI => ?_)
      exact cpiret (Z := (fun r M' L' => M' = M ∧ L' = L ∧ Z r)) hx hb hr hlocks hK hI dX6_secondToSix_59 ⟨rfl, rfl, h⟩
    · have h := h.2 c1_1
      by_cases c1_2 : p1 = (1025 : Int32)
      · have h := h.1 c1_2
        refine lv_lookup (off := 35) (tgt := 36) hx hb dX6_secondToSix_1 (by decide) (by rw [c1_2]; rfl) (by decide) ?_
        refine lv_bipush (v := (6 : Int32)) hx hb dX6_secondToSix_36 (by decide) ?_
        exact cpiret (Z := (fun r M' L' => M' = M ∧ L' = L ∧ Z r)) hx hb hr hlocks hK hI dX6_secondToSix_38 ⟨rfl, rfl, h⟩
      · have h := h.2 c1_2
        refine lv_lookup (off := 82) (tgt := 83) hx hb dX6_secondToSix_1 (by decide) ((lv_osw c1_0 (by decide)).trans ((lv_osw c1_1 (by decide)).trans ((lv_osw c1_2 (by decide)).trans rfl))) (by decide) ?_
        refine lv_iconst (v := (0 : Int32)) hx hb dX6_secondToSix_83 (by decide) ?_
        exact cpiret (Z := (fun r M' L' => M' = M ∧ L' = L ∧ Z r)) hx hb hr hlocks hK hI dX6_secondToSix_84 ⟨rfl, rfl, h⟩

abbrev rm_X6_imageWords_0_12 : Room := { frames := 2, cells := 0, slots := 0, locals := 45 }
abbrev av_X6_imageWords_0_12 (a t : Nat → Nat)  : List Value := [.ref (a 0), .ref (a 12)]
abbrev qc_X6_imageWords_0_12 (dC : Nat → ClassId) (dI : Nat → Nat → Nat) (a : Nat → Nat) (kA : Nat → ClassId) (sz : Nat) (M : cM) (L : cL) (Z : Int64 → Prop) : Array Value → State → Outcome → State → Prop := va_Ql (fun r (u : cM × cL) => u.1 = M ∧ u.2 = L ∧ Z r) (cpAt dC dI a kA (cpA a sz)) (cpA a sz)
set_option maxHeartbeats 4000000 in
set_option maxRecDepth 100000 in
theorem met_X6_imageWords_0_12 (l : Launch) (dC : Nat → ClassId) (dI : Nat → Nat → Nat) (a : Nat → Nat) (kA : Nat → ClassId) (t : Nat → Nat) (sz : Nat) (M : cM) (L : cL)  (Z : Int64 → Prop) (h : wp_X6_imageWords_0_12 M L  Z) : Met l yX6_imageWords (Cond.code yX6_imageWords cX6_imageWords 2 (some .long) :: uW) rm_X6_imageWords_0_12 (va_Pc (av_X6_imageWords_0_12 a t ) (cpPre dC dI a kA t M L sz)) (qc_X6_imageWords_0_12 dC dI a kA sz M L Z) 0 0 (cpA a sz) := by
  refine cpenter (cc := cX6_imageWords) (n := 2) (ret := (some .long)) (by decide) rfl (Nat.le_of_ble_eq_true rfl) ?_
  intro p e s m below meth c ls hx hb hml hr hlocks hown hts hK hE hsz hI hl hmn
  have hu : ∀ w ∈ uW, w.before (av_X6_imageWords_0_12 a t ).toArray s = true := fun w h => hts w (List.mem_cons_of_mem _ h)
  have hown : s.vm.findClass RX6 = some m.cls := hown
  have hl : lv_has ls 2 [(0, .ref (a 0)), (1, .ref (a 12))] := hl
  unfold wp_X6_imageWords_0_12 at h
  refine lv_aload_n hx hb dX6_imageWords_0 rfl (lv_at hl 0 rfl) ?_
  refine va_get (D := (dC, dI)) (ci := 5) (v := .ref (a 10)) (C := RX6) (T := TX6) (N := 17) hx hb hu uX6 hown hK hI.1 0 rfl rfl 3 (by decide) (hu _ uww_221) (fun _ h9 => h9) rfl dX6_imageWords_1 ?_
  refine lv_aload_n hx hb dX6_imageWords_4 rfl (lv_at hl 1 rfl) ?_
  refine va_get (D := (dC, dI)) (ci := 0) (v := .int (M 12 10)) (C := RX0) (T := TX0) (N := 18) hx hb hu uX0 hown hK hI.1 12 rfl rfl 10 (by decide) (hu _ uww_269) (u_same (hu _ uww_32)) rfl dX6_imageWords_5 ?_
  refine cpcalll_p hsz hI (va_runV (As := [.int (M 12 10)]) (rest := []) ⟨hx, hb, hml, hown, hu⟩ (met_X1_upperOf_10 l dC dI a kA t _ M L (M 12 10) _ h) (cwl_X6_179_X1 hu ⟨by decide, by decide⟩) (cppre (ci := 1) hK hE hsz hI rfl rfl) rfl rfl hl.1 rfl (lv_room (Nat.le_of_ble_eq_true rfl)) dX6_imageWords_8 ⟨by decide, by decide⟩) (fun r1 H locs h hI => ?_)
  refine cpcalll_p hsz hI (va_runS (As := [.long r1]) (rest := []) ⟨hx, hb, hml, hown, hu⟩ (met_X6_wordsOf l dC dI a kA t _ M L r1 _ h) (cwl_X6_490_S hu ⟨by decide, by decide⟩) (cppreS hK hE hsz hI) rfl rfl hl.1 rfl (lv_room (Nat.le_of_ble_eq_true rfl)) dX6_imageWords_11 ⟨by decide, by decide⟩) (fun r2 H locs h hI => ?_)
  refine lv_aload_n hx hb dX6_imageWords_14 rfl (lv_at hl 0 rfl) ?_
  refine va_get (D := (dC, dI)) (ci := 5) (v := .ref (a 10)) (C := RX6) (T := TX6) (N := 17) hx hb hu uX6 hown hK hI.1 0 rfl rfl 3 (by decide) (hu _ uww_221) (fun _ h9 => h9) rfl dX6_imageWords_15 ?_
  refine lv_aload_n hx hb dX6_imageWords_18 rfl (lv_at hl 1 rfl) ?_
  refine va_get (D := (dC, dI)) (ci := 0) (v := .int (M 12 10)) (C := RX0) (T := TX0) (N := 18) hx hb hu uX0 hown hK hI.1 12 rfl rfl 10 (by decide) (hu _ uww_269) (u_same (hu _ uww_32)) rfl dX6_imageWords_19 ?_
  refine cpcalll_p hsz hI (va_runV (As := [.int (M 12 10)]) (rest := [.long r2]) ⟨hx, hb, hml, hown, hu⟩ (met_X1_lowerOf_10 l dC dI a kA t _ M L (M 12 10) _ h) (cwl_X6_175_X1 hu ⟨by decide, by decide⟩) (cppre (ci := 1) hK hE hsz hI rfl rfl) rfl rfl hl.1 rfl (lv_room (Nat.le_of_ble_eq_true rfl)) dX6_imageWords_22 ⟨by decide, by decide⟩) (fun r3 H locs h hI => ?_)
  refine cpcalll_p hsz hI (va_runS (As := [.long r3]) (rest := [.long r2]) ⟨hx, hb, hml, hown, hu⟩ (met_X6_wordsOf l dC dI a kA t _ M L r3 _ h) (cwl_X6_490_S hu ⟨by decide, by decide⟩) (cppreS hK hE hsz hI) rfl rfl hl.1 rfl (lv_room (Nat.le_of_ble_eq_true rfl)) dX6_imageWords_25 ⟨by decide, by decide⟩) (fun r4 H locs h hI => ?_)
  refine lv_ladd hx hb dX6_imageWords_28 ?_
  refine lv_aload_n hx hb dX6_imageWords_29 rfl (lv_at hl 0 rfl) ?_
  refine va_get (D := (dC, dI)) (ci := 5) (v := .ref (a 10)) (C := RX6) (T := TX6) (N := 17) hx hb hu uX6 hown hK hI.1 0 rfl rfl 3 (by decide) (hu _ uww_221) (fun _ h9 => h9) rfl dX6_imageWords_30 ?_
  refine lv_aload_n hx hb dX6_imageWords_33 rfl (lv_at hl 1 rfl) ?_
  refine va_get (D := (dC, dI)) (ci := 0) (v := .int (M 12 11)) (C := RX0) (T := TX0) (N := 18) hx hb hu uX0 hown hK hI.1 12 rfl rfl 11 (by decide) (hu _ uww_270) (u_same (hu _ uww_34)) rfl dX6_imageWords_34 ?_
  refine cpcalll_p hsz hI (va_runV (As := [.int (M 12 11)]) (rest := [.long (r2 + r4)]) ⟨hx, hb, hml, hown, hu⟩ (met_X1_upperOf_10 l dC dI a kA t _ M L (M 12 11) _ h) (cwl_X6_179_X1 hu ⟨by decide, by decide⟩) (cppre (ci := 1) hK hE hsz hI rfl rfl) rfl rfl hl.1 rfl (lv_room (Nat.le_of_ble_eq_true rfl)) dX6_imageWords_37 ⟨by decide, by decide⟩) (fun r5 H locs h hI => ?_)
  refine cpcalll_p hsz hI (va_runS (As := [.long r5]) (rest := [.long (r2 + r4)]) ⟨hx, hb, hml, hown, hu⟩ (met_X6_wordsOf l dC dI a kA t _ M L r5 _ h) (cwl_X6_490_S hu ⟨by decide, by decide⟩) (cppreS hK hE hsz hI) rfl rfl hl.1 rfl (lv_room (Nat.le_of_ble_eq_true rfl)) dX6_imageWords_40 ⟨by decide, by decide⟩) (fun r6 H locs h hI => ?_)
  refine lv_ladd hx hb dX6_imageWords_43 ?_
  refine lv_aload_n hx hb dX6_imageWords_44 rfl (lv_at hl 0 rfl) ?_
  refine va_get (D := (dC, dI)) (ci := 5) (v := .ref (a 10)) (C := RX6) (T := TX6) (N := 17) hx hb hu uX6 hown hK hI.1 0 rfl rfl 3 (by decide) (hu _ uww_221) (fun _ h9 => h9) rfl dX6_imageWords_45 ?_
  refine lv_aload_n hx hb dX6_imageWords_48 rfl (lv_at hl 1 rfl) ?_
  refine va_get (D := (dC, dI)) (ci := 0) (v := .int (M 12 11)) (C := RX0) (T := TX0) (N := 18) hx hb hu uX0 hown hK hI.1 12 rfl rfl 11 (by decide) (hu _ uww_270) (u_same (hu _ uww_34)) rfl dX6_imageWords_49 ?_
  refine cpcalll_p hsz hI (va_runV (As := [.int (M 12 11)]) (rest := [.long ((r2 + r4) + r6)]) ⟨hx, hb, hml, hown, hu⟩ (met_X1_lowerOf_10 l dC dI a kA t _ M L (M 12 11) _ h) (cwl_X6_175_X1 hu ⟨by decide, by decide⟩) (cppre (ci := 1) hK hE hsz hI rfl rfl) rfl rfl hl.1 rfl (lv_room (Nat.le_of_ble_eq_true rfl)) dX6_imageWords_52 ⟨by decide, by decide⟩) (fun r7 H locs h hI => ?_)
  refine cpcalll_p hsz hI (va_runS (As := [.long r7]) (rest := [.long ((r2 + r4) + r6)]) ⟨hx, hb, hml, hown, hu⟩ (met_X6_wordsOf l dC dI a kA t _ M L r7 _ h) (cwl_X6_490_S hu ⟨by decide, by decide⟩) (cppreS hK hE hsz hI) rfl rfl hl.1 rfl (lv_room (Nat.le_of_ble_eq_true rfl)) dX6_imageWords_55 ⟨by decide, by decide⟩) (fun r8 H locs h hI => ?_)
  refine lv_ladd hx hb dX6_imageWords_58 ?_
  exact cplret (Z := (fun r M' L' => M' = M ∧ L' = L ∧ Z r)) hx hb hr hlocks hK hI dX6_imageWords_59 ⟨rfl, rfl, h⟩

abbrev rm_X0_fragmentHeader_12 : Room := { frames := 1, cells := 0, slots := 0, locals := 20 }
abbrev av_X0_fragmentHeader_12 (a t : Nat → Nat)  : List Value := [.ref (a 12)]
abbrev qc_X0_fragmentHeader_12 (dC : Nat → ClassId) (dI : Nat → Nat → Nat) (a : Nat → Nat) (kA : Nat → ClassId) (sz : Nat) (M : cM) (L : cL) (Z : Int32 → Prop) : Array Value → State → Outcome → State → Prop := va_Qi (fun r (u : cM × cL) => u.1 = M ∧ u.2 = L ∧ Z r) (cpAt dC dI a kA (cpA a sz)) (cpA a sz)
set_option maxHeartbeats 4000000 in
set_option maxRecDepth 100000 in
theorem met_X0_fragmentHeader_12 (l : Launch) (dC : Nat → ClassId) (dI : Nat → Nat → Nat) (a : Nat → Nat) (kA : Nat → ClassId) (t : Nat → Nat) (sz : Nat) (M : cM) (L : cL)  (Z : Int32 → Prop) (h : wp_X0_fragmentHeader_12 M L  Z) : Met l yX0_fragmentHeader (Cond.code yX0_fragmentHeader cX0_fragmentHeader 1 (some .int) :: uW) rm_X0_fragmentHeader_12 (va_Pc (av_X0_fragmentHeader_12 a t ) (cpPre dC dI a kA t M L sz)) (qc_X0_fragmentHeader_12 dC dI a kA sz M L Z) 0 0 (cpA a sz) := by
  refine cpenter (cc := cX0_fragmentHeader) (n := 1) (ret := (some .int)) (by decide) rfl (Nat.le_of_ble_eq_true rfl) ?_
  intro p e s m below meth c ls hx hb hml hr hlocks hown hts hK hE hsz hI hl hmn
  have hu : ∀ w ∈ uW, w.before (av_X0_fragmentHeader_12 a t ).toArray s = true := fun w h => hts w (List.mem_cons_of_mem _ h)
  have hown : s.vm.findClass RX0 = some m.cls := hown
  have hl : lv_has ls 1 [(0, .ref (a 12))] := hl
  unfold wp_X0_fragmentHeader_12 at h
  refine lv_aload_n hx hb dX0_fragmentHeader_0 rfl (lv_at hl 0 rfl) ?_
  refine cpcalli_p hsz hI (va_runU (As := []) (rest := []) ⟨hx, hb, hml, hown, hu⟩ (met_X2_fragment_12 l dC dI a kA t _ M L  _ h) (cwl_X0_104_X0 hu ⟨by decide, by decide⟩) (cppre (ci := 0) hK hE hsz hI rfl rfl) rfl rfl hl.1 rfl (lv_room (Nat.le_of_ble_eq_true rfl)) dX0_fragmentHeader_1 ⟨by decide, by decide⟩) (fun r1 H locs h hI => ?_)
  refine lv_if_eq (tgt := 12) hx hb dX0_fragmentHeader_4 (by decide) (fun c2 => ?_) (fun c2 => ?_)
  · have h := h.1 c2
    refine lv_iconst (v := (0 : Int32)) hx hb dX0_fragmentHeader_12 (by decide) ?_
    exact cpiret (Z := (fun r M' L' => M' = M ∧ L' = L ∧ Z r)) hx hb hr hlocks hK hI dX0_fragmentHeader_13 ⟨rfl, rfl, h⟩
  · have h := h.2 c2
    refine lv_bipush (v := (8 : Int32)) hx hb dX0_fragmentHeader_7 (by decide) ?_
    refine lv_goto (tgt := 13) hx hb dX0_fragmentHeader_9 (by decide) ?_
    exact cpiret (Z := (fun r M' L' => M' = M ∧ L' = L ∧ Z r)) hx hb hr hlocks hK hI dX0_fragmentHeader_13 ⟨rfl, rfl, h⟩

abbrev rm_X6_putSixHeader_0_3_12 : Room := { frames := 2, cells := 0, slots := 0, locals := 45 }
abbrev av_X6_putSixHeader_0_3_12 (a t : Nat → Nat) (p2 : Int32) (p4 : Int32) (p5 : Int32) (p6 : Int32) : List Value := [.ref (a 0), .ref (a 3), .int p2, .ref (a 12), .int p4, .int p5, .int p6]
abbrev qc_X6_putSixHeader_0_3_12 (dC : Nat → ClassId) (dI : Nat → Nat → Nat) (a : Nat → Nat) (kA : Nat → ClassId) (sz : Nat) (M : cM) (L : cL) (Z : cM → Prop) : Array Value → State → Outcome → State → Prop := va_Qv (fun (u : cM × cL) => u.2 = L ∧ Z u.1) (cpAt dC dI a kA (cpA a sz)) (cpA a sz)
set_option maxHeartbeats 4000000 in
set_option maxRecDepth 100000 in
theorem met_X6_putSixHeader_0_3_12 (l : Launch) (dC : Nat → ClassId) (dI : Nat → Nat → Nat) (a : Nat → Nat) (kA : Nat → ClassId) (t : Nat → Nat) (sz : Nat) (M : cM) (L : cL) (p2 : Int32) (p4 : Int32) (p5 : Int32) (p6 : Int32) (Z : cM → Prop) (h : wp_X6_putSixHeader_0_3_12 M L p2 p4 p5 p6 Z) : Met l yX6_putSixHeader (Cond.code yX6_putSixHeader cX6_putSixHeader 7 none :: uW) rm_X6_putSixHeader_0_3_12 (va_Pc (av_X6_putSixHeader_0_3_12 a t p2 p4 p5 p6) (cpPre dC dI a kA t M L sz)) (qc_X6_putSixHeader_0_3_12 dC dI a kA sz M L Z) 0 0 (cpA a sz) := by
  refine cpenter (cc := cX6_putSixHeader) (n := 7) (ret := none) (by decide) rfl (Nat.le_of_ble_eq_true rfl) ?_
  intro p e s m below meth c ls hx hb hml hr hlocks hown hts hK hE hsz hI hl hmn
  have hu : ∀ w ∈ uW, w.before (av_X6_putSixHeader_0_3_12 a t p2 p4 p5 p6).toArray s = true := fun w h => hts w (List.mem_cons_of_mem _ h)
  have hown : s.vm.findClass RX6 = some m.cls := hown
  have hl : lv_has ls 7 [(0, .ref (a 0)), (1, .ref (a 3)), (2, .int p2), (3, .ref (a 12)), (4, .int p4), (5, .int p5), (6, .int p6)] := hl
  unfold wp_X6_putSixHeader_0_3_12 at h
  refine lv_aload_n hx hb dX6_putSixHeader_0 rfl (lv_at hl 1 rfl) ?_
  refine lv_iload_n hx hb dX6_putSixHeader_1 rfl (lv_at hl 2 rfl) ?_
  refine lv_iconst (v := (4 : Int32)) hx hb dX6_putSixHeader_2 (by decide) ?_
  refine lv_ldc2 (own := RX6) (v := (1610612736 : Int64)) hx hb hown (hu _ uww_383) dX6_putSixHeader_3 ?_
  refine lv_aload_n hx hb dX6_putSixHeader_6 rfl (lv_at hl 0 rfl) ?_
  refine va_get (D := (dC, dI)) (ci := 5) (v := .int (M 0 14)) (C := RX6) (T := TX6) (N := 17) hx hb hu uX6 hown hK hI.1 0 rfl rfl 14 (by decide) (hu _ uww_238) (fun _ h9 => h9) rfl dX6_putSixHeader_7 ?_
  obtain ⟨K24, hK24, h⟩ := h
  have J24 : ∀ (v1 : Int32) (H : Heap) (locs : List Loc) (ls : Array Slot), K24 v1 → cpI dC dI a kA (cpA a sz) s M L H locs → lv_has ls 7 [(0, .ref (a 0)), (1, .ref (a 3)), (2, .int p2), (3, .ref (a 12)), (4, .int p4), (5, .int p5), (6, .int p6)] → W p l e rm_X6_putSixHeader_0_3_12 s m (av_X6_putSixHeader_0_3_12 a t p2 p4 p5 p6).toArray below meth c H locs 0 0 (MQ below (qc_X6_putSixHeader_0_3_12 dC dI a kA sz M L Z) (av_X6_putSixHeader_0_3_12 a t p2 p4 p5 p6).toArray s 0 0 (cpA a sz)) (F0 m 24 ls [.int v1, .long (1610612736 : Int64), .int (4 : Int32), .int p2, .ref (a 3)]) := by
    intro v1 H locs ls h hI hl
    have h := hK24 v1 h
    refine lv_i2l hx hb dX6_putSixHeader_24 rfl ?_
    refine lv_lor hx hb dX6_putSixHeader_25 ?_
    refine cpcallv_m hsz hI (va_runV (As := [.int p2, .int (4 : Int32), .long ((1610612736 : Int64) ||| (v1.toInt64))]) (rest := []) ⟨hx, hb, hml, hown, hu⟩ (met_X4_put_3 l dC dI a kA t _ M L p2 (4 : Int32) ((1610612736 : Int64) ||| (v1.toInt64)) _ h) (cwl_X6_99_X4 hu ⟨by decide, by decide⟩) (cppre (ci := 3) hK hE hsz hI rfl rfl) rfl rfl hl.1 rfl (lv_room (Nat.le_of_ble_eq_true rfl)) dX6_putSixHeader_26 ⟨by decide, by decide⟩) (fun M2 H locs h hI => ?_)
    refine lv_aload_n hx hb dX6_putSixHeader_29 rfl (lv_at hl 1 rfl) ?_
    refine lv_iload_n hx hb dX6_putSixHeader_30 rfl (lv_at hl 2 rfl) ?_
    refine lv_iconst (v := (4 : Int32)) hx hb dX6_putSixHeader_31 (by decide) ?_
    refine lv_iadd hx hb dX6_putSixHeader_32 ?_
    refine lv_iconst (v := (2 : Int32)) hx hb dX6_putSixHeader_33 (by decide) ?_
    refine lv_iload hx hb dX6_putSixHeader_34 (lv_at hl 4 rfl) ?_
    refine lv_i2l hx hb dX6_putSixHeader_36 rfl ?_
    refine cpcallv_m hsz hI (va_runV (As := [.int (p2 + (4 : Int32)), .int (2 : Int32), .long (p4.toInt64)]) (rest := []) ⟨hx, hb, hml, hown, hu⟩ (met_X4_put_3 l dC dI a kA t _ M2 L (p2 + (4 : Int32)) (2 : Int32) (p4.toInt64) _ h) (cwl_X6_99_X4 hu ⟨by decide, by decide⟩) (cppre (ci := 3) hK hE hsz hI rfl rfl) rfl rfl hl.1 rfl (lv_room (Nat.le_of_ble_eq_true rfl)) dX6_putSixHeader_37 ⟨by decide, by decide⟩) (fun M3 H locs h hI => ?_)
    refine lv_aload_n hx hb dX6_putSixHeader_40 rfl (lv_at hl 1 rfl) ?_
    refine lv_iload_n hx hb dX6_putSixHeader_41 rfl (lv_at hl 2 rfl) ?_
    refine lv_bipush (v := (6 : Int32)) hx hb dX6_putSixHeader_42 (by decide) ?_
    refine lv_iadd hx hb dX6_putSixHeader_44 ?_
    refine lv_iconst (v := (1 : Int32)) hx hb dX6_putSixHeader_45 (by decide) ?_
    refine lv_iload hx hb dX6_putSixHeader_46 (lv_at hl 5 rfl) ?_
    refine lv_i2l hx hb dX6_putSixHeader_48 rfl ?_
    refine cpcallv_m hsz hI (va_runV (As := [.int (p2 + (6 : Int32)), .int (1 : Int32), .long (p5.toInt64)]) (rest := []) ⟨hx, hb, hml, hown, hu⟩ (met_X4_put_3 l dC dI a kA t _ M3 L (p2 + (6 : Int32)) (1 : Int32) (p5.toInt64) _ h) (cwl_X6_99_X4 hu ⟨by decide, by decide⟩) (cppre (ci := 3) hK hE hsz hI rfl rfl) rfl rfl hl.1 rfl (lv_room (Nat.le_of_ble_eq_true rfl)) dX6_putSixHeader_49 ⟨by decide, by decide⟩) (fun M4 H locs h hI => ?_)
    refine lv_aload_n hx hb dX6_putSixHeader_52 rfl (lv_at hl 1 rfl) ?_
    refine lv_iload_n hx hb dX6_putSixHeader_53 rfl (lv_at hl 2 rfl) ?_
    refine lv_bipush (v := (7 : Int32)) hx hb dX6_putSixHeader_54 (by decide) ?_
    refine lv_iadd hx hb dX6_putSixHeader_56 ?_
    refine lv_iconst (v := (1 : Int32)) hx hb dX6_putSixHeader_57 (by decide) ?_
    refine lv_iload hx hb dX6_putSixHeader_58 (lv_at hl 6 rfl) ?_
    refine lv_i2l hx hb dX6_putSixHeader_60 rfl ?_
    refine cpcallv_m hsz hI (va_runV (As := [.int (p2 + (7 : Int32)), .int (1 : Int32), .long (p6.toInt64)]) (rest := []) ⟨hx, hb, hml, hown, hu⟩ (met_X4_put_3 l dC dI a kA t _ M4 L (p2 + (7 : Int32)) (1 : Int32) (p6.toInt64) _ h) (cwl_X6_99_X4 hu ⟨by decide, by decide⟩) (cppre (ci := 3) hK hE hsz hI rfl rfl) rfl rfl hl.1 rfl (lv_room (Nat.le_of_ble_eq_true rfl)) dX6_putSixHeader_61 ⟨by decide, by decide⟩) (fun M5 H locs h hI => ?_)
    refine lv_aload_n hx hb dX6_putSixHeader_64 rfl (lv_at hl 1 rfl) ?_
    refine lv_iload_n hx hb dX6_putSixHeader_65 rfl (lv_at hl 2 rfl) ?_
    refine lv_bipush (v := (8 : Int32)) hx hb dX6_putSixHeader_66 (by decide) ?_
    refine lv_iadd hx hb dX6_putSixHeader_68 ?_
    refine lv_bipush (v := (8 : Int32)) hx hb dX6_putSixHeader_69 (by decide) ?_
    refine lv_aload_n hx hb dX6_putSixHeader_71 rfl (lv_at hl 0 rfl) ?_
    refine va_get (D := (dC, dI)) (ci := 5) (v := .ref (a 10)) (C := RX6) (T := TX6) (N := 17) hx hb hu uX6 hown hK hI.1 0 rfl rfl 3 (by decide) (hu _ uww_221) (fun _ h9 => h9) rfl dX6_putSixHeader_72 ?_
    refine lv_aload_n hx hb dX6_putSixHeader_75 rfl (lv_at hl 3 rfl) ?_
    refine va_get (D := (dC, dI)) (ci := 0) (v := .int (M5 12 10)) (C := RX0) (T := TX0) (N := 18) hx hb hu uX0 hown hK hI.1 12 rfl rfl 10 (by decide) (hu _ uww_269) (u_same (hu _ uww_32)) rfl dX6_putSixHeader_76 ?_
    refine cpcalll_p hsz hI (va_runV (As := [.int (M5 12 10)]) (rest := [.int (8 : Int32), .int (p2 + (8 : Int32)), .ref (a 3)]) ⟨hx, hb, hml, hown, hu⟩ (met_X1_upperOf_10 l dC dI a kA t _ M5 L (M5 12 10) _ h) (cwl_X6_179_X1 hu ⟨by decide, by decide⟩) (cppre (ci := 1) hK hE hsz hI rfl rfl) rfl rfl hl.1 rfl (lv_room (Nat.le_of_ble_eq_true rfl)) dX6_putSixHeader_79 ⟨by decide, by decide⟩) (fun r6 H locs h hI => ?_)
    refine cpcallv_m hsz hI (va_runV (As := [.int (p2 + (8 : Int32)), .int (8 : Int32), .long r6]) (rest := []) ⟨hx, hb, hml, hown, hu⟩ (met_X4_put_3 l dC dI a kA t _ M5 L (p2 + (8 : Int32)) (8 : Int32) r6 _ h) (cwl_X6_99_X4 hu ⟨by decide, by decide⟩) (cppre (ci := 3) hK hE hsz hI rfl rfl) rfl rfl hl.1 rfl (lv_room (Nat.le_of_ble_eq_true rfl)) dX6_putSixHeader_82 ⟨by decide, by decide⟩) (fun M7 H locs h hI => ?_)
    refine lv_aload_n hx hb dX6_putSixHeader_85 rfl (lv_at hl 1 rfl) ?_
    refine lv_iload_n hx hb dX6_putSixHeader_86 rfl (lv_at hl 2 rfl) ?_
    refine lv_bipush (v := (16 : Int32)) hx hb dX6_putSixHeader_87 (by decide) ?_
    refine lv_iadd hx hb dX6_putSixHeader_89 ?_
    refine lv_bipush (v := (8 : Int32)) hx hb dX6_putSixHeader_90 (by decide) ?_
    refine lv_aload_n hx hb dX6_putSixHeader_92 rfl (lv_at hl 0 rfl) ?_
    refine va_get (D := (dC, dI)) (ci := 5) (v := .ref (a 10)) (C := RX6) (T := TX6) (N := 17) hx hb hu uX6 hown hK hI.1 0 rfl rfl 3 (by decide) (hu _ uww_221) (fun _ h9 => h9) rfl dX6_putSixHeader_93 ?_
    refine lv_aload_n hx hb dX6_putSixHeader_96 rfl (lv_at hl 3 rfl) ?_
    refine va_get (D := (dC, dI)) (ci := 0) (v := .int (M7 12 10)) (C := RX0) (T := TX0) (N := 18) hx hb hu uX0 hown hK hI.1 12 rfl rfl 10 (by decide) (hu _ uww_269) (u_same (hu _ uww_32)) rfl dX6_putSixHeader_97 ?_
    refine cpcalll_p hsz hI (va_runV (As := [.int (M7 12 10)]) (rest := [.int (8 : Int32), .int (p2 + (16 : Int32)), .ref (a 3)]) ⟨hx, hb, hml, hown, hu⟩ (met_X1_lowerOf_10 l dC dI a kA t _ M7 L (M7 12 10) _ h) (cwl_X6_175_X1 hu ⟨by decide, by decide⟩) (cppre (ci := 1) hK hE hsz hI rfl rfl) rfl rfl hl.1 rfl (lv_room (Nat.le_of_ble_eq_true rfl)) dX6_putSixHeader_100 ⟨by decide, by decide⟩) (fun r8 H locs h hI => ?_)
    refine cpcallv_m hsz hI (va_runV (As := [.int (p2 + (16 : Int32)), .int (8 : Int32), .long r8]) (rest := []) ⟨hx, hb, hml, hown, hu⟩ (met_X4_put_3 l dC dI a kA t _ M7 L (p2 + (16 : Int32)) (8 : Int32) r8 _ h) (cwl_X6_99_X4 hu ⟨by decide, by decide⟩) (cppre (ci := 3) hK hE hsz hI rfl rfl) rfl rfl hl.1 rfl (lv_room (Nat.le_of_ble_eq_true rfl)) dX6_putSixHeader_103 ⟨by decide, by decide⟩) (fun M9 H locs h hI => ?_)
    refine lv_aload_n hx hb dX6_putSixHeader_106 rfl (lv_at hl 1 rfl) ?_
    refine lv_iload_n hx hb dX6_putSixHeader_107 rfl (lv_at hl 2 rfl) ?_
    refine lv_bipush (v := (24 : Int32)) hx hb dX6_putSixHeader_108 (by decide) ?_
    refine lv_iadd hx hb dX6_putSixHeader_110 ?_
    refine lv_bipush (v := (8 : Int32)) hx hb dX6_putSixHeader_111 (by decide) ?_
    refine lv_aload_n hx hb dX6_putSixHeader_113 rfl (lv_at hl 0 rfl) ?_
    refine va_get (D := (dC, dI)) (ci := 5) (v := .ref (a 10)) (C := RX6) (T := TX6) (N := 17) hx hb hu uX6 hown hK hI.1 0 rfl rfl 3 (by decide) (hu _ uww_221) (fun _ h9 => h9) rfl dX6_putSixHeader_114 ?_
    refine lv_aload_n hx hb dX6_putSixHeader_117 rfl (lv_at hl 3 rfl) ?_
    refine va_get (D := (dC, dI)) (ci := 0) (v := .int (M9 12 11)) (C := RX0) (T := TX0) (N := 18) hx hb hu uX0 hown hK hI.1 12 rfl rfl 11 (by decide) (hu _ uww_270) (u_same (hu _ uww_34)) rfl dX6_putSixHeader_118 ?_
    refine cpcalll_p hsz hI (va_runV (As := [.int (M9 12 11)]) (rest := [.int (8 : Int32), .int (p2 + (24 : Int32)), .ref (a 3)]) ⟨hx, hb, hml, hown, hu⟩ (met_X1_upperOf_10 l dC dI a kA t _ M9 L (M9 12 11) _ h) (cwl_X6_179_X1 hu ⟨by decide, by decide⟩) (cppre (ci := 1) hK hE hsz hI rfl rfl) rfl rfl hl.1 rfl (lv_room (Nat.le_of_ble_eq_true rfl)) dX6_putSixHeader_121 ⟨by decide, by decide⟩) (fun r10 H locs h hI => ?_)
    refine cpcallv_m hsz hI (va_runV (As := [.int (p2 + (24 : Int32)), .int (8 : Int32), .long r10]) (rest := []) ⟨hx, hb, hml, hown, hu⟩ (met_X4_put_3 l dC dI a kA t _ M9 L (p2 + (24 : Int32)) (8 : Int32) r10 _ h) (cwl_X6_99_X4 hu ⟨by decide, by decide⟩) (cppre (ci := 3) hK hE hsz hI rfl rfl) rfl rfl hl.1 rfl (lv_room (Nat.le_of_ble_eq_true rfl)) dX6_putSixHeader_124 ⟨by decide, by decide⟩) (fun M11 H locs h hI => ?_)
    refine lv_aload_n hx hb dX6_putSixHeader_127 rfl (lv_at hl 1 rfl) ?_
    refine lv_iload_n hx hb dX6_putSixHeader_128 rfl (lv_at hl 2 rfl) ?_
    refine lv_bipush (v := (32 : Int32)) hx hb dX6_putSixHeader_129 (by decide) ?_
    refine lv_iadd hx hb dX6_putSixHeader_131 ?_
    refine lv_bipush (v := (8 : Int32)) hx hb dX6_putSixHeader_132 (by decide) ?_
    refine lv_aload_n hx hb dX6_putSixHeader_134 rfl (lv_at hl 0 rfl) ?_
    refine va_get (D := (dC, dI)) (ci := 5) (v := .ref (a 10)) (C := RX6) (T := TX6) (N := 17) hx hb hu uX6 hown hK hI.1 0 rfl rfl 3 (by decide) (hu _ uww_221) (fun _ h9 => h9) rfl dX6_putSixHeader_135 ?_
    refine lv_aload_n hx hb dX6_putSixHeader_138 rfl (lv_at hl 3 rfl) ?_
    refine va_get (D := (dC, dI)) (ci := 0) (v := .int (M11 12 11)) (C := RX0) (T := TX0) (N := 18) hx hb hu uX0 hown hK hI.1 12 rfl rfl 11 (by decide) (hu _ uww_270) (u_same (hu _ uww_34)) rfl dX6_putSixHeader_139 ?_
    refine cpcalll_p hsz hI (va_runV (As := [.int (M11 12 11)]) (rest := [.int (8 : Int32), .int (p2 + (32 : Int32)), .ref (a 3)]) ⟨hx, hb, hml, hown, hu⟩ (met_X1_lowerOf_10 l dC dI a kA t _ M11 L (M11 12 11) _ h) (cwl_X6_175_X1 hu ⟨by decide, by decide⟩) (cppre (ci := 1) hK hE hsz hI rfl rfl) rfl rfl hl.1 rfl (lv_room (Nat.le_of_ble_eq_true rfl)) dX6_putSixHeader_142 ⟨by decide, by decide⟩) (fun r12 H locs h hI => ?_)
    refine cpcallv_m hsz hI (va_runV (As := [.int (p2 + (32 : Int32)), .int (8 : Int32), .long r12]) (rest := []) ⟨hx, hb, hml, hown, hu⟩ (met_X4_put_3 l dC dI a kA t _ M11 L (p2 + (32 : Int32)) (8 : Int32) r12 _ h) (cwl_X6_99_X4 hu ⟨by decide, by decide⟩) (cppre (ci := 3) hK hE hsz hI rfl rfl) rfl rfl hl.1 rfl (lv_room (Nat.le_of_ble_eq_true rfl)) dX6_putSixHeader_145 ⟨by decide, by decide⟩) (fun M13 H locs h hI => ?_)
    exact cpvret (Z := (fun M' L' => L' = L ∧ Z M')) hx hb hr hlocks hK hI dX6_putSixHeader_148 ⟨rfl, h⟩
  refine lv_if_eq (tgt := 23) hx hb dX6_putSixHeader_10 (by decide) (fun c14 => ?_) (fun c14 => ?_)
  · have h := h.1 c14
    refine lv_iconst (v := (0 : Int32)) hx hb dX6_putSixHeader_23 (by decide) ?_
    exact J24 (0 : Int32) _ _ _ h hI (lv_sub hl [0, 1, 2, 3, 4, 5, 6] rfl)
  · have h := h.2 c14
    refine lv_aload_n hx hb dX6_putSixHeader_13 rfl (lv_at hl 3 rfl) ?_
    refine va_get (D := (dC, dI)) (ci := 0) (v := .int (M 12 1)) (C := RX0) (T := TX0) (N := 18) hx hb hu uX0 hown hK hI.1 12 rfl rfl 1 (by decide) (hu _ uww_384) (u_same (hu _ uww_19)) rfl dX6_putSixHeader_14 ?_
    refine lv_bipush (v := (20 : Int32)) hx hb dX6_putSixHeader_17 (by decide) ?_
    refine lv_ishl hx hb dX6_putSixHeader_19 ?_
    refine lv_goto (tgt := 24) hx hb dX6_putSixHeader_20 (by decide) ?_
    exact J24 ((M 12 1) <<< ((20 : Int32) &&& 31)) _ _ _ h hI (lv_sub hl [0, 1, 2, 3, 4, 5, 6] rfl)

abbrev rm_X6_putFragmentHeader_3 : Room := { frames := 1, cells := 0, slots := 0, locals := 26 }
abbrev av_X6_putFragmentHeader_3 (a t : Nat → Nat) (p1 : Int32) (p2 : Int32) (p3 : Int32) (p4 : Int32) (p5 : Int32) : List Value := [.ref (a 3), .int p1, .int p2, .int p3, .int p4, .int p5]
abbrev qc_X6_putFragmentHeader_3 (dC : Nat → ClassId) (dI : Nat → Nat → Nat) (a : Nat → Nat) (kA : Nat → ClassId) (sz : Nat) (M : cM) (L : cL) (Z : cM → Prop) : Array Value → State → Outcome → State → Prop := va_Qv (fun (u : cM × cL) => u.2 = L ∧ Z u.1) (cpAt dC dI a kA (cpA a sz)) (cpA a sz)
set_option maxHeartbeats 4000000 in
set_option maxRecDepth 100000 in
theorem met_X6_putFragmentHeader_3 (l : Launch) (dC : Nat → ClassId) (dI : Nat → Nat → Nat) (a : Nat → Nat) (kA : Nat → ClassId) (t : Nat → Nat) (sz : Nat) (M : cM) (L : cL) (p1 : Int32) (p2 : Int32) (p3 : Int32) (p4 : Int32) (p5 : Int32) (Z : cM → Prop) (h : wp_X6_putFragmentHeader_3 M L p1 p2 p3 p4 p5 Z) : Met l yX6_putFragmentHeader (Cond.code yX6_putFragmentHeader cX6_putFragmentHeader 6 none :: uW) rm_X6_putFragmentHeader_3 (va_Pc (av_X6_putFragmentHeader_3 a t p1 p2 p3 p4 p5) (cpPre dC dI a kA t M L sz)) (qc_X6_putFragmentHeader_3 dC dI a kA sz M L Z) 0 0 (cpA a sz) := by
  refine cpenter (cc := cX6_putFragmentHeader) (n := 6) (ret := none) (by decide) rfl (Nat.le_of_ble_eq_true rfl) ?_
  intro p e s m below meth c ls hx hb hml hr hlocks hown hts hK hE hsz hI hl hmn
  have hu : ∀ w ∈ uW, w.before (av_X6_putFragmentHeader_3 a t p1 p2 p3 p4 p5).toArray s = true := fun w h => hts w (List.mem_cons_of_mem _ h)
  have hown : s.vm.findClass RX6 = some m.cls := hown
  have hl : lv_has ls 6 [(0, .ref (a 3)), (1, .int p1), (2, .int p2), (3, .int p3), (4, .int p4), (5, .int p5)] := hl
  unfold wp_X6_putFragmentHeader_3 at h
  refine lv_aload_n hx hb dX6_putFragmentHeader_0 rfl (lv_at hl 0 rfl) ?_
  refine lv_iload_n hx hb dX6_putFragmentHeader_1 rfl (lv_at hl 1 rfl) ?_
  refine lv_iconst (v := (2 : Int32)) hx hb dX6_putFragmentHeader_2 (by decide) ?_
  refine lv_iload_n hx hb dX6_putFragmentHeader_3 rfl (lv_at hl 2 rfl) ?_
  refine lv_bipush (v := (8 : Int32)) hx hb dX6_putFragmentHeader_4 (by decide) ?_
  refine lv_ishl hx hb dX6_putFragmentHeader_6 ?_
  refine lv_i2l hx hb dX6_putFragmentHeader_7 rfl ?_
  refine cpcallv_m hsz hI (va_runV (As := [.int p1, .int (2 : Int32), .long ((p2 <<< ((8 : Int32) &&& 31)).toInt64)]) (rest := []) ⟨hx, hb, hml, hown, hu⟩ (met_X4_put_3 l dC dI a kA t _ M L p1 (2 : Int32) ((p2 <<< ((8 : Int32) &&& 31)).toInt64) _ h) (cwl_X6_99_X4 hu ⟨by decide, by decide⟩) (cppre (ci := 3) hK hE hsz hI rfl rfl) rfl rfl hl.1 rfl (lv_room (Nat.le_of_ble_eq_true rfl)) dX6_putFragmentHeader_8 ⟨by decide, by decide⟩) (fun M1 H locs h hI => ?_)
  refine lv_aload_n hx hb dX6_putFragmentHeader_11 rfl (lv_at hl 0 rfl) ?_
  refine lv_iload_n hx hb dX6_putFragmentHeader_12 rfl (lv_at hl 1 rfl) ?_
  refine lv_iconst (v := (2 : Int32)) hx hb dX6_putFragmentHeader_13 (by decide) ?_
  refine lv_iadd hx hb dX6_putFragmentHeader_14 ?_
  refine lv_iconst (v := (2 : Int32)) hx hb dX6_putFragmentHeader_15 (by decide) ?_
  refine lv_iload_n hx hb dX6_putFragmentHeader_16 rfl (lv_at hl 3 rfl) ?_
  refine lv_iconst (v := (3 : Int32)) hx hb dX6_putFragmentHeader_17 (by decide) ?_
  refine lv_ishl hx hb dX6_putFragmentHeader_18 ?_
  refine lv_iload hx hb dX6_putFragmentHeader_19 (lv_at hl 4 rfl) ?_
  obtain ⟨K29, hK29, h⟩ := h
  have J29 : ∀ (v2 : Int32) (H : Heap) (locs : List Loc) (ls : Array Slot), K29 v2 → cpI dC dI a kA (cpA a sz) s M1 L H locs → lv_has ls 6 [(0, .ref (a 3)), (1, .int p1), (5, .int p5)] → W p l e rm_X6_putFragmentHeader_3 s m (av_X6_putFragmentHeader_3 a t p1 p2 p3 p4 p5).toArray below meth c H locs 0 0 (MQ below (qc_X6_putFragmentHeader_3 dC dI a kA sz M L Z) (av_X6_putFragmentHeader_3 a t p1 p2 p3 p4 p5).toArray s 0 0 (cpA a sz)) (F0 m 29 ls [.int v2, .int (p3 <<< ((3 : Int32) &&& 31)), .int (2 : Int32), .int (p1 + (2 : Int32)), .ref (a 3)]) := by
    intro v2 H locs ls h hI hl
    have h := hK29 v2 h
    refine lv_ior hx hb dX6_putFragmentHeader_29 ?_
    refine lv_i2l hx hb dX6_putFragmentHeader_30 rfl ?_
    refine cpcallv_m hsz hI (va_runV (As := [.int (p1 + (2 : Int32)), .int (2 : Int32), .long (((p3 <<< ((3 : Int32) &&& 31)) ||| v2).toInt64)]) (rest := []) ⟨hx, hb, hml, hown, hu⟩ (met_X4_put_3 l dC dI a kA t _ M1 L (p1 + (2 : Int32)) (2 : Int32) (((p3 <<< ((3 : Int32) &&& 31)) ||| v2).toInt64) _ h) (cwl_X6_99_X4 hu ⟨by decide, by decide⟩) (cppre (ci := 3) hK hE hsz hI rfl rfl) rfl rfl hl.1 rfl (lv_room (Nat.le_of_ble_eq_true rfl)) dX6_putFragmentHeader_31 ⟨by decide, by decide⟩) (fun M3 H locs h hI => ?_)
    refine lv_aload_n hx hb dX6_putFragmentHeader_34 rfl (lv_at hl 0 rfl) ?_
    refine lv_iload_n hx hb dX6_putFragmentHeader_35 rfl (lv_at hl 1 rfl) ?_
    refine lv_iconst (v := (4 : Int32)) hx hb dX6_putFragmentHeader_36 (by decide) ?_
    refine lv_iadd hx hb dX6_putFragmentHeader_37 ?_
    refine lv_iconst (v := (4 : Int32)) hx hb dX6_putFragmentHeader_38 (by decide) ?_
    refine lv_iload hx hb dX6_putFragmentHeader_39 (lv_at hl 2 rfl) ?_
    refine lv_i2l hx hb dX6_putFragmentHeader_41 rfl ?_
    refine cpcallv_m hsz hI (va_runV (As := [.int (p1 + (4 : Int32)), .int (4 : Int32), .long (p5.toInt64)]) (rest := []) ⟨hx, hb, hml, hown, hu⟩ (met_X4_put_3 l dC dI a kA t _ M3 L (p1 + (4 : Int32)) (4 : Int32) (p5.toInt64) _ h) (cwl_X6_99_X4 hu ⟨by decide, by decide⟩) (cppre (ci := 3) hK hE hsz hI rfl rfl) rfl rfl hl.1 rfl (lv_room (Nat.le_of_ble_eq_true rfl)) dX6_putFragmentHeader_42 ⟨by decide, by decide⟩) (fun M4 H locs h hI => ?_)
    exact cpvret (Z := (fun M' L' => L' = L ∧ Z M')) hx hb hr hlocks hK hI dX6_putFragmentHeader_45 ⟨rfl, h⟩
  refine lv_if_eq (tgt := 28) hx hb dX6_putFragmentHeader_21 (by decide) (fun c5 => ?_) (fun c5 => ?_)
  · have h := h.1 c5
    refine lv_iconst (v := (0 : Int32)) hx hb dX6_putFragmentHeader_28 (by decide) ?_
    exact J29 (0 : Int32) _ _ _ h hI (lv_sub hl [0, 1, 5] rfl)
  · have h := h.2 c5
    refine lv_iconst (v := (1 : Int32)) hx hb dX6_putFragmentHeader_24 (by decide) ?_
    refine lv_goto (tgt := 29) hx hb dX6_putFragmentHeader_25 (by decide) ?_
    exact J29 (1 : Int32) _ _ _ h hI (lv_sub hl [0, 1, 5] rfl)

abbrev rm_X6_putInnerSix_0_12 : Room := { frames := 3, cells := 0, slots := 0, locals := 85 }
abbrev av_X6_putInnerSix_0_12 (a t : Nat → Nat)  : List Value := [.ref (a 0), .ref (a 12)]
abbrev qc_X6_putInnerSix_0_12 (dC : Nat → ClassId) (dI : Nat → Nat → Nat) (a : Nat → Nat) (kA : Nat → ClassId) (sz : Nat) (M : cM) (L : cL) (Z : Int32 → cM → Prop) : Array Value → State → Outcome → State → Prop := va_Qi (fun r (u : cM × cL) => u.2 = L ∧ Z r u.1) (cpAt dC dI a kA (cpA a sz)) (cpA a sz)
set_option maxHeartbeats 4000000 in
set_option maxRecDepth 100000 in
theorem met_X6_putInnerSix_0_12 (l : Launch) (dC : Nat → ClassId) (dI : Nat → Nat → Nat) (a : Nat → Nat) (kA : Nat → ClassId) (t : Nat → Nat) (sz : Nat) (M : cM) (L : cL)  (Z : Int32 → cM → Prop) (h : wp_X6_putInnerSix_0_12 M L  Z) : Met l yX6_putInnerSix (Cond.code yX6_putInnerSix cX6_putInnerSix 5 (some .int) :: uW) rm_X6_putInnerSix_0_12 (va_Pc (av_X6_putInnerSix_0_12 a t ) (cpPre dC dI a kA t M L sz)) (qc_X6_putInnerSix_0_12 dC dI a kA sz M L Z) 0 0 (cpA a sz) := by
  refine cpenter (cc := cX6_putInnerSix) (n := 5) (ret := (some .int)) (by decide) rfl (Nat.le_of_ble_eq_true rfl) ?_
  intro p e s m below meth c ls hx hb hml hr hlocks hown hts hK hE hsz hI hl hmn
  have hu : ∀ w ∈ uW, w.before (av_X6_putInnerSix_0_12 a t ).toArray s = true := fun w h => hts w (List.mem_cons_of_mem _ h)
  have hown : s.vm.findClass RX6 = some m.cls := hown
  have hl : lv_has ls 5 [(0, .ref (a 0)), (1, .ref (a 12))] := hl
  unfold wp_X6_putInnerSix_0_12 at h
  refine lv_aload_n hx hb dX6_putInnerSix_0 rfl (lv_at hl 1 rfl) ?_
  refine va_get (D := (dC, dI)) (ci := 0) (v := .int (M 12 3)) (C := RX0) (T := TX0) (N := 18) hx hb hu uX0 hown hK hI.1 12 rfl rfl 3 (by decide) (hu _ uww_274) (u_same (hu _ uww_30)) rfl dX6_putInnerSix_1 ?_
  refine lv_iconst (v := (1 : Int32)) hx hb dX6_putInnerSix_4 (by decide) ?_
  obtain ⟨K17, hK17, h⟩ := h
  have J17 : ∀ (v1 : Int32) (H : Heap) (locs : List Loc) (ls : Array Slot), K17 v1 → cpI dC dI a kA (cpA a sz) s M L H locs → lv_has ls 5 [(0, .ref (a 0)), (1, .ref (a 12))] → W p l e rm_X6_putInnerSix_0_12 s m (av_X6_putInnerSix_0_12 a t ).toArray below meth c H locs 0 0 (MQ below (qc_X6_putInnerSix_0_12 dC dI a kA sz M L Z) (av_X6_putInnerSix_0_12 a t ).toArray s 0 0 (cpA a sz)) (F0 m 17 ls [.int v1]) := by
    intro v1 H locs ls h hI hl
    have h := hK17 v1 h
    refine lv_istore_n (lv' := [(2, .int v1), (0, .ref (a 0)), (1, .ref (a 12))]) hx hb dX6_putInnerSix_17 rfl hl (by decide) rfl (fun ls hl => ?_)
    refine lv_aload_n hx hb dX6_putInnerSix_18 rfl (lv_at hl 2 rfl) ?_
    refine cpcalli_p hsz hI (va_runV (As := []) (rest := []) ⟨hx, hb, hml, hown, hu⟩ (met_X0_fragmentHeader_12 l dC dI a kA t _ M L  _ h) (cwl_X6_236_X0 hu ⟨by decide, by decide⟩) (cppre (ci := 0) hK hE hsz hI rfl rfl) rfl rfl hl.1 rfl (lv_room (Nat.le_of_ble_eq_true rfl)) dX6_putInnerSix_19 ⟨by decide, by decide⟩) (fun r2 H locs h hI => ?_)
    refine lv_istore_n (lv' := [(3, .int r2), (2, .int v1), (0, .ref (a 0)), (1, .ref (a 12))]) hx hb dX6_putInnerSix_22 rfl hl (by decide) rfl (fun ls hl => ?_)
    refine lv_aload_n hx hb dX6_putInnerSix_23 rfl (lv_at hl 2 rfl) ?_
    refine lv_aload_n hx hb dX6_putInnerSix_24 rfl (lv_at hl 2 rfl) ?_
    refine va_get (D := (dC, dI)) (ci := 5) (v := .ref (a 3)) (C := RX6) (T := TX6) (N := 17) hx hb hu uX6 hown hK hI.1 0 rfl rfl 1 (by decide) (hu _ uww_214) (fun _ h9 => h9) rfl dX6_putInnerSix_25 ?_
    refine lv_bipush (v := (8 : Int32)) hx hb dX6_putInnerSix_28 (by decide) ?_
    refine lv_aload_n hx hb dX6_putInnerSix_30 rfl (lv_at hl 3 rfl) ?_
    refine lv_iload_n hx hb dX6_putInnerSix_31 rfl (lv_at hl 0 rfl) ?_
    refine lv_aload_n hx hb dX6_putInnerSix_32 rfl (lv_at hl 3 rfl) ?_
    refine va_get (D := (dC, dI)) (ci := 0) (v := .int (M 12 8)) (C := RX0) (T := TX0) (N := 18) hx hb hu uX0 hown hK hI.1 12 rfl rfl 8 (by decide) (hu _ uww_284) (u_same (hu _ uww_40)) rfl dX6_putInnerSix_33 ?_
    refine lv_iadd hx hb dX6_putInnerSix_36 ?_
    refine lv_aload_n hx hb dX6_putInnerSix_37 rfl (lv_at hl 3 rfl) ?_
    refine cpcalli_p hsz hI (va_runU (As := []) (rest := [.int (r2 + (M 12 8)), .ref (a 12), .int (8 : Int32), .ref (a 3), .ref (a 0)]) ⟨hx, hb, hml, hown, hu⟩ (met_X2_fragment_12 l dC dI a kA t _ M L  _ h) (cwl_X6_246_X0 hu ⟨by decide, by decide⟩) (cppre (ci := 0) hK hE hsz hI rfl rfl) rfl rfl hl.1 rfl (lv_room (Nat.le_of_ble_eq_true rfl)) dX6_putInnerSix_38 ⟨by decide, by decide⟩) (fun r3 H locs h hI => ?_)
    obtain ⟨K50, hK50, h⟩ := h
    have J50 : ∀ (v4 : Int32) (H : Heap) (locs : List Loc) (ls : Array Slot), K50 v4 → cpI dC dI a kA (cpA a sz) s M L H locs → lv_has ls 5 [(0, .ref (a 0)), (1, .ref (a 12)), (2, .int v1), (3, .int r2)] → W p l e rm_X6_putInnerSix_0_12 s m (av_X6_putInnerSix_0_12 a t ).toArray below meth c H locs 0 0 (MQ below (qc_X6_putInnerSix_0_12 dC dI a kA sz M L Z) (av_X6_putInnerSix_0_12 a t ).toArray s 0 0 (cpA a sz)) (F0 m 50 ls [.int v4, .int (r2 + (M 12 8)), .ref (a 12), .int (8 : Int32), .ref (a 3), .ref (a 0)]) := by
      intro v4 H locs ls h hI hl
      have h := hK50 v4 h
      refine lv_aload_n hx hb dX6_putInnerSix_50 rfl (lv_at hl 1 rfl) ?_
      refine va_get (D := (dC, dI)) (ci := 0) (v := .int (M 12 2)) (C := RX0) (T := TX0) (N := 18) hx hb hu uX0 hown hK hI.1 12 rfl rfl 2 (by decide) (hu _ uww_271) (u_same (hu _ uww_28)) rfl dX6_putInnerSix_51 ?_
      refine cpcallv_m hsz hI (va_runV (As := [.ref (a 3), .int (8 : Int32), .ref (a 12), .int (r2 + (M 12 8)), .int v4, .int (M 12 2)]) (rest := []) ⟨hx, hb, hml, hown, hu⟩ (met_X6_putSixHeader_0_3_12 l dC dI a kA t _ M L (8 : Int32) (r2 + (M 12 8)) v4 (M 12 2) _ h) (cwl_X6_362_X6 hu ⟨by decide, by decide⟩) (cppre (ci := 5) hK hE hsz hI rfl rfl) rfl rfl hl.1 rfl (lv_room (Nat.le_of_ble_eq_true rfl)) dX6_putInnerSix_54 ⟨by decide, by decide⟩) (fun M5 H locs h hI => ?_)
      refine lv_aload_n hx hb dX6_putInnerSix_57 rfl (lv_at hl 1 rfl) ?_
      refine cpcalli_p hsz hI (va_runU (As := []) (rest := []) ⟨hx, hb, hml, hown, hu⟩ (met_X2_fragment_12 l dC dI a kA t _ M5 L  _ h) (cwl_X6_246_X0 hu ⟨by decide, by decide⟩) (cppre (ci := 0) hK hE hsz hI rfl rfl) rfl rfl hl.1 rfl (lv_room (Nat.le_of_ble_eq_true rfl)) dX6_putInnerSix_58 ⟨by decide, by decide⟩) (fun r6 H locs h hI => ?_)
      obtain ⟨K86, hK86, h⟩ := h
      have J86 : ∀ (M7 : cM) (H : Heap) (locs : List Loc) (ls : Array Slot), K86 M7 → cpI dC dI a kA (cpA a sz) s M7 L H locs → lv_has ls 5 [(0, .ref (a 0)), (1, .ref (a 12)), (3, .int r2)] → W p l e rm_X6_putInnerSix_0_12 s m (av_X6_putInnerSix_0_12 a t ).toArray below meth c H locs 0 0 (MQ below (qc_X6_putInnerSix_0_12 dC dI a kA sz M L Z) (av_X6_putInnerSix_0_12 a t ).toArray s 0 0 (cpA a sz)) (F0 m 86 ls []) := by
        intro M7 H locs ls h hI hl
        have h := hK86 M7 h
        refine lv_bipush (v := (48 : Int32)) hx hb dX6_putInnerSix_86 (by decide) ?_
        refine lv_iload_n hx hb dX6_putInnerSix_88 rfl (lv_at hl 2 rfl) ?_
        refine lv_iadd hx hb dX6_putInnerSix_89 ?_
        refine lv_topi (fun x8 ex8 => ?_)
        have h := h x8 ex8
        refine lv_istore (lv' := [(4, .int x8), (0, .ref (a 0)), (1, .ref (a 12)), (3, .int r2)]) hx hb dX6_putInnerSix_90 hl (by decide) rfl (fun ls hl => ?_)
        refine lv_aload_n hx hb dX6_putInnerSix_92 rfl (lv_at hl 1 rfl) ?_
        refine va_get (D := (dC, dI)) (ci := 5) (v := .ref (a 3)) (C := RX6) (T := TX6) (N := 17) hx hb hu uX6 hown hK hI.1 0 rfl rfl 1 (by decide) (hu _ uww_214) (fun _ h9 => h9) rfl dX6_putInnerSix_93 ?_
        refine lv_aload_n hx hb dX6_putInnerSix_96 rfl (lv_at hl 1 rfl) ?_
        refine va_get (D := (dC, dI)) (ci := 5) (v := .ref (a 1)) (C := RX6) (T := TX6) (N := 17) hx hb hu uX6 hown hK hI.1 0 rfl rfl 0 (by decide) (hu _ uww_213) (fun _ h9 => h9) rfl dX6_putInnerSix_97 ?_
        refine lv_aload_n hx hb dX6_putInnerSix_100 rfl (lv_at hl 2 rfl) ?_
        refine va_get (D := (dC, dI)) (ci := 0) (v := .int (M7 12 7)) (C := RX0) (T := TX0) (N := 18) hx hb hu uX0 hown hK hI.1 12 rfl rfl 7 (by decide) (hu _ uww_275) (u_same (hu _ uww_38)) rfl dX6_putInnerSix_101 ?_
        refine lv_iload hx hb dX6_putInnerSix_104 (lv_at hl 0 rfl) ?_
        refine lv_aload_n hx hb dX6_putInnerSix_106 rfl (lv_at hl 2 rfl) ?_
        refine va_get (D := (dC, dI)) (ci := 0) (v := .int (M7 12 9)) (C := RX0) (T := TX0) (N := 18) hx hb hu uX0 hown hK hI.1 12 rfl rfl 9 (by decide) (hu _ uww_341) (u_same (hu _ uww_46)) rfl dX6_putInnerSix_107 ?_
        refine cpcallv_m hsz hI (va_runV (As := [.ref (a 1), .int (M7 12 7), .int x8, .int (M7 12 9)]) (rest := []) ⟨hx, hb, hml, hown, hu⟩ (met_X4_copy_3_1 l dC dI a kA t _ M7 L (M7 12 7) x8 (M7 12 9) _ h) (cwl_X6_276_X4 hu ⟨by decide, by decide⟩) (cppre (ci := 3) hK hE hsz hI rfl rfl) rfl rfl hl.1 rfl (lv_room (Nat.le_of_ble_eq_true rfl)) dX6_putInnerSix_110 ⟨by decide, by decide⟩) (fun M9 H locs h hI => ?_)
        refine lv_iload hx hb dX6_putInnerSix_113 (lv_at hl 0 rfl) ?_
        exact cpiret (Z := (fun r M' L' => L' = L ∧ Z r M')) hx hb hr hlocks hK hI dX6_putInnerSix_115 ⟨rfl, h⟩
      refine lv_if_eq (tgt := 86) hx hb dX6_putInnerSix_61 (by decide) (fun c10 => ?_) (fun c10 => ?_)
      · have h := h.1 c10
        exact J86 M5 _ _ _ h hI (lv_sub hl [0, 1, 3] rfl)
      · have h := h.2 c10
        refine lv_aload_n hx hb dX6_putInnerSix_64 rfl (lv_at hl 0 rfl) ?_
        refine va_get (D := (dC, dI)) (ci := 5) (v := .ref (a 3)) (C := RX6) (T := TX6) (N := 17) hx hb hu uX6 hown hK hI.1 0 rfl rfl 1 (by decide) (hu _ uww_214) (fun _ h9 => h9) rfl dX6_putInnerSix_65 ?_
        refine lv_bipush (v := (48 : Int32)) hx hb dX6_putInnerSix_68 (by decide) ?_
        refine lv_iload_n hx hb dX6_putInnerSix_70 rfl (lv_at hl 2 rfl) ?_
        refine lv_aload_n hx hb dX6_putInnerSix_71 rfl (lv_at hl 1 rfl) ?_
        refine va_get (D := (dC, dI)) (ci := 0) (v := .int (M5 12 6)) (C := RX0) (T := TX0) (N := 18) hx hb hu uX0 hown hK hI.1 12 rfl rfl 6 (by decide) (hu _ uww_285) (u_same (hu _ uww_26)) rfl dX6_putInnerSix_72 ?_
        refine lv_aload_n hx hb dX6_putInnerSix_75 rfl (lv_at hl 1 rfl) ?_
        refine va_get (D := (dC, dI)) (ci := 0) (v := .int (M5 12 5)) (C := RX0) (T := TX0) (N := 18) hx hb hu uX0 hown hK hI.1 12 rfl rfl 5 (by decide) (hu _ uww_309) (u_same (hu _ uww_24)) rfl dX6_putInnerSix_76 ?_
        refine lv_aload_n hx hb dX6_putInnerSix_79 rfl (lv_at hl 1 rfl) ?_
        refine va_get (D := (dC, dI)) (ci := 0) (v := .int (M5 12 4)) (C := RX0) (T := TX0) (N := 18) hx hb hu uX0 hown hK hI.1 12 rfl rfl 4 (by decide) (hu _ uww_375) (u_same (hu _ uww_21)) rfl dX6_putInnerSix_80 ?_
        refine cpcallv_m hsz hI (va_runS (As := [.ref (a 3), .int (48 : Int32), .int v1, .int (M5 12 6), .int (M5 12 5), .int (M5 12 4)]) (rest := []) ⟨hx, hb, hml, hown, hu⟩ (met_X6_putFragmentHeader_3 l dC dI a kA t _ M5 L (48 : Int32) v1 (M5 12 6) (M5 12 5) (M5 12 4) _ h) (cwl_X6_369_S hu ⟨by decide, by decide⟩) (cppreS hK hE hsz hI) rfl rfl hl.1 rfl (lv_room (Nat.le_of_ble_eq_true rfl)) dX6_putInnerSix_83 ⟨by decide, by decide⟩) (fun M11 H locs h hI => ?_)
        exact J86 M11 _ _ _ h hI (lv_sub hl [0, 1, 3] rfl)
    refine lv_if_eq (tgt := 49) hx hb dX6_putInnerSix_41 (by decide) (fun c12 => ?_) (fun c12 => ?_)
    · have h := h.1 c12
      refine lv_iload_n hx hb dX6_putInnerSix_49 rfl (lv_at hl 1 rfl) ?_
      exact J50 v1 _ _ _ h hI (lv_sub hl [2, 3, 1, 0] rfl)
    · have h := h.2 c12
      refine lv_bipush (v := (44 : Int32)) hx hb dX6_putInnerSix_44 (by decide) ?_
      refine lv_goto (tgt := 50) hx hb dX6_putInnerSix_46 (by decide) ?_
      exact J50 (44 : Int32) _ _ _ h hI (lv_sub hl [2, 3, 1, 0] rfl)
  refine lv_icmp_ne (tgt := 13) hx hb dX6_putInnerSix_5 (by decide) (fun c13 => ?_) (fun c13 => ?_)
  · have h := h.1 c13
    refine lv_aload_n hx hb dX6_putInnerSix_13 rfl (lv_at hl 1 rfl) ?_
    refine va_get (D := (dC, dI)) (ci := 0) (v := .int (M 12 3)) (C := RX0) (T := TX0) (N := 18) hx hb hu uX0 hown hK hI.1 12 rfl rfl 3 (by decide) (hu _ uww_274) (u_same (hu _ uww_30)) rfl dX6_putInnerSix_14 ?_
    exact J17 (M 12 3) _ _ _ h hI (lv_sub hl [0, 1] rfl)
  · have h := h.2 c13
    refine lv_bipush (v := (58 : Int32)) hx hb dX6_putInnerSix_8 (by decide) ?_
    refine lv_goto (tgt := 17) hx hb dX6_putInnerSix_10 (by decide) ?_
    exact J17 (58 : Int32) _ _ _ h hI (lv_sub hl [0, 1] rfl)

abbrev rm_X6_fixTransport_0_12 : Room := { frames := 2, cells := 0, slots := 0, locals := 49 }
abbrev av_X6_fixTransport_0_12 (a t : Nat → Nat) (p2 : Int32) (p3 : Int64) (p5 : Int32) (p6 : Int64) : List Value := [.ref (a 0), .ref (a 12), .int p2, .long p3, .int p5, .long p6]
abbrev qc_X6_fixTransport_0_12 (dC : Nat → ClassId) (dI : Nat → Nat → Nat) (a : Nat → Nat) (kA : Nat → ClassId) (sz : Nat) (M : cM) (L : cL) (Z : cM → Prop) : Array Value → State → Outcome → State → Prop := va_Qv (fun (u : cM × cL) => u.2 = L ∧ Z u.1) (cpAt dC dI a kA (cpA a sz)) (cpA a sz)
set_option maxHeartbeats 4000000 in
set_option maxRecDepth 100000 in
theorem met_X6_fixTransport_0_12 (l : Launch) (dC : Nat → ClassId) (dI : Nat → Nat → Nat) (a : Nat → Nat) (kA : Nat → ClassId) (t : Nat → Nat) (sz : Nat) (M : cM) (L : cL) (p2 : Int32) (p3 : Int64) (p5 : Int32) (p6 : Int64) (Z : cM → Prop) (h : wp_X6_fixTransport_0_12 M L p2 p3 p5 p6 Z) : Met l yX6_fixTransport (Cond.code yX6_fixTransport cX6_fixTransport 12 none :: uW) rm_X6_fixTransport_0_12 (va_Pc (av_X6_fixTransport_0_12 a t p2 p3 p5 p6) (cpPre dC dI a kA t M L sz)) (qc_X6_fixTransport_0_12 dC dI a kA sz M L Z) 0 0 (cpA a sz) := by
  refine cpenter (cc := cX6_fixTransport) (n := 12) (ret := none) (by decide) rfl (Nat.le_of_ble_eq_true rfl) ?_
  intro p e s m below meth c ls hx hb hml hr hlocks hown hts hK hE hsz hI hl hmn
  have hu : ∀ w ∈ uW, w.before (av_X6_fixTransport_0_12 a t p2 p3 p5 p6).toArray s = true := fun w h => hts w (List.mem_cons_of_mem _ h)
  have hown : s.vm.findClass RX6 = some m.cls := hown
  have hl : lv_has ls 12 [(0, .ref (a 0)), (1, .ref (a 12)), (2, .int p2), (3, .long p3), (5, .int p5), (6, .long p6)] := hl
  unfold wp_X6_fixTransport_0_12 at h
  refine lv_aload_n hx hb dX6_fixTransport_0 rfl (lv_at hl 1 rfl) ?_
  refine va_get (D := (dC, dI)) (ci := 0) (v := .int (M 12 3)) (C := RX0) (T := TX0) (N := 18) hx hb hu uX0 hown hK hI.1 12 rfl rfl 3 (by decide) (hu _ uww_321) (fun _ h9 => h9) rfl dX6_fixTransport_1 ?_
  refine lv_bipush (v := (17 : Int32)) hx hb dX6_fixTransport_4 (by decide) ?_
  obtain ⟨K16, hK16, h⟩ := h
  have J16 : ∀ (v1 : Int32) (H : Heap) (locs : List Loc) (ls : Array Slot), K16 v1 → cpI dC dI a kA (cpA a sz) s M L H locs → lv_has ls 12 [(0, .ref (a 0)), (1, .ref (a 12)), (2, .int p2), (3, .long p3), (5, .int p5), (6, .long p6)] → W p l e rm_X6_fixTransport_0_12 s m (av_X6_fixTransport_0_12 a t p2 p3 p5 p6).toArray below meth c H locs 0 0 (MQ below (qc_X6_fixTransport_0_12 dC dI a kA sz M L Z) (av_X6_fixTransport_0_12 a t p2 p3 p5 p6).toArray s 0 0 (cpA a sz)) (F0 m 16 ls [.int v1]) := by
    intro v1 H locs ls h hI hl
    have h := hK16 v1 h
    refine lv_istore (lv' := [(8, .int v1), (0, .ref (a 0)), (1, .ref (a 12)), (2, .int p2), (3, .long p3), (5, .int p5), (6, .long p6)]) hx hb dX6_fixTransport_16 hl (by decide) rfl (fun ls hl => ?_)
    refine lv_aload_n hx hb dX6_fixTransport_18 rfl (lv_at hl 2 rfl) ?_
    refine va_get (D := (dC, dI)) (ci := 0) (v := .int (M 12 3)) (C := RX0) (T := TX0) (N := 18) hx hb hu uX0 hown hK hI.1 12 rfl rfl 3 (by decide) (hu _ uww_321) (fun _ h9 => h9) rfl dX6_fixTransport_19 ?_
    refine lv_bipush (v := (17 : Int32)) hx hb dX6_fixTransport_22 (by decide) ?_
    obtain ⟨K41, hK41, h⟩ := h
    have J41 : ∀ (v2 : Int32) (H : Heap) (locs : List Loc) (ls : Array Slot), K41 v2 → cpI dC dI a kA (cpA a sz) s M L H locs → lv_has ls 12 [(0, .ref (a 0)), (1, .ref (a 12)), (2, .int p2), (3, .long p3), (5, .int p5), (6, .long p6), (8, .int v1)] → W p l e rm_X6_fixTransport_0_12 s m (av_X6_fixTransport_0_12 a t p2 p3 p5 p6).toArray below meth c H locs 0 0 (MQ below (qc_X6_fixTransport_0_12 dC dI a kA sz M L Z) (av_X6_fixTransport_0_12 a t p2 p3 p5 p6).toArray s 0 0 (cpA a sz)) (F0 m 41 ls [.int v2]) := by
      intro v2 H locs ls h hI hl
      have h := hK41 v2 h
      refine lv_istore (lv' := [(9, .int v2), (0, .ref (a 0)), (1, .ref (a 12)), (2, .int p2), (3, .long p3), (5, .int p5), (6, .long p6), (8, .int v1)]) hx hb dX6_fixTransport_41 hl (by decide) rfl (fun ls hl => ?_)
      refine lv_iload hx hb dX6_fixTransport_43 (lv_at hl 0 rfl) ?_
      refine lv_if_eq (tgt := 66) hx hb dX6_fixTransport_45 (by decide) (fun c3 => ?_) (fun c3 => ?_)
      · have h := h.1 c3
        exact cpvret (Z := (fun M' L' => L' = L ∧ Z M')) hx hb hr hlocks hK hI dX6_fixTransport_66 ⟨rfl, h⟩
      · have h := h.2 c3
        refine lv_aload_n hx hb dX6_fixTransport_48 rfl (lv_at hl 2 rfl) ?_
        refine va_get (D := (dC, dI)) (ci := 0) (v := .int (M 12 6)) (C := RX0) (T := TX0) (N := 18) hx hb hu uX0 hown hK hI.1 12 rfl rfl 6 (by decide) (hu _ uww_322) (fun _ h9 => h9) rfl dX6_fixTransport_49 ?_
        refine lv_if_ne (tgt := 66) hx hb dX6_fixTransport_52 (by decide) (fun c4 => ?_) (fun c4 => ?_)
        · have h := h.1 c4
          exact cpvret (Z := (fun M' L' => L' = L ∧ Z M')) hx hb hr hlocks hK hI dX6_fixTransport_66 ⟨rfl, h⟩
        · have h := h.2 c4
          refine lv_aload_n hx hb dX6_fixTransport_55 rfl (lv_at hl 2 rfl) ?_
          refine va_get (D := (dC, dI)) (ci := 0) (v := .int (M 12 9)) (C := RX0) (T := TX0) (N := 18) hx hb hu uX0 hown hK hI.1 12 rfl rfl 9 (by decide) (hu _ uww_400) (fun _ h9 => h9) rfl dX6_fixTransport_56 ?_
          refine lv_iload hx hb dX6_fixTransport_59 (lv_at hl 7 rfl) ?_
          refine lv_iconst (v := (2 : Int32)) hx hb dX6_fixTransport_61 (by decide) ?_
          refine lv_iadd hx hb dX6_fixTransport_62 ?_
          refine lv_icmp_ge (tgt := 67) hx hb dX6_fixTransport_63 (by decide) (fun c5 => ?_) (fun c5 => ?_)
          · have h := h.1 c5
            refine lv_aload_n hx hb dX6_fixTransport_67 rfl (lv_at hl 1 rfl) ?_
            refine va_get (D := (dC, dI)) (ci := 5) (v := .ref (a 3)) (C := RX6) (T := TX6) (N := 17) hx hb hu uX6 hown hK hI.1 0 rfl rfl 1 (by decide) (hu _ uww_214) (fun _ h9 => h9) rfl dX6_fixTransport_68 ?_
            refine lv_iload_n hx hb dX6_fixTransport_71 rfl (lv_at hl 3 rfl) ?_
            refine lv_iload hx hb dX6_fixTransport_72 (lv_at hl 7 rfl) ?_
            refine lv_iadd hx hb dX6_fixTransport_74 ?_
            refine cpcalli_p hsz hI (va_runV (As := [.int (p2 + v1)]) (rest := []) ⟨hx, hb, hml, hown, hu⟩ (met_X4_word_3 l dC dI a kA t _ M L (p2 + v1) _ h) (cwl_X6_272_X4 hu ⟨by decide, by decide⟩) (cppre (ci := 3) hK hE hsz hI rfl rfl) rfl rfl hl.1 rfl (lv_room (Nat.le_of_ble_eq_true rfl)) dX6_fixTransport_75 ⟨by decide, by decide⟩) (fun r6 H locs h hI => ?_)
            refine lv_istore (lv' := [(10, .int r6), (9, .int v2), (0, .ref (a 0)), (1, .ref (a 12)), (2, .int p2), (3, .long p3), (5, .int p5), (6, .long p6), (8, .int v1)]) hx hb dX6_fixTransport_78 hl (by decide) rfl (fun ls hl => ?_)
            refine lv_aload_n hx hb dX6_fixTransport_80 rfl (lv_at hl 3 rfl) ?_
            refine va_get (D := (dC, dI)) (ci := 0) (v := .int (M 12 3)) (C := RX0) (T := TX0) (N := 18) hx hb hu uX0 hown hK hI.1 12 rfl rfl 3 (by decide) (hu _ uww_321) (fun _ h9 => h9) rfl dX6_fixTransport_81 ?_
            refine lv_bipush (v := (6 : Int32)) hx hb dX6_fixTransport_84 (by decide) ?_
            refine lv_icmp_ne (tgt := 115) hx hb dX6_fixTransport_86 (by decide) (fun c7 => ?_) (fun c7 => ?_)
            · have h := h.1 c7
              refine lv_iload hx hb dX6_fixTransport_115 (lv_at hl 0 rfl) ?_
              refine lv_if_eq (tgt := 158) hx hb dX6_fixTransport_117 (by decide) (fun c8 => ?_) (fun c8 => ?_)
              · have h := h.1 c8
                exact cpvret (Z := (fun M' L' => L' = L ∧ Z M')) hx hb hr hlocks hK hI dX6_fixTransport_158 ⟨rfl, h⟩
              · have h := h.2 c8
                refine lv_iload hx hb dX6_fixTransport_120 (lv_at hl 0 rfl) ?_
                refine lv_lload_n hx hb dX6_fixTransport_122 rfl (lv_at hl 5 rfl) ?_
                refine lv_iload hx hb dX6_fixTransport_123 (lv_at hl 6 rfl) ?_
                refine lv_lload hx hb dX6_fixTransport_125 (lv_at hl 7 rfl) ?_
                refine cpcalli_p hsz hI (va_runS (As := [.int r6, .long p3, .int p5, .long p6]) (rest := []) ⟨hx, hb, hml, hown, hu⟩ (met_X6_adjusted l dC dI a kA t _ M L r6 p3 p5 p6 _ h) (cwl_X6_291_S hu ⟨by decide, by decide⟩) (cppreS hK hE hsz hI) rfl rfl hl.1 rfl (lv_room (Nat.le_of_ble_eq_true rfl)) dX6_fixTransport_127 ⟨by decide, by decide⟩) (fun r9 H locs h hI => ?_)
                refine lv_istore (lv' := [(11, .int r9), (10, .int r6), (9, .int v2), (0, .ref (a 0)), (1, .ref (a 12)), (2, .int p2), (3, .long p3), (5, .int p5), (6, .long p6), (8, .int v1)]) hx hb dX6_fixTransport_130 hl (by decide) rfl (fun ls hl => ?_)
                refine lv_aload_n hx hb dX6_fixTransport_132 rfl (lv_at hl 3 rfl) ?_
                refine va_get (D := (dC, dI)) (ci := 5) (v := .ref (a 3)) (C := RX6) (T := TX6) (N := 17) hx hb hu uX6 hown hK hI.1 0 rfl rfl 1 (by decide) (hu _ uww_214) (fun _ h9 => h9) rfl dX6_fixTransport_133 ?_
                refine lv_iload_n hx hb dX6_fixTransport_136 rfl (lv_at hl 5 rfl) ?_
                refine lv_iload hx hb dX6_fixTransport_137 (lv_at hl 9 rfl) ?_
                refine lv_iadd hx hb dX6_fixTransport_139 ?_
                refine lv_iconst (v := (2 : Int32)) hx hb dX6_fixTransport_140 (by decide) ?_
                refine lv_iload hx hb dX6_fixTransport_141 (lv_at hl 0 rfl) ?_
                obtain ⟨K155, hK155, h⟩ := h
                have J155 : ∀ (v10 : Int64) (H : Heap) (locs : List Loc) (ls : Array Slot), K155 v10 → cpI dC dI a kA (cpA a sz) s M L H locs → lv_has ls 12 [] → W p l e rm_X6_fixTransport_0_12 s m (av_X6_fixTransport_0_12 a t p2 p3 p5 p6).toArray below meth c H locs 0 0 (MQ below (qc_X6_fixTransport_0_12 dC dI a kA sz M L Z) (av_X6_fixTransport_0_12 a t p2 p3 p5 p6).toArray s 0 0 (cpA a sz)) (F0 m 155 ls [.long v10, .int (2 : Int32), .int (p2 + v1), .ref (a 3)]) := by
                  intro v10 H locs ls h hI hl
                  have h := hK155 v10 h
                  refine cpcallv_m hsz hI (va_runV (As := [.int (p2 + v1), .int (2 : Int32), .long v10]) (rest := []) ⟨hx, hb, hml, hown, hu⟩ (met_X4_put_3 l dC dI a kA t _ M L (p2 + v1) (2 : Int32) v10 _ h) (cwl_X6_99_X4 hu ⟨by decide, by decide⟩) (cppre (ci := 3) hK hE hsz hI rfl rfl) rfl rfl hl.1 rfl (lv_room (Nat.le_of_ble_eq_true rfl)) dX6_fixTransport_155 ⟨by decide, by decide⟩) (fun M11 H locs h hI => ?_)
                  exact cpvret (Z := (fun M' L' => L' = L ∧ Z M')) hx hb hr hlocks hK hI dX6_fixTransport_158 ⟨rfl, h⟩
                refine lv_if_ne (tgt := 152) hx hb dX6_fixTransport_143 (by decide) (fun c12 => ?_) (fun c12 => ?_)
                · have h := h.1 c12
                  refine lv_iload hx hb dX6_fixTransport_152 (lv_at hl 0 rfl) ?_
                  refine lv_i2l hx hb dX6_fixTransport_154 rfl ?_
                  exact J155 (r9.toInt64) _ _ _ h hI (lv_sub hl [] rfl)
                · have h := h.2 c12
                  refine lv_ldc2 (own := RX6) (v := (65535 : Int64)) hx hb hown (hu _ uww_69) dX6_fixTransport_146 ?_
                  refine lv_goto (tgt := 155) hx hb dX6_fixTransport_149 (by decide) ?_
                  exact J155 (65535 : Int64) _ _ _ h hI (lv_sub hl [] rfl)
            · have h := h.2 c7
              refine lv_aload_n hx hb dX6_fixTransport_89 rfl (lv_at hl 2 rfl) ?_
              refine va_get (D := (dC, dI)) (ci := 5) (v := .ref (a 3)) (C := RX6) (T := TX6) (N := 17) hx hb hu uX6 hown hK hI.1 0 rfl rfl 1 (by decide) (hu _ uww_214) (fun _ h9 => h9) rfl dX6_fixTransport_90 ?_
              refine lv_iload_n hx hb dX6_fixTransport_93 rfl (lv_at hl 4 rfl) ?_
              refine lv_iload hx hb dX6_fixTransport_94 (lv_at hl 8 rfl) ?_
              refine lv_iadd hx hb dX6_fixTransport_96 ?_
              refine lv_iconst (v := (2 : Int32)) hx hb dX6_fixTransport_97 (by decide) ?_
              refine lv_iload hx hb dX6_fixTransport_98 (lv_at hl 0 rfl) ?_
              refine lv_lload_n hx hb dX6_fixTransport_100 rfl (lv_at hl 5 rfl) ?_
              refine lv_iload hx hb dX6_fixTransport_101 (lv_at hl 6 rfl) ?_
              refine lv_lload hx hb dX6_fixTransport_103 (lv_at hl 7 rfl) ?_
              refine cpcalli_p hsz hI (va_runS (As := [.int r6, .long p3, .int p5, .long p6]) (rest := [.int (2 : Int32), .int (p2 + v1), .ref (a 3)]) ⟨hx, hb, hml, hown, hu⟩ (met_X6_adjusted l dC dI a kA t _ M L r6 p3 p5 p6 _ h) (cwl_X6_291_S hu ⟨by decide, by decide⟩) (cppreS hK hE hsz hI) rfl rfl hl.1 rfl (lv_room (Nat.le_of_ble_eq_true rfl)) dX6_fixTransport_105 ⟨by decide, by decide⟩) (fun r13 H locs h hI => ?_)
              refine lv_i2l hx hb dX6_fixTransport_108 rfl ?_
              refine cpcallv_m hsz hI (va_runV (As := [.int (p2 + v1), .int (2 : Int32), .long (r13.toInt64)]) (rest := []) ⟨hx, hb, hml, hown, hu⟩ (met_X4_put_3 l dC dI a kA t _ M L (p2 + v1) (2 : Int32) (r13.toInt64) _ h) (cwl_X6_99_X4 hu ⟨by decide, by decide⟩) (cppre (ci := 3) hK hE hsz hI rfl rfl) rfl rfl hl.1 rfl (lv_room (Nat.le_of_ble_eq_true rfl)) dX6_fixTransport_109 ⟨by decide, by decide⟩) (fun M14 H locs h hI => ?_)
              refine lv_goto (tgt := 158) hx hb dX6_fixTransport_112 (by decide) ?_
              exact cpvret (Z := (fun M' L' => L' = L ∧ Z M')) hx hb hr hlocks hK hI dX6_fixTransport_158 ⟨rfl, h⟩
          · have h := h.2 c5
            exact cpvret (Z := (fun M' L' => L' = L ∧ Z M')) hx hb hr hlocks hK hI dX6_fixTransport_66 ⟨rfl, h⟩
    obtain ⟨K36, hK36, h⟩ := h
    have J36 : ∀  (H : Heap) (locs : List Loc) (ls : Array Slot), K36  → cpI dC dI a kA (cpA a sz) s M L H locs → lv_has ls 12 [(0, .ref (a 0)), (1, .ref (a 12)), (2, .int p2), (3, .long p3), (5, .int p5), (6, .long p6), (8, .int v1)] → W p l e rm_X6_fixTransport_0_12 s m (av_X6_fixTransport_0_12 a t p2 p3 p5 p6).toArray below meth c H locs 0 0 (MQ below (qc_X6_fixTransport_0_12 dC dI a kA sz M L Z) (av_X6_fixTransport_0_12 a t p2 p3 p5 p6).toArray s 0 0 (cpA a sz)) (F0 m 36 ls []) := by
      intro  H locs ls h hI hl
      have h := hK36  h
      refine lv_iconst (v := (1 : Int32)) hx hb dX6_fixTransport_36 (by decide) ?_
      refine lv_goto (tgt := 41) hx hb dX6_fixTransport_37 (by decide) ?_
      exact J41 (1 : Int32) _ _ _ h hI (lv_sub hl [0, 1, 2, 3, 4, 5, 6] rfl)
    refine lv_icmp_eq (tgt := 36) hx hb dX6_fixTransport_24 (by decide) (fun c15 => ?_) (fun c15 => ?_)
    · have h := h.1 c15
      exact J36  _ _ _ h hI (lv_sub hl [1, 2, 3, 4, 5, 6, 0] rfl)
    · have h := h.2 c15
      refine lv_aload_n hx hb dX6_fixTransport_27 rfl (lv_at hl 2 rfl) ?_
      refine va_get (D := (dC, dI)) (ci := 0) (v := .int (M 12 3)) (C := RX0) (T := TX0) (N := 18) hx hb hu uX0 hown hK hI.1 12 rfl rfl 3 (by decide) (hu _ uww_321) (fun _ h9 => h9) rfl dX6_fixTransport_28 ?_
      refine lv_bipush (v := (6 : Int32)) hx hb dX6_fixTransport_31 (by decide) ?_
      refine lv_icmp_ne (tgt := 40) hx hb dX6_fixTransport_33 (by decide) (fun c16 => ?_) (fun c16 => ?_)
      · have h := h.1 c16
        refine lv_iconst (v := (0 : Int32)) hx hb dX6_fixTransport_40 (by decide) ?_
        exact J41 (0 : Int32) _ _ _ h hI (lv_sub hl [1, 2, 3, 4, 5, 6, 0] rfl)
      · have h := h.2 c16
        exact J36  _ _ _ h hI (lv_sub hl [1, 2, 3, 4, 5, 6, 0] rfl)
  refine lv_icmp_ne (tgt := 14) hx hb dX6_fixTransport_6 (by decide) (fun c17 => ?_) (fun c17 => ?_)
  · have h := h.1 c17
    refine lv_bipush (v := (16 : Int32)) hx hb dX6_fixTransport_14 (by decide) ?_
    exact J16 (16 : Int32) _ _ _ h hI (lv_sub hl [0, 1, 2, 3, 4, 5] rfl)
  · have h := h.2 c17
    refine lv_bipush (v := (6 : Int32)) hx hb dX6_fixTransport_9 (by decide) ?_
    refine lv_goto (tgt := 16) hx hb dX6_fixTransport_11 (by decide) ?_
    exact J16 (6 : Int32) _ _ _ h hI (lv_sub hl [0, 1, 2, 3, 4, 5] rfl)

abbrev rm_X6_fixToSix_0_12 : Room := { frames := 3, cells := 0, slots := 0, locals := 80 }
abbrev av_X6_fixToSix_0_12 (a t : Nat → Nat) (p2 : Int32) : List Value := [.ref (a 0), .ref (a 12), .int p2]
abbrev qc_X6_fixToSix_0_12 (dC : Nat → ClassId) (dI : Nat → Nat → Nat) (a : Nat → Nat) (kA : Nat → ClassId) (sz : Nat) (M : cM) (L : cL) (Z : cM → Prop) : Array Value → State → Outcome → State → Prop := va_Qv (fun (u : cM × cL) => u.2 = L ∧ Z u.1) (cpAt dC dI a kA (cpA a sz)) (cpA a sz)
set_option maxHeartbeats 4000000 in
set_option maxRecDepth 100000 in
theorem met_X6_fixToSix_0_12 (l : Launch) (dC : Nat → ClassId) (dI : Nat → Nat → Nat) (a : Nat → Nat) (kA : Nat → ClassId) (t : Nat → Nat) (sz : Nat) (M : cM) (L : cL) (p2 : Int32) (Z : cM → Prop) (h : wp_X6_fixToSix_0_12 M L p2 Z) : Met l yX6_fixToSix (Cond.code yX6_fixToSix cX6_fixToSix 8 none :: uW) rm_X6_fixToSix_0_12 (va_Pc (av_X6_fixToSix_0_12 a t p2) (cpPre dC dI a kA t M L sz)) (qc_X6_fixToSix_0_12 dC dI a kA sz M L Z) 0 0 (cpA a sz) := by
  refine cpenter (cc := cX6_fixToSix) (n := 8) (ret := none) (by decide) rfl (Nat.le_of_ble_eq_true rfl) ?_
  intro p e s m below meth c ls hx hb hml hr hlocks hown hts hK hE hsz hI hl hmn
  have hu : ∀ w ∈ uW, w.before (av_X6_fixToSix_0_12 a t p2).toArray s = true := fun w h => hts w (List.mem_cons_of_mem _ h)
  have hown : s.vm.findClass RX6 = some m.cls := hown
  have hl : lv_has ls 8 [(0, .ref (a 0)), (1, .ref (a 12)), (2, .int p2)] := hl
  unfold wp_X6_fixToSix_0_12 at h
  refine lv_aload_n hx hb dX6_fixToSix_0 rfl (lv_at hl 1 rfl) ?_
  refine va_get (D := (dC, dI)) (ci := 0) (v := .int (M 12 3)) (C := RX0) (T := TX0) (N := 18) hx hb hu uX0 hown hK hI.1 12 rfl rfl 3 (by decide) (hu _ uww_274) (u_same (hu _ uww_30)) rfl dX6_fixToSix_1 ?_
  refine lv_iconst (v := (1 : Int32)) hx hb dX6_fixToSix_4 (by decide) ?_
  refine lv_icmp_ne (tgt := 115) hx hb dX6_fixToSix_5 (by decide) (fun c1 => ?_) (fun c1 => ?_)
  · have h := h.1 c1
    refine lv_aload_n hx hb dX6_fixToSix_115 rfl (lv_at hl 0 rfl) ?_
    refine lv_aload_n hx hb dX6_fixToSix_116 rfl (lv_at hl 1 rfl) ?_
    refine lv_iload_n hx hb dX6_fixToSix_117 rfl (lv_at hl 2 rfl) ?_
    refine lv_aload_n hx hb dX6_fixToSix_118 rfl (lv_at hl 1 rfl) ?_
    refine va_get (D := (dC, dI)) (ci := 0) (v := .long (L 12 12)) (C := RX0) (T := TX0) (N := 18) hx hb hu uX0 hown hK hI.1 12 rfl rfl 12 (by decide) (hu _ uww_392) (u_same (hu _ uww_36)) rfl dX6_fixToSix_119 ?_
    refine lv_iconst (v := (4 : Int32)) hx hb dX6_fixToSix_122 (by decide) ?_
    refine lv_aload_n hx hb dX6_fixToSix_123 rfl (lv_at hl 1 rfl) ?_
    refine va_get (D := (dC, dI)) (ci := 0) (v := .long (L 12 13)) (C := RX0) (T := TX0) (N := 18) hx hb hu uX0 hown hK hI.1 12 rfl rfl 13 (by decide) (hu _ uww_272) (u_same (hu _ uww_273)) rfl dX6_fixToSix_124 ?_
    refine cpcallv_m hsz hI (va_runV (As := [.ref (a 12), .int p2, .long (L 12 12), .int (4 : Int32), .long (L 12 13)]) (rest := []) ⟨hx, hb, hml, hown, hu⟩ (met_X6_fixTransport_0_12 l dC dI a kA t _ M L p2 (L 12 12) (4 : Int32) (L 12 13) _ h) (cwl_X6_298_X6 hu ⟨by decide, by decide⟩) (cppre (ci := 5) hK hE hsz hI rfl rfl) rfl rfl hl.1 rfl (lv_room (Nat.le_of_ble_eq_true rfl)) dX6_fixToSix_127 ⟨by decide, by decide⟩) (fun M2 H locs h hI => ?_)
    exact cpvret (Z := (fun M' L' => L' = L ∧ Z M')) hx hb hr hlocks hK hI dX6_fixToSix_130 ⟨rfl, h⟩
  · have h := h.2 c1
    refine lv_aload_n hx hb dX6_fixToSix_8 rfl (lv_at hl 0 rfl) ?_
    refine va_get (D := (dC, dI)) (ci := 5) (v := .ref (a 3)) (C := RX6) (T := TX6) (N := 17) hx hb hu uX6 hown hK hI.1 0 rfl rfl 1 (by decide) (hu _ uww_214) (fun _ h9 => h9) rfl dX6_fixToSix_9 ?_
    refine lv_iload_n hx hb dX6_fixToSix_12 rfl (lv_at hl 2 rfl) ?_
    refine cpcalli_p hsz hI (va_runV (As := [.int p2]) (rest := []) ⟨hx, hb, hml, hown, hu⟩ (met_X4_word_3 l dC dI a kA t _ M L p2 _ h) (cwl_X6_272_X4 hu ⟨by decide, by decide⟩) (cppre (ci := 3) hK hE hsz hI rfl rfl) rfl rfl hl.1 rfl (lv_room (Nat.le_of_ble_eq_true rfl)) dX6_fixToSix_13 ⟨by decide, by decide⟩) (fun r3 H locs h hI => ?_)
    refine lv_istore_n (lv' := [(3, .int r3), (0, .ref (a 0)), (1, .ref (a 12)), (2, .int p2)]) hx hb dX6_fixToSix_16 rfl hl (by decide) rfl (fun ls hl => ?_)
    refine lv_iload_n hx hb dX6_fixToSix_17 rfl (lv_at hl 0 rfl) ?_
    refine lv_bipush (v := (8 : Int32)) hx hb dX6_fixToSix_18 (by decide) ?_
    refine lv_ishr hx hb dX6_fixToSix_20 ?_
    refine lv_bipush (v := (8 : Int32)) hx hb dX6_fixToSix_21 (by decide) ?_
    obtain ⟨K35, hK35, h⟩ := h
    have J35 : ∀ (v4 : Int32) (H : Heap) (locs : List Loc) (ls : Array Slot), K35 v4 → cpI dC dI a kA (cpA a sz) s M L H locs → lv_has ls 8 [(0, .ref (a 0)), (1, .ref (a 12)), (2, .int p2), (3, .int r3)] → W p l e rm_X6_fixToSix_0_12 s m (av_X6_fixToSix_0_12 a t p2).toArray below meth c H locs 0 0 (MQ below (qc_X6_fixToSix_0_12 dC dI a kA sz M L Z) (av_X6_fixToSix_0_12 a t p2).toArray s 0 0 (cpA a sz)) (F0 m 35 ls [.int v4]) := by
      intro v4 H locs ls h hI hl
      have h := hK35 v4 h
      refine lv_istore (lv' := [(4, .int v4), (0, .ref (a 0)), (1, .ref (a 12)), (2, .int p2), (3, .int r3)]) hx hb dX6_fixToSix_35 hl (by decide) rfl (fun ls hl => ?_)
      refine lv_iload hx hb dX6_fixToSix_37 (lv_at hl 0 rfl) ?_
      refine lv_bipush (v := (8 : Int32)) hx hb dX6_fixToSix_39 (by decide) ?_
      refine lv_ishl hx hb dX6_fixToSix_41 ?_
      refine lv_iload_n hx hb dX6_fixToSix_42 rfl (lv_at hl 4 rfl) ?_
      refine lv_sipush (v := (255 : Int32)) hx hb dX6_fixToSix_43 (by decide) ?_
      refine lv_iand hx hb dX6_fixToSix_46 ?_
      refine lv_ior hx hb dX6_fixToSix_47 ?_
      refine lv_topi (fun x5 ex5 => ?_)
      have h := h x5 ex5
      refine lv_istore (lv' := [(5, .int x5), (4, .int v4), (0, .ref (a 0)), (1, .ref (a 12)), (2, .int p2), (3, .int r3)]) hx hb dX6_fixToSix_48 hl (by decide) rfl (fun ls hl => ?_)
      refine lv_aload_n hx hb dX6_fixToSix_50 rfl (lv_at hl 2 rfl) ?_
      refine va_get (D := (dC, dI)) (ci := 5) (v := .ref (a 3)) (C := RX6) (T := TX6) (N := 17) hx hb hu uX6 hown hK hI.1 0 rfl rfl 1 (by decide) (hu _ uww_214) (fun _ h9 => h9) rfl dX6_fixToSix_51 ?_
      refine lv_iload_n hx hb dX6_fixToSix_54 rfl (lv_at hl 4 rfl) ?_
      refine lv_iconst (v := (2 : Int32)) hx hb dX6_fixToSix_55 (by decide) ?_
      refine lv_iload hx hb dX6_fixToSix_56 (lv_at hl 0 rfl) ?_
      refine lv_i2l hx hb dX6_fixToSix_58 rfl ?_
      refine cpcallv_m hsz hI (va_runV (As := [.int p2, .int (2 : Int32), .long (x5.toInt64)]) (rest := []) ⟨hx, hb, hml, hown, hu⟩ (met_X4_put_3 l dC dI a kA t _ M L p2 (2 : Int32) (x5.toInt64) _ h) (cwl_X6_99_X4 hu ⟨by decide, by decide⟩) (cppre (ci := 3) hK hE hsz hI rfl rfl) rfl rfl hl.1 rfl (lv_room (Nat.le_of_ble_eq_true rfl)) dX6_fixToSix_59 ⟨by decide, by decide⟩) (fun M6 H locs h hI => ?_)
      refine lv_iload hx hb dX6_fixToSix_62 (lv_at hl 0 rfl) ?_
      refine lv_i2l hx hb dX6_fixToSix_64 rfl ?_
      refine lv_aload_n hx hb dX6_fixToSix_65 rfl (lv_at hl 3 rfl) ?_
      refine va_get (D := (dC, dI)) (ci := 0) (v := .long (L 12 13)) (C := RX0) (T := TX0) (N := 18) hx hb hu uX0 hown hK hI.1 12 rfl rfl 13 (by decide) (hu _ uww_272) (u_same (hu _ uww_273)) rfl dX6_fixToSix_66 ?_
      refine lv_ladd hx hb dX6_fixToSix_69 ?_
      refine lv_aload_n hx hb dX6_fixToSix_70 rfl (lv_at hl 3 rfl) ?_
      refine va_get (D := (dC, dI)) (ci := 0) (v := .int (M6 12 8)) (C := RX0) (T := TX0) (N := 18) hx hb hu uX0 hown hK hI.1 12 rfl rfl 8 (by decide) (hu _ uww_284) (u_same (hu _ uww_40)) rfl dX6_fixToSix_71 ?_
      refine lv_i2l hx hb dX6_fixToSix_74 rfl ?_
      refine lv_ladd hx hb dX6_fixToSix_75 ?_
      refine lv_ldc2 (own := RX6) (v := (58 : Int64)) hx hb hown (hu _ uww_342) dX6_fixToSix_76 ?_
      refine lv_ladd hx hb dX6_fixToSix_79 ?_
      refine lv_topl (fun x7 ex7 => ?_)
      have h := h x7 ex7
      refine lv_lstore (lv' := [(6, .long x7), (5, .int x5), (4, .int v4), (0, .ref (a 0)), (1, .ref (a 12)), (2, .int p2), (3, .int r3)]) hx hb dX6_fixToSix_80 hl (by decide) rfl (fun ls hl => ?_)
      refine lv_aload_n hx hb dX6_fixToSix_82 rfl (lv_at hl 3 rfl) ?_
      refine va_get (D := (dC, dI)) (ci := 5) (v := .ref (a 3)) (C := RX6) (T := TX6) (N := 17) hx hb hu uX6 hown hK hI.1 0 rfl rfl 1 (by decide) (hu _ uww_214) (fun _ h9 => h9) rfl dX6_fixToSix_83 ?_
      refine lv_iload_n hx hb dX6_fixToSix_86 rfl (lv_at hl 5 rfl) ?_
      refine lv_iconst (v := (2 : Int32)) hx hb dX6_fixToSix_87 (by decide) ?_
      refine lv_iadd hx hb dX6_fixToSix_88 ?_
      refine lv_iconst (v := (2 : Int32)) hx hb dX6_fixToSix_89 (by decide) ?_
      refine lv_aload_n hx hb dX6_fixToSix_90 rfl (lv_at hl 3 rfl) ?_
      refine va_get (D := (dC, dI)) (ci := 5) (v := .ref (a 3)) (C := RX6) (T := TX6) (N := 17) hx hb hu uX6 hown hK hI.1 0 rfl rfl 1 (by decide) (hu _ uww_214) (fun _ h9 => h9) rfl dX6_fixToSix_91 ?_
      refine lv_iload_n hx hb dX6_fixToSix_94 rfl (lv_at hl 5 rfl) ?_
      refine lv_iconst (v := (2 : Int32)) hx hb dX6_fixToSix_95 (by decide) ?_
      refine lv_iadd hx hb dX6_fixToSix_96 ?_
      refine cpcalli_p hsz hI (va_runV (As := [.int (p2 + (2 : Int32))]) (rest := [.int (2 : Int32), .int (p2 + (2 : Int32)), .ref (a 3)]) ⟨hx, hb, hml, hown, hu⟩ (met_X4_word_3 l dC dI a kA t _ M6 L (p2 + (2 : Int32)) _ h) (cwl_X6_272_X4 hu ⟨by decide, by decide⟩) (cppre (ci := 3) hK hE hsz hI rfl rfl) rfl rfl hl.1 rfl (lv_room (Nat.le_of_ble_eq_true rfl)) dX6_fixToSix_97 ⟨by decide, by decide⟩) (fun r8 H locs h hI => ?_)
      refine lv_iload_n hx hb dX6_fixToSix_100 rfl (lv_at hl 6 rfl) ?_
      refine lv_i2l hx hb dX6_fixToSix_101 rfl ?_
      refine lv_iconst (v := (1 : Int32)) hx hb dX6_fixToSix_102 (by decide) ?_
      refine lv_lload hx hb dX6_fixToSix_103 (lv_at hl 0 rfl) ?_
      refine cpcalli_p hsz hI (va_runS (As := [.int r8, .long (r3.toInt64), .int (1 : Int32), .long x7]) (rest := [.int (2 : Int32), .int (p2 + (2 : Int32)), .ref (a 3)]) ⟨hx, hb, hml, hown, hu⟩ (met_X6_adjusted l dC dI a kA t _ M6 L r8 (r3.toInt64) (1 : Int32) x7 _ h) (cwl_X6_291_S hu ⟨by decide, by decide⟩) (cppreS hK hE hsz hI) rfl rfl hl.1 rfl (lv_room (Nat.le_of_ble_eq_true rfl)) dX6_fixToSix_105 ⟨by decide, by decide⟩) (fun r9 H locs h hI => ?_)
      refine lv_i2l hx hb dX6_fixToSix_108 rfl ?_
      refine cpcallv_m hsz hI (va_runV (As := [.int (p2 + (2 : Int32)), .int (2 : Int32), .long (r9.toInt64)]) (rest := []) ⟨hx, hb, hml, hown, hu⟩ (met_X4_put_3 l dC dI a kA t _ M6 L (p2 + (2 : Int32)) (2 : Int32) (r9.toInt64) _ h) (cwl_X6_99_X4 hu ⟨by decide, by decide⟩) (cppre (ci := 3) hK hE hsz hI rfl rfl) rfl rfl hl.1 rfl (lv_room (Nat.le_of_ble_eq_true rfl)) dX6_fixToSix_109 ⟨by decide, by decide⟩) (fun M10 H locs h hI => ?_)
      refine lv_goto (tgt := 130) hx hb dX6_fixToSix_112 (by decide) ?_
      exact cpvret (Z := (fun M' L' => L' = L ∧ Z M')) hx hb hr hlocks hK hI dX6_fixToSix_130 ⟨rfl, h⟩
    refine lv_icmp_ne (tgt := 32) hx hb dX6_fixToSix_23 (by decide) (fun c11 => ?_) (fun c11 => ?_)
    · have h := h.1 c11
      refine lv_sipush (v := (129 : Int32)) hx hb dX6_fixToSix_32 (by decide) ?_
      exact J35 (129 : Int32) _ _ _ h hI (lv_sub hl [1, 2, 3, 0] rfl)
    · have h := h.2 c11
      refine lv_sipush (v := (128 : Int32)) hx hb dX6_fixToSix_26 (by decide) ?_
      refine lv_goto (tgt := 35) hx hb dX6_fixToSix_29 (by decide) ?_
      exact J35 (128 : Int32) _ _ _ h hI (lv_sub hl [1, 2, 3, 0] rfl)
