abbrev rm_X7_toFour_0 : Room := { frames := 7, cells := 0, slots := 0, locals := 171 }
abbrev av_X7_toFour_0 (a t : Nat → Nat) (p1 : Int32) : List Value := [.ref (a 0), .int p1]
abbrev qc_X7_toFour_0 (dC : Nat → ClassId) (dI : Nat → Nat → Nat) (a : Nat → Nat) (kA : Nat → ClassId) (sz : Nat) (M : cM) (L : cL) (Z : Int32 → cM → cL → Prop) : Array Value → State → Outcome → State → Prop := va_Qi (fun r (u : cM × cL) => Z r u.1 u.2) (rpAt dC dI a kA (rpA a sz)) (rpA a sz)
set_option maxHeartbeats 4000000 in
set_option maxRecDepth 100000 in
theorem met_X7_toFour_0 (l : Launch) (dC : Nat → ClassId) (dI : Nat → Nat → Nat) (a : Nat → Nat) (kA : Nat → ClassId) (t : Nat → Nat) (sz : Nat) (M : cM) (L : cL) (p1 : Int32) (Z : Int32 → cM → cL → Prop) (h : wp_X7_toFour_0 M L p1 Z) : Met l yX7_toFour (Cond.code yX7_toFour cX7_toFour 7 (some .int) :: uW) rm_X7_toFour_0 (va_Pc (av_X7_toFour_0 a t p1) (rpPre dC dI a kA t M L sz)) (qc_X7_toFour_0 dC dI a kA sz M L Z) 0 0 (rpA a sz) := by
  refine rpenter (cc := cX7_toFour) (n := 7) (ret := (some .int)) (by decide) rfl (Nat.le_of_ble_eq_true rfl) ?_
  intro p e s m below meth c ls hx hb hml hr hlocks hown hts hK hE hsz hI hl hmn
  have hu : ∀ w ∈ uW, w.before (av_X7_toFour_0 a t p1).toArray s = true := fun w h => hts w (List.mem_cons_of_mem _ h)
  have hown : s.vm.findClass RX7 = some m.cls := hown
  have hl : lv_has ls 7 [(0, .ref (a 0)), (1, .int p1)] := hl
  unfold wp_X7_toFour_0 at h
  refine lv_aload_n hx hb dX7_toFour_0 rfl (lv_at hl 0 rfl) ?_
  refine va_get (D := (dC, dI)) (ci := 6) (v := .ref (a 5)) (C := RX7) (T := TX7) (N := 44) hx hb hu uX7 hown hK hI.1 0 rfl rfl 23 (by decide) (hu _ uww_554) (fun _ h9 => h9) rfl dX7_toFour_1 ?_
  refine lv_iconst (v := (0 : Int32)) hx hb dX7_toFour_4 (by decide) ?_
  refine rpcalli_p hsz hI (va_runS (As := [.ref (a 5), .int (0 : Int32)]) (rest := []) ⟨hx, hb, hml, hown, hu⟩ (met_X7_octetAt_5 l dC dI a kA t _ M L (0 : Int32) _ h) (cwl_X7_111_S hu ⟨by decide, by decide⟩) (rppreS hK hE hsz hI) rfl rfl hl.1 rfl (lv_room (Nat.le_of_ble_eq_true rfl)) dX7_toFour_5 ⟨by decide, by decide⟩) (fun r1 H locs h hI => ?_)
  refine lv_istore_n (lv' := [(2, .int r1), (0, .ref (a 0)), (1, .int p1)]) hx hb dX7_toFour_8 rfl hl (by decide) rfl (fun ls hl => ?_)
  refine lv_iload_n hx hb dX7_toFour_9 rfl (lv_at hl 0 rfl) ?_
  refine lv_sipush (v := (128 : Int32)) hx hb dX7_toFour_10 (by decide) ?_
  obtain ⟨K23, hK23, h⟩ := h
  have J23 : ∀  (H : Heap) (locs : List Loc) (ls : Array Slot), K23  → rpI dC dI a kA (rpA a sz) s M L H locs → lv_has ls 7 [(0, .ref (a 0)), (1, .int p1)] → W p l e rm_X7_toFour_0 s m (av_X7_toFour_0 a t p1).toArray below meth c H locs 0 0 (MQ below (qc_X7_toFour_0 dC dI a kA sz M L Z) (av_X7_toFour_0 a t p1).toArray s 0 0 (rpA a sz)) (F0 m 23 ls []) := by
    intro  H locs ls h hI hl
    have h := hK23  h
    refine lv_aload_n hx hb dX7_toFour_23 rfl (lv_at hl 0 rfl) ?_
    refine lv_aload_n hx hb dX7_toFour_24 rfl (lv_at hl 0 rfl) ?_
    refine va_get (D := (dC, dI)) (ci := 6) (v := .ref (a 5)) (C := RX7) (T := TX7) (N := 44) hx hb hu uX7 hown hK hI.1 0 rfl rfl 23 (by decide) (hu _ uww_554) (fun _ h9 => h9) rfl dX7_toFour_25 ?_
    refine lv_iconst (v := (0 : Int32)) hx hb dX7_toFour_28 (by decide) ?_
    refine lv_iload_n hx hb dX7_toFour_29 rfl (lv_at hl 1 rfl) ?_
    refine lv_iconst (v := (0 : Int32)) hx hb dX7_toFour_30 (by decide) ?_
    refine rpcallv hsz hI (va_runV (As := [.ref (a 5), .int (0 : Int32), .int p1, .int (0 : Int32)]) (rest := []) ⟨hx, hb, hml, hown, hu⟩ (met_X7_echo_0_5 l dC dI a kA t _ M L (0 : Int32) p1 (0 : Int32) _ h) (cwl_X7_278_X7 hu ⟨by decide, by decide⟩) (rppre (ci := 6) hK hE hsz hI rfl rfl) rfl rfl hl.1 rfl (lv_room (Nat.le_of_ble_eq_true rfl)) dX7_toFour_31 ⟨by decide, by decide⟩) (fun M2 L3 H locs h hI => ?_)
    refine lv_iconst (v := (0 : Int32)) hx hb dX7_toFour_34 (by decide) ?_
    exact rpiret (Z := (fun r M' L' => Z r M' L')) hx hb hr hlocks hK hI dX7_toFour_35 h
  refine lv_icmp_eq (tgt := 23) hx hb dX7_toFour_13 (by decide) (fun c4 => ?_) (fun c4 => ?_)
  · have h := h.1 c4
    exact J23  _ _ _ h hI (lv_sub hl [1, 2] rfl)
  · have h := h.2 c4
    refine lv_iload_n hx hb dX7_toFour_16 rfl (lv_at hl 0 rfl) ?_
    refine lv_sipush (v := (129 : Int32)) hx hb dX7_toFour_17 (by decide) ?_
    refine lv_icmp_ne (tgt := 36) hx hb dX7_toFour_20 (by decide) (fun c5 => ?_) (fun c5 => ?_)
    · have h := h.1 c5
      refine lv_iload_n hx hb dX7_toFour_36 rfl (lv_at hl 0 rfl) ?_
      refine lv_iconst (v := (1 : Int32)) hx hb dX7_toFour_37 (by decide) ?_
      refine lv_icmp_lt (tgt := 46) hx hb dX7_toFour_38 (by decide) (fun c6 => ?_) (fun c6 => ?_)
      · have h := h.1 c6
        refine lv_bipush (v := (6 : Int32)) hx hb dX7_toFour_46 (by decide) ?_
        exact rpiret (Z := (fun r M' L' => Z r M' L')) hx hb hr hlocks hK hI dX7_toFour_48 h
      · have h := h.2 c6
        refine lv_iload_n hx hb dX7_toFour_41 rfl (lv_at hl 0 rfl) ?_
        refine lv_iconst (v := (4 : Int32)) hx hb dX7_toFour_42 (by decide) ?_
        refine lv_icmp_le (tgt := 49) hx hb dX7_toFour_43 (by decide) (fun c7 => ?_) (fun c7 => ?_)
        · have h := h.1 c7
          refine lv_aload_n hx hb dX7_toFour_49 rfl (lv_at hl 1 rfl) ?_
          refine lv_lconst (v := (0 : Int64)) hx hb dX7_toFour_50 (by decide) ?_
          refine rpputl (ci := 6) (C := RX7) (T := TX7) (N := 44) (ty := .long) hx hb hu uX7 tyX7 tyX7_ok nmX7 hown hK hI 0 rfl rfl 18 (by decide) (hu _ uww_593) (fun _ h9 => h9) rfl (by decide +kernel) rfl rfl (Nat.le_of_ble_eq_true rfl) (rpset_0_18 _ _ _ _ _) dX7_toFour_51 (fun H locs L8 eL8 hI => ?_)
          have h := h L8 eL8
          refine lv_aload_n hx hb dX7_toFour_54 rfl (lv_at hl 1 rfl) ?_
          refine lv_iload_n hx hb dX7_toFour_55 rfl (lv_at hl 2 rfl) ?_
          refine lv_bipush (v := (58 : Int32)) hx hb dX7_toFour_56 (by decide) ?_
          refine lv_iconst (v := (0 : Int32)) hx hb dX7_toFour_58 (by decide) ?_
          refine rpcallv_l hsz hI (va_runV (As := [.int p1, .int (58 : Int32), .int (0 : Int32)]) (rest := []) ⟨hx, hb, hml, hown, hu⟩ (met_X7_pseudo_0 l dC dI a kA t _ M L8 p1 (58 : Int32) (0 : Int32) _ h) (cwl_X7_181_X7 hu ⟨by decide, by decide⟩) (rppre (ci := 6) hK hE hsz hI rfl rfl) rfl rfl hl.1 rfl (lv_room (Nat.le_of_ble_eq_true rfl)) dX7_toFour_59 ⟨by decide, by decide⟩) (fun L9 H locs h hI => ?_)
          refine lv_aload_n hx hb dX7_toFour_62 rfl (lv_at hl 1 rfl) ?_
          refine lv_aload_n hx hb dX7_toFour_63 rfl (lv_at hl 1 rfl) ?_
          refine va_get (D := (dC, dI)) (ci := 6) (v := .ref (a 5)) (C := RX7) (T := TX7) (N := 44) hx hb hu uX7 hown hK hI.1 0 rfl rfl 23 (by decide) (hu _ uww_554) (fun _ h9 => h9) rfl dX7_toFour_64 ?_
          refine lv_iconst (v := (0 : Int32)) hx hb dX7_toFour_67 (by decide) ?_
          refine lv_iload_n hx hb dX7_toFour_68 rfl (lv_at hl 2 rfl) ?_
          refine rpcallv_l hsz hI (va_runV (As := [.ref (a 5), .int (0 : Int32), .int p1]) (rest := []) ⟨hx, hb, hml, hown, hu⟩ (met_X7_words_0_5 l dC dI a kA t _ M L9 (0 : Int32) p1 _ h) (cwl_X7_206_X7 hu ⟨by decide, by decide⟩) (rppre (ci := 6) hK hE hsz hI rfl rfl) rfl rfl hl.1 rfl (lv_room (Nat.le_of_ble_eq_true rfl)) dX7_toFour_69 ⟨by decide, by decide⟩) (fun L10 H locs h hI => ?_)
          refine lv_aload_n hx hb dX7_toFour_72 rfl (lv_at hl 1 rfl) ?_
          refine va_get (D := (dC, dI)) (ci := 6) (v := .long (L10 0 18)) (C := RX7) (T := TX7) (N := 44) hx hb hu uX7 hown hK hI.1 0 rfl rfl 18 (by decide) (hu _ uww_593) (fun _ h9 => h9) rfl dX7_toFour_73 ?_
          refine lv_ldc2 (own := RX7) (v := (65535 : Int64)) hx hb hown (hu _ uww_594) dX7_toFour_76 ?_
          refine W.lcmp hx hb dX7_toFour_79 ?_
          refine lv_if_eq (tgt := 85) hx hb dX7_toFour_80 (by decide) (fun c11 => ?_) (fun c11 => ?_)
          · have h := h.1 c11
            refine lv_aload_n hx hb dX7_toFour_85 rfl (lv_at hl 1 rfl) ?_
            refine lv_iload_n hx hb dX7_toFour_86 rfl (lv_at hl 0 rfl) ?_
            refine lv_aload_n hx hb dX7_toFour_87 rfl (lv_at hl 1 rfl) ?_
            refine va_get (D := (dC, dI)) (ci := 6) (v := .ref (a 5)) (C := RX7) (T := TX7) (N := 44) hx hb hu uX7 hown hK hI.1 0 rfl rfl 23 (by decide) (hu _ uww_554) (fun _ h9 => h9) rfl dX7_toFour_88 ?_
            refine lv_iconst (v := (1 : Int32)) hx hb dX7_toFour_91 (by decide) ?_
            refine rpcalli_p hsz hI (va_runS (As := [.ref (a 5), .int (1 : Int32)]) (rest := [.int r1, .ref (a 0)]) ⟨hx, hb, hml, hown, hu⟩ (met_X7_octetAt_5 l dC dI a kA t _ M L10 (1 : Int32) _ h) (cwl_X7_111_S hu ⟨by decide, by decide⟩) (rppreS hK hE hsz hI) rfl rfl hl.1 rfl (lv_room (Nat.le_of_ble_eq_true rfl)) dX7_toFour_92 ⟨by decide, by decide⟩) (fun r12 H locs h hI => ?_)
            refine rpcalli_m hsz hI (va_runV (As := [.int r1, .int r12]) (rest := []) ⟨hx, hb, hml, hown, hu⟩ (met_X7_errorToFour_0 l dC dI a kA t _ M L10 r1 r12 _ h) (cwl_X7_340_X7 hu ⟨by decide, by decide⟩) (rppre (ci := 6) hK hE hsz hI rfl rfl) rfl rfl hl.1 rfl (lv_room (Nat.le_of_ble_eq_true rfl)) dX7_toFour_95 ⟨by decide, by decide⟩) (fun r13 M14 H locs h hI => ?_)
            refine lv_if_ne (tgt := 104) hx hb dX7_toFour_98 (by decide) (fun c15 => ?_) (fun c15 => ?_)
            · have h := h.1 c15
              refine lv_aload_n hx hb dX7_toFour_104 rfl (lv_at hl 1 rfl) ?_
              refine va_get (D := (dC, dI)) (ci := 6) (v := .int (M14 0 25)) (C := RX7) (T := TX7) (N := 44) hx hb hu uX7 hown hK hI.1 0 rfl rfl 25 (by decide) (hu _ uww_628) (fun _ h9 => h9) rfl dX7_toFour_105 ?_
              refine lv_topi (fun x16 ex16 => ?_)
              have h := h x16 ex16
              refine lv_istore_n (lv' := [(3, .int x16), (2, .int r1), (0, .ref (a 0)), (1, .int p1)]) hx hb dX7_toFour_108 rfl hl (by decide) rfl (fun ls hl => ?_)
              refine lv_aload_n hx hb dX7_toFour_109 rfl (lv_at hl 2 rfl) ?_
              refine va_get (D := (dC, dI)) (ci := 6) (v := .int (M14 0 26)) (C := RX7) (T := TX7) (N := 44) hx hb hu uX7 hown hK hI.1 0 rfl rfl 26 (by decide) (hu _ uww_629) (fun _ h9 => h9) rfl dX7_toFour_110 ?_
              refine lv_topi (fun x17 ex17 => ?_)
              have h := h x17 ex17
              refine lv_istore (lv' := [(4, .int x17), (3, .int x16), (2, .int r1), (0, .ref (a 0)), (1, .int p1)]) hx hb dX7_toFour_113 hl (by decide) rfl (fun ls hl => ?_)
              refine lv_aload_n hx hb dX7_toFour_115 rfl (lv_at hl 3 rfl) ?_
              refine va_get (D := (dC, dI)) (ci := 6) (v := .int (M14 0 40)) (C := RX7) (T := TX7) (N := 44) hx hb hu uX7 hown hK hI.1 0 rfl rfl 40 (by decide) (hu _ uww_767) (fun _ h9 => h9) rfl dX7_toFour_116 ?_
              refine lv_topi (fun x18 ex18 => ?_)
              have h := h x18 ex18
              refine lv_istore (lv' := [(5, .int x18), (4, .int x17), (3, .int x16), (2, .int r1), (0, .ref (a 0)), (1, .int p1)]) hx hb dX7_toFour_119 hl (by decide) rfl (fun ls hl => ?_)
              refine lv_aload_n hx hb dX7_toFour_121 rfl (lv_at hl 4 rfl) ?_
              refine lv_aload_n hx hb dX7_toFour_122 rfl (lv_at hl 4 rfl) ?_
              refine va_get (D := (dC, dI)) (ci := 6) (v := .int (M14 0 40)) (C := RX7) (T := TX7) (N := 44) hx hb hu uX7 hown hK hI.1 0 rfl rfl 40 (by decide) (hu _ uww_767) (fun _ h9 => h9) rfl dX7_toFour_123 ?_
              refine lv_bipush (v := (8 : Int32)) hx hb dX7_toFour_126 (by decide) ?_
              refine lv_iadd hx hb dX7_toFour_128 ?_
              refine lv_iload_n hx hb dX7_toFour_129 rfl (lv_at hl 5 rfl) ?_
              refine lv_bipush (v := (8 : Int32)) hx hb dX7_toFour_130 (by decide) ?_
              refine lv_isub hx hb dX7_toFour_132 ?_
              refine rpcalli hsz hI (va_runV (As := [.int ((M14 0 40) + (8 : Int32)), .int (p1 - (8 : Int32))]) (rest := []) ⟨hx, hb, hml, hown, hu⟩ (met_X7_innerToFour_0 l dC dI a kA t _ M14 L10 ((M14 0 40) + (8 : Int32)) (p1 - (8 : Int32)) _ h) (cwl_X7_343_X7 hu ⟨by decide, by decide⟩) (rppre (ci := 6) hK hE hsz hI rfl rfl) rfl rfl hl.1 rfl (lv_room (Nat.le_of_ble_eq_true rfl)) dX7_toFour_133 ⟨by decide, by decide⟩) (fun r19 M20 L21 H locs h hI => ?_)
              refine lv_istore (lv' := [(6, .int r19), (5, .int x18), (4, .int x17), (3, .int x16), (2, .int r1), (0, .ref (a 0)), (1, .int p1)]) hx hb dX7_toFour_136 hl (by decide) rfl (fun ls hl => ?_)
              refine lv_aload_n hx hb dX7_toFour_138 rfl (lv_at hl 5 rfl) ?_
              refine lv_iload_n hx hb dX7_toFour_139 rfl (lv_at hl 3 rfl) ?_
              refine rpput (ci := 6) (C := RX7) (T := TX7) (N := 44) (ty := .int) hx hb hu uX7 tyX7 tyX7_ok nmX7 hown hK hI 0 rfl rfl 25 (by decide) (hu _ uww_628) (fun _ h9 => h9) rfl (by decide +kernel) rfl rfl (Nat.le_of_ble_eq_true rfl) (rpset_0_25 _ _ _ _ _) dX7_toFour_140 (fun H locs M22 eM22 hI => ?_)
              have h := h M22 eM22
              refine lv_aload_n hx hb dX7_toFour_143 rfl (lv_at hl 5 rfl) ?_
              refine lv_iload hx hb dX7_toFour_144 (lv_at hl 2 rfl) ?_
              refine rpput (ci := 6) (C := RX7) (T := TX7) (N := 44) (ty := .int) hx hb hu uX7 tyX7 tyX7_ok nmX7 hown hK hI 0 rfl rfl 26 (by decide) (hu _ uww_629) (fun _ h9 => h9) rfl (by decide +kernel) rfl rfl (Nat.le_of_ble_eq_true rfl) (rpset_0_26 _ _ _ _ _) dX7_toFour_146 (fun H locs M23 eM23 hI => ?_)
              have h := h M23 eM23
              refine lv_aload_n hx hb dX7_toFour_149 rfl (lv_at hl 5 rfl) ?_
              refine lv_iload hx hb dX7_toFour_150 (lv_at hl 1 rfl) ?_
              refine rpput (ci := 6) (C := RX7) (T := TX7) (N := 44) (ty := .int) hx hb hu uX7 tyX7 tyX7_ok nmX7 hown hK hI 0 rfl rfl 40 (by decide) (hu _ uww_767) (fun _ h9 => h9) rfl (by decide +kernel) rfl rfl (Nat.le_of_ble_eq_true rfl) (rpset_0_40 _ _ _ _ _) dX7_toFour_152 (fun H locs M24 eM24 hI => ?_)
              have h := h M24 eM24
              refine lv_aload_n hx hb dX7_toFour_155 rfl (lv_at hl 5 rfl) ?_
              refine lv_bipush (v := (58 : Int32)) hx hb dX7_toFour_156 (by decide) ?_
              refine rpput (ci := 6) (C := RX7) (T := TX7) (N := 44) (ty := .int) hx hb hu uX7 tyX7 tyX7_ok nmX7 hown hK hI 0 rfl rfl 35 (by decide) (hu _ uww_671) (fun _ h9 => h9) rfl (by decide +kernel) rfl rfl (Nat.le_of_ble_eq_true rfl) (rpset_0_35 _ _ _ _ _) dX7_toFour_158 (fun H locs M25 eM25 hI => ?_)
              have h := h M25 eM25
              refine lv_aload_n hx hb dX7_toFour_161 rfl (lv_at hl 5 rfl) ?_
              refine lv_iconst (v := (0 : Int32)) hx hb dX7_toFour_162 (by decide) ?_
              refine rpput (ci := 6) (C := RX7) (T := TX7) (N := 44) (ty := .int) hx hb hu uX7 tyX7 tyX7_ok nmX7 hown hK hI 0 rfl rfl 33 (by decide) (hu _ uww_669) (fun _ h9 => h9) rfl (by decide +kernel) rfl rfl (Nat.le_of_ble_eq_true rfl) (rpset_0_33 _ _ _ _ _) dX7_toFour_163 (fun H locs M26 eM26 hI => ?_)
              have h := h M26 eM26
              refine lv_aload_n hx hb dX7_toFour_166 rfl (lv_at hl 5 rfl) ?_
              refine lv_iconst (v := (0 : Int32)) hx hb dX7_toFour_167 (by decide) ?_
              refine rpput (ci := 6) (C := RX7) (T := TX7) (N := 44) (ty := .boolean) hx hb hu uX7 tyX7 tyX7_ok nmX7 hown hK hI 0 rfl rfl 34 (by decide) (hu _ uww_670) (fun _ h9 => h9) rfl (by decide +kernel) isB_0.1 isB_0.2 (Nat.le_of_ble_eq_true rfl) (rpset_0_34 _ _ _ _ _) dX7_toFour_168 (fun H locs M27 eM27 hI => ?_)
              have h := h M27 eM27
              refine lv_iload hx hb dX7_toFour_171 (lv_at hl 0 rfl) ?_
              refine lv_if_ne (tgt := 179) hx hb dX7_toFour_173 (by decide) (fun c28 => ?_) (fun c28 => ?_)
              · have h := h.1 c28
                refine lv_aload_n hx hb dX7_toFour_179 rfl (lv_at hl 5 rfl) ?_
                refine va_get (D := (dC, dI)) (ci := 6) (v := .int (M27 0 24)) (C := RX7) (T := TX7) (N := 44) hx hb hu uX7 hown hK hI.1 0 rfl rfl 24 (by decide) (hu _ uww_626) (fun _ h9 => h9) rfl dX7_toFour_180 ?_
                refine lv_sipush (v := (556 : Int32)) hx hb dX7_toFour_183 (by decide) ?_
                obtain ⟨K196, hK196, h⟩ := h
                have J196 : ∀ (M29 : cM) (H : Heap) (locs : List Loc) (ls : Array Slot), K196 M29 → rpI dC dI a kA (rpA a sz) s M29 L21 H locs → lv_has ls 7 [(0, .ref (a 0))] → W p l e rm_X7_toFour_0 s m (av_X7_toFour_0 a t p1).toArray below meth c H locs 0 0 (MQ below (qc_X7_toFour_0 dC dI a kA sz M L Z) (av_X7_toFour_0 a t p1).toArray s 0 0 (rpA a sz)) (F0 m 196 ls []) := by
                  intro M29 H locs ls h hI hl
                  have h := hK196 M29 h
                  refine lv_aload_n hx hb dX7_toFour_196 rfl (lv_at hl 0 rfl) ?_
                  refine va_get (D := (dC, dI)) (ci := 6) (v := .ref (a 5)) (C := RX7) (T := TX7) (N := 44) hx hb hu uX7 hown hK hI.1 0 rfl rfl 23 (by decide) (hu _ uww_554) (fun _ h9 => h9) rfl dX7_toFour_197 ?_
                  refine lv_iconst (v := (0 : Int32)) hx hb dX7_toFour_200 (by decide) ?_
                  refine lv_aload_n hx hb dX7_toFour_201 rfl (lv_at hl 0 rfl) ?_
                  refine va_get (D := (dC, dI)) (ci := 6) (v := .int (M29 0 37)) (C := RX7) (T := TX7) (N := 44) hx hb hu uX7 hown hK hI.1 0 rfl rfl 37 (by decide) (hu _ uww_726) (fun _ h9 => h9) rfl dX7_toFour_202 ?_
                  refine lv_bipush (v := (24 : Int32)) hx hb dX7_toFour_205 (by decide) ?_
                  refine lv_ishl hx hb dX7_toFour_207 ?_
                  refine lv_aload_n hx hb dX7_toFour_208 rfl (lv_at hl 0 rfl) ?_
                  refine va_get (D := (dC, dI)) (ci := 6) (v := .int (M29 0 38)) (C := RX7) (T := TX7) (N := 44) hx hb hu uX7 hown hK hI.1 0 rfl rfl 38 (by decide) (hu _ uww_727) (fun _ h9 => h9) rfl dX7_toFour_209 ?_
                  refine lv_bipush (v := (16 : Int32)) hx hb dX7_toFour_212 (by decide) ?_
                  refine lv_ishl hx hb dX7_toFour_214 ?_
                  refine lv_ior hx hb dX7_toFour_215 ?_
                  refine rpcallv_m hsz hI (va_runS (As := [.ref (a 5), .int (0 : Int32), .int (((M29 0 37) <<< ((24 : Int32) &&& 31)) ||| ((M29 0 38) <<< ((16 : Int32) &&& 31)))]) (rest := []) ⟨hx, hb, hml, hown, hu⟩ (met_X7_putInt_5 l dC dI a kA t _ M29 L21 (0 : Int32) (((M29 0 37) <<< ((24 : Int32) &&& 31)) ||| ((M29 0 38) <<< ((16 : Int32) &&& 31))) _ h) (cwl_X7_125_S hu ⟨by decide, by decide⟩) (rppreS hK hE hsz hI) rfl rfl hl.1 rfl (lv_room (Nat.le_of_ble_eq_true rfl)) dX7_toFour_216 ⟨by decide, by decide⟩) (fun M30 H locs h hI => ?_)
                  refine lv_aload_n hx hb dX7_toFour_219 rfl (lv_at hl 0 rfl) ?_
                  refine va_get (D := (dC, dI)) (ci := 6) (v := .ref (a 5)) (C := RX7) (T := TX7) (N := 44) hx hb hu uX7 hown hK hI.1 0 rfl rfl 23 (by decide) (hu _ uww_554) (fun _ h9 => h9) rfl dX7_toFour_220 ?_
                  refine lv_iconst (v := (4 : Int32)) hx hb dX7_toFour_223 (by decide) ?_
                  refine lv_aload_n hx hb dX7_toFour_224 rfl (lv_at hl 0 rfl) ?_
                  refine va_get (D := (dC, dI)) (ci := 6) (v := .int (M30 0 39)) (C := RX7) (T := TX7) (N := 44) hx hb hu uX7 hown hK hI.1 0 rfl rfl 39 (by decide) (hu _ uww_728) (fun _ h9 => h9) rfl dX7_toFour_225 ?_
                  refine rpcallv_m hsz hI (va_runS (As := [.ref (a 5), .int (4 : Int32), .int (M30 0 39)]) (rest := []) ⟨hx, hb, hml, hown, hu⟩ (met_X7_putInt_5 l dC dI a kA t _ M30 L21 (4 : Int32) (M30 0 39) _ h) (cwl_X7_125_S hu ⟨by decide, by decide⟩) (rppreS hK hE hsz hI) rfl rfl hl.1 rfl (lv_room (Nat.le_of_ble_eq_true rfl)) dX7_toFour_228 ⟨by decide, by decide⟩) (fun M31 H locs h hI => ?_)
                  refine lv_aload_n hx hb dX7_toFour_231 rfl (lv_at hl 0 rfl) ?_
                  refine lv_lconst (v := (0 : Int64)) hx hb dX7_toFour_232 (by decide) ?_
                  refine rpputl (ci := 6) (C := RX7) (T := TX7) (N := 44) (ty := .long) hx hb hu uX7 tyX7 tyX7_ok nmX7 hown hK hI 0 rfl rfl 18 (by decide) (hu _ uww_593) (fun _ h9 => h9) rfl (by decide +kernel) rfl rfl (Nat.le_of_ble_eq_true rfl) (rpset_0_18 _ _ _ _ _) dX7_toFour_233 (fun H locs L32 eL32 hI => ?_)
                  have h := h L32 eL32
                  refine lv_aload_n hx hb dX7_toFour_236 rfl (lv_at hl 0 rfl) ?_
                  refine lv_aload_n hx hb dX7_toFour_237 rfl (lv_at hl 0 rfl) ?_
                  refine va_get (D := (dC, dI)) (ci := 6) (v := .ref (a 5)) (C := RX7) (T := TX7) (N := 44) hx hb hu uX7 hown hK hI.1 0 rfl rfl 23 (by decide) (hu _ uww_554) (fun _ h9 => h9) rfl dX7_toFour_238 ?_
                  refine lv_iconst (v := (0 : Int32)) hx hb dX7_toFour_241 (by decide) ?_
                  refine lv_aload_n hx hb dX7_toFour_242 rfl (lv_at hl 0 rfl) ?_
                  refine va_get (D := (dC, dI)) (ci := 6) (v := .int (M31 0 24)) (C := RX7) (T := TX7) (N := 44) hx hb hu uX7 hown hK hI.1 0 rfl rfl 24 (by decide) (hu _ uww_626) (fun _ h9 => h9) rfl dX7_toFour_243 ?_
                  refine rpcallv_l hsz hI (va_runV (As := [.ref (a 5), .int (0 : Int32), .int (M31 0 24)]) (rest := []) ⟨hx, hb, hml, hown, hu⟩ (met_X7_words_0_5 l dC dI a kA t _ M31 L32 (0 : Int32) (M31 0 24) _ h) (cwl_X7_206_X7 hu ⟨by decide, by decide⟩) (rppre (ci := 6) hK hE hsz hI rfl rfl) rfl rfl hl.1 rfl (lv_room (Nat.le_of_ble_eq_true rfl)) dX7_toFour_246 ⟨by decide, by decide⟩) (fun L33 H locs h hI => ?_)
                  refine lv_aload_n hx hb dX7_toFour_249 rfl (lv_at hl 0 rfl) ?_
                  refine va_get (D := (dC, dI)) (ci := 6) (v := .ref (a 5)) (C := RX7) (T := TX7) (N := 44) hx hb hu uX7 hown hK hI.1 0 rfl rfl 23 (by decide) (hu _ uww_554) (fun _ h9 => h9) rfl dX7_toFour_250 ?_
                  refine lv_iconst (v := (2 : Int32)) hx hb dX7_toFour_253 (by decide) ?_
                  refine lv_aload_n hx hb dX7_toFour_254 rfl (lv_at hl 0 rfl) ?_
                  refine rpcalli_p hsz hI (va_runV (As := []) (rest := [.int (2 : Int32), .ref (a 5)]) ⟨hx, hb, hml, hown, hu⟩ (met_X7_checksum_0 l dC dI a kA t _ M31 L33  _ h) (cwl_X7_177_X7 hu ⟨by decide, by decide⟩) (rppre (ci := 6) hK hE hsz hI rfl rfl) rfl rfl hl.1 rfl (lv_room (Nat.le_of_ble_eq_true rfl)) dX7_toFour_255 ⟨by decide, by decide⟩) (fun r34 H locs h hI => ?_)
                  refine rpcallv_m hsz hI (va_runS (As := [.ref (a 5), .int (2 : Int32), .int r34]) (rest := []) ⟨hx, hb, hml, hown, hu⟩ (met_X7_putTwo_5 l dC dI a kA t _ M31 L33 (2 : Int32) r34 _ h) (cwl_X7_121_S hu ⟨by decide, by decide⟩) (rppreS hK hE hsz hI) rfl rfl hl.1 rfl (lv_room (Nat.le_of_ble_eq_true rfl)) dX7_toFour_258 ⟨by decide, by decide⟩) (fun M35 H locs h hI => ?_)
                  refine lv_iconst (v := (0 : Int32)) hx hb dX7_toFour_261 (by decide) ?_
                  exact rpiret (Z := (fun r M' L' => Z r M' L')) hx hb hr hlocks hK hI dX7_toFour_262 h
                refine lv_icmp_le (tgt := 196) hx hb dX7_toFour_186 (by decide) (fun c36 => ?_) (fun c36 => ?_)
                · have h := h.1 c36
                  exact J196 M27 _ _ _ h hI (lv_sub hl [5] rfl)
                · have h := h.2 c36
                  refine lv_aload_n hx hb dX7_toFour_189 rfl (lv_at hl 5 rfl) ?_
                  refine lv_sipush (v := (556 : Int32)) hx hb dX7_toFour_190 (by decide) ?_
                  refine rpput (ci := 6) (C := RX7) (T := TX7) (N := 44) (ty := .int) hx hb hu uX7 tyX7 tyX7_ok nmX7 hown hK hI 0 rfl rfl 24 (by decide) (hu _ uww_626) (fun _ h9 => h9) rfl (by decide +kernel) rfl rfl (Nat.le_of_ble_eq_true rfl) (rpset_0_24 _ _ _ _ _) dX7_toFour_193 (fun H locs M37 eM37 hI => ?_)
                  have h := h M37 eM37
                  exact J196 M37 _ _ _ h hI (lv_sub hl [5] rfl)
              · have h := h.2 c28
                refine lv_bipush (v := (8 : Int32)) hx hb dX7_toFour_176 (by decide) ?_
                exact rpiret (Z := (fun r M' L' => Z r M' L')) hx hb hr hlocks hK hI dX7_toFour_178 h
            · have h := h.2 c15
              refine lv_bipush (v := (8 : Int32)) hx hb dX7_toFour_101 (by decide) ?_
              exact rpiret (Z := (fun r M' L' => Z r M' L')) hx hb hr hlocks hK hI dX7_toFour_103 h
          · have h := h.2 c11
            refine lv_iconst (v := (4 : Int32)) hx hb dX7_toFour_83 (by decide) ?_
            exact rpiret (Z := (fun r M' L' => Z r M' L')) hx hb hr hlocks hK hI dX7_toFour_84 h
        · have h := h.2 c7
          refine lv_bipush (v := (6 : Int32)) hx hb dX7_toFour_46 (by decide) ?_
          exact rpiret (Z := (fun r M' L' => Z r M' L')) hx hb hr hlocks hK hI dX7_toFour_48 h
    · have h := h.2 c5
      exact J23  _ _ _ h hI (lv_sub hl [1, 2] rfl)

abbrev rm_X7_six_0 : Room := { frames := 8, cells := 0, slots := 0, locals := 197 }
abbrev av_X7_six_0 (a t : Nat → Nat)  : List Value := [.ref (a 0)]
abbrev qc_X7_six_0 (dC : Nat → ClassId) (dI : Nat → Nat → Nat) (a : Nat → Nat) (kA : Nat → ClassId) (sz : Nat) (M : cM) (L : cL) (Z : Int32 → cM → cL → Prop) : Array Value → State → Outcome → State → Prop := va_Qi (fun r (u : cM × cL) => Z r u.1 u.2) (rpAt dC dI a kA (rpA a sz)) (rpA a sz)
set_option maxHeartbeats 4000000 in
set_option maxRecDepth 100000 in
theorem met_X7_six_0 (l : Launch) (dC : Nat → ClassId) (dI : Nat → Nat → Nat) (a : Nat → Nat) (kA : Nat → ClassId) (t : Nat → Nat) (sz : Nat) (M : cM) (L : cL)  (Z : Int32 → cM → cL → Prop) (h : wp_X7_six_0 M L  Z) : Met l yX7_six (Cond.code yX7_six cX7_six 15 (some .int) :: uW) rm_X7_six_0 (va_Pc (av_X7_six_0 a t ) (rpPre dC dI a kA t M L sz)) (qc_X7_six_0 dC dI a kA sz M L Z) 0 0 (rpA a sz) := by
  refine rpenter (cc := cX7_six) (n := 15) (ret := (some .int)) (by decide) rfl (Nat.le_of_ble_eq_true rfl) ?_
  intro p e s m below meth c ls hx hb hml hr hlocks hown hts hK hE hsz hI hl hmn
  have hu : ∀ w ∈ uW, w.before (av_X7_six_0 a t ).toArray s = true := fun w h => hts w (List.mem_cons_of_mem _ h)
  have hown : s.vm.findClass RX7 = some m.cls := hown
  have hl : lv_has ls 15 [(0, .ref (a 0))] := hl
  unfold wp_X7_six_0 at h
  refine lv_aload_n hx hb dX7_six_0 rfl (lv_at hl 0 rfl) ?_
  refine rpcallv_m hsz hI (va_runV (As := []) (rest := []) ⟨hx, hb, hml, hown, hu⟩ (met_X7_begin_0 l dC dI a kA t _ M L  _ h) (cwl_X7_226_X7 hu ⟨by decide, by decide⟩) (rppre (ci := 6) hK hE hsz hI rfl rfl) rfl rfl hl.1 rfl (lv_room (Nat.le_of_ble_eq_true rfl)) dX7_six_1 ⟨by decide, by decide⟩) (fun M1 H locs h hI => ?_)
  refine lv_aload_n hx hb dX7_six_4 rfl (lv_at hl 0 rfl) ?_
  refine va_get (D := (dC, dI)) (ci := 6) (v := .int (M1 0 2)) (C := RX7) (T := TX7) (N := 44) hx hb hu uX7 hown hK hI.1 0 rfl rfl 2 (by decide) (hu _ uww_558) (fun _ h9 => h9) rfl dX7_six_5 ?_
  refine lv_topi (fun x2 ex2 => ?_)
  have h := h x2 ex2
  refine lv_istore_n (lv' := [(1, .int x2), (0, .ref (a 0))]) hx hb dX7_six_8 rfl hl (by decide) rfl (fun ls hl => ?_)
  refine lv_aload_n hx hb dX7_six_9 rfl (lv_at hl 1 rfl) ?_
  refine lv_iconst (v := (0 : Int32)) hx hb dX7_six_10 (by decide) ?_
  refine rpput (ci := 6) (C := RX7) (T := TX7) (N := 44) (ty := .int) hx hb hu uX7 tyX7 tyX7_ok nmX7 hown hK hI 0 rfl rfl 2 (by decide) (hu _ uww_558) (fun _ h9 => h9) rfl (by decide +kernel) rfl rfl (Nat.le_of_ble_eq_true rfl) (rpset_0_2 _ _ _ _ _) dX7_six_11 (fun H locs M3 eM3 hI => ?_)
  have h := h M3 eM3
  refine lv_aload_n hx hb dX7_six_14 rfl (lv_at hl 1 rfl) ?_
  refine lv_iload_n hx hb dX7_six_15 rfl (lv_at hl 0 rfl) ?_
  refine rpcalli_m hsz hI (va_runV (As := [.int x2]) (rest := []) ⟨hx, hb, hml, hown, hu⟩ (met_X7_isFormed6_0 l dC dI a kA t _ M3 L x2 _ h) (cwl_X7_315_X7 hu ⟨by decide, by decide⟩) (rppre (ci := 6) hK hE hsz hI rfl rfl) rfl rfl hl.1 rfl (lv_room (Nat.le_of_ble_eq_true rfl)) dX7_six_16 ⟨by decide, by decide⟩) (fun r4 M5 H locs h hI => ?_)
  refine lv_if_ne (tgt := 28) hx hb dX7_six_19 (by decide) (fun c6 => ?_) (fun c6 => ?_)
  · have h := h.1 c6
    refine lv_aload_n hx hb dX7_six_28 rfl (lv_at hl 1 rfl) ?_
    refine lv_aload_n hx hb dX7_six_29 rfl (lv_at hl 1 rfl) ?_
    refine va_get (D := (dC, dI)) (ci := 6) (v := .ref (a 1)) (C := RX7) (T := TX7) (N := 44) hx hb hu uX7 hown hK hI.1 0 rfl rfl 1 (by decide) (hu _ uww_538) (fun _ h9 => h9) rfl dX7_six_30 ?_
    refine lv_iconst (v := (0 : Int32)) hx hb dX7_six_33 (by decide) ?_
    refine rpcalli hsz hI (va_runV (As := [.ref (a 1), .int (0 : Int32)]) (rest := []) ⟨hx, hb, hml, hown, hu⟩ (met_X7_addressesOf_0_1 l dC dI a kA t _ M5 L (0 : Int32) _ h) (cwl_X7_318_X7 hu ⟨by decide, by decide⟩) (rppre (ci := 6) hK hE hsz hI rfl rfl) rfl rfl hl.1 rfl (lv_room (Nat.le_of_ble_eq_true rfl)) dX7_six_34 ⟨by decide, by decide⟩) (fun r7 M8 L9 H locs h hI => ?_)
    refine lv_istore_n (lv' := [(2, .int r7), (1, .int x2), (0, .ref (a 0))]) hx hb dX7_six_37 rfl hl (by decide) rfl (fun ls hl => ?_)
    refine lv_aload_n hx hb dX7_six_38 rfl (lv_at hl 2 rfl) ?_
    refine lv_aload_n hx hb dX7_six_39 rfl (lv_at hl 2 rfl) ?_
    refine va_get (D := (dC, dI)) (ci := 6) (v := .long (L9 0 27)) (C := RX7) (T := TX7) (N := 44) hx hb hu uX7 hown hK hI.1 0 rfl rfl 27 (by decide) (hu _ uww_630) (fun _ h9 => h9) rfl dX7_six_40 ?_
    refine lv_aload_n hx hb dX7_six_43 rfl (lv_at hl 2 rfl) ?_
    refine va_get (D := (dC, dI)) (ci := 6) (v := .long (L9 0 28)) (C := RX7) (T := TX7) (N := 44) hx hb hu uX7 hown hK hI.1 0 rfl rfl 28 (by decide) (hu _ uww_631) (fun _ h9 => h9) rfl dX7_six_44 ?_
    refine rpcalli hsz hI (va_runV (As := [.long (L9 0 27), .long (L9 0 28)]) (rest := []) ⟨hx, hb, hml, hown, hu⟩ (met_X7_isImage_0 l dC dI a kA t _ M8 L9 (L9 0 27) (L9 0 28) _ h) (cwl_X7_94_X7 hu ⟨by decide, by decide⟩) (rppre (ci := 6) hK hE hsz hI rfl rfl) rfl rfl hl.1 rfl (lv_room (Nat.le_of_ble_eq_true rfl)) dX7_six_47 ⟨by decide, by decide⟩) (fun r10 M11 L12 H locs h hI => ?_)
    refine lv_if_ne (tgt := 59) hx hb dX7_six_50 (by decide) (fun c13 => ?_) (fun c13 => ?_)
    · have h := h.1 c13
      refine lv_iload_n hx hb dX7_six_59 rfl (lv_at hl 0 rfl) ?_
      refine lv_if_ne (tgt := 69) hx hb dX7_six_60 (by decide) (fun c14 => ?_) (fun c14 => ?_)
      · have h := h.1 c14
        refine lv_aload_n hx hb dX7_six_69 rfl (lv_at hl 2 rfl) ?_
        refine va_get (D := (dC, dI)) (ci := 6) (v := .int (M11 0 42)) (C := RX7) (T := TX7) (N := 44) hx hb hu uX7 hown hK hI.1 0 rfl rfl 42 (by decide) (hu _ uww_765) (fun _ h9 => h9) rfl dX7_six_70 ?_
        refine lv_if_lt (tgt := 87) hx hb dX7_six_73 (by decide) (fun c15 => ?_) (fun c15 => ?_)
        · have h := h.1 c15
          refine lv_aload_n hx hb dX7_six_87 rfl (lv_at hl 2 rfl) ?_
          refine va_get (D := (dC, dI)) (ci := 6) (v := .ref (a 1)) (C := RX7) (T := TX7) (N := 44) hx hb hu uX7 hown hK hI.1 0 rfl rfl 1 (by decide) (hu _ uww_538) (fun _ h9 => h9) rfl dX7_six_88 ?_
          refine lv_bipush (v := (7 : Int32)) hx hb dX7_six_91 (by decide) ?_
          refine rpcalli_p hsz hI (va_runS (As := [.ref (a 1), .int (7 : Int32)]) (rest := []) ⟨hx, hb, hml, hown, hu⟩ (met_X7_octetAt_1 l dC dI a kA t _ M11 L12 (7 : Int32) _ h) (cwl_X7_111_S hu ⟨by decide, by decide⟩) (rppreS hK hE hsz hI) rfl rfl hl.1 rfl (lv_room (Nat.le_of_ble_eq_true rfl)) dX7_six_93 ⟨by decide, by decide⟩) (fun r16 H locs h hI => ?_)
          refine lv_istore_n (lv' := [(3, .int r16), (2, .int r7), (1, .int x2), (0, .ref (a 0))]) hx hb dX7_six_96 rfl hl (by decide) rfl (fun ls hl => ?_)
          refine lv_iload_n hx hb dX7_six_97 rfl (lv_at hl 0 rfl) ?_
          refine lv_iconst (v := (2 : Int32)) hx hb dX7_six_98 (by decide) ?_
          refine lv_icmp_ge (tgt := 110) hx hb dX7_six_99 (by decide) (fun c17 => ?_) (fun c17 => ?_)
          · have h := h.1 c17
            refine lv_aload_n hx hb dX7_six_110 rfl (lv_at hl 3 rfl) ?_
            refine va_get (D := (dC, dI)) (ci := 6) (v := .int (M11 0 35)) (C := RX7) (T := TX7) (N := 44) hx hb hu uX7 hown hK hI.1 0 rfl rfl 35 (by decide) (hu _ uww_671) (fun _ h9 => h9) rfl dX7_six_111 ?_
            refine rpcalli_p hsz hI (va_runS (As := [.int (M11 0 35)]) (rest := []) ⟨hx, hb, hml, hown, hu⟩ (met_X7_isBarred6 l dC dI a kA t _ M11 L12 (M11 0 35) _ h) (cwl_X7_325_S hu ⟨by decide, by decide⟩) (rppreS hK hE hsz hI) rfl rfl hl.1 rfl (lv_room (Nat.le_of_ble_eq_true rfl)) dX7_six_114 ⟨by decide, by decide⟩) (fun r18 H locs h hI => ?_)
            refine lv_if_eq (tgt := 127) hx hb dX7_six_117 (by decide) (fun c19 => ?_) (fun c19 => ?_)
            · have h := h.1 c19
              refine lv_aload_n hx hb dX7_six_127 rfl (lv_at hl 3 rfl) ?_
              refine va_get (D := (dC, dI)) (ci := 6) (v := .int (M11 0 35)) (C := RX7) (T := TX7) (N := 44) hx hb hu uX7 hown hK hI.1 0 rfl rfl 35 (by decide) (hu _ uww_671) (fun _ h9 => h9) rfl dX7_six_128 ?_
              refine lv_bipush (v := (58 : Int32)) hx hb dX7_six_131 (by decide) ?_
              obtain ⟨K156, hK156, h⟩ := h
              have J156 : ∀  (H : Heap) (locs : List Loc) (ls : Array Slot), K156  → rpI dC dI a kA (rpA a sz) s M11 L12 H locs → lv_has ls 15 [(0, .ref (a 0)), (3, .int r16)] → W p l e rm_X7_six_0 s m (av_X7_six_0 a t ).toArray below meth c H locs 0 0 (MQ below (qc_X7_six_0 dC dI a kA sz M L Z) (av_X7_six_0 a t ).toArray s 0 0 (rpA a sz)) (F0 m 156 ls []) := by
                intro  H locs ls h hI hl
                have h := hK156  h
                refine lv_bipush (v := (40 : Int32)) hx hb dX7_six_156 (by decide) ?_
                refine lv_aload_n hx hb dX7_six_158 rfl (lv_at hl 0 rfl) ?_
                refine va_get (D := (dC, dI)) (ci := 6) (v := .int (M11 0 43)) (C := RX7) (T := TX7) (N := 44) hx hb hu uX7 hown hK hI.1 0 rfl rfl 43 (by decide) (hu _ uww_769) (fun _ h9 => h9) rfl dX7_six_159 ?_
                refine lv_iadd hx hb dX7_six_162 ?_
                refine lv_aload_n hx hb dX7_six_163 rfl (lv_at hl 0 rfl) ?_
                refine va_get (D := (dC, dI)) (ci := 6) (v := .int (M11 0 40)) (C := RX7) (T := TX7) (N := 44) hx hb hu uX7 hown hK hI.1 0 rfl rfl 40 (by decide) (hu _ uww_767) (fun _ h9 => h9) rfl dX7_six_164 ?_
                refine lv_isub hx hb dX7_six_167 ?_
                refine lv_topi (fun x20 ex20 => ?_)
                have h := h x20 ex20
                refine lv_istore (lv' := [(4, .int x20), (0, .ref (a 0)), (3, .int r16)]) hx hb dX7_six_168 hl (by decide) rfl (fun ls hl => ?_)
                refine lv_aload_n hx hb dX7_six_170 rfl (lv_at hl 1 rfl) ?_
                refine va_get (D := (dC, dI)) (ci := 6) (v := .int (M11 0 33)) (C := RX7) (T := TX7) (N := 44) hx hb hu uX7 hown hK hI.1 0 rfl rfl 33 (by decide) (hu _ uww_669) (fun _ h9 => h9) rfl dX7_six_171 ?_
                obtain ⟨K197, hK197, h⟩ := h
                have J197 : ∀ (v21 : Int32) (H : Heap) (locs : List Loc) (ls : Array Slot), K197 v21 → rpI dC dI a kA (rpA a sz) s M11 L12 H locs → lv_has ls 15 [(0, .ref (a 0)), (3, .int r16), (4, .int x20)] → W p l e rm_X7_six_0 s m (av_X7_six_0 a t ).toArray below meth c H locs 0 0 (MQ below (qc_X7_six_0 dC dI a kA sz M L Z) (av_X7_six_0 a t ).toArray s 0 0 (rpA a sz)) (F0 m 197 ls [.int v21]) := by
                  intro v21 H locs ls h hI hl
                  have h := hK197 v21 h
                  refine lv_istore (lv' := [(5, .int v21), (0, .ref (a 0)), (3, .int r16), (4, .int x20)]) hx hb dX7_six_197 hl (by decide) rfl (fun ls hl => ?_)
                  refine lv_iload hx hb dX7_six_199 (lv_at hl 0 rfl) ?_
                  refine lv_if_le (tgt := 211) hx hb dX7_six_201 (by decide) (fun c22 => ?_) (fun c22 => ?_)
                  · have h := h.1 c22
                    refine lv_aload_n hx hb dX7_six_211 rfl (lv_at hl 1 rfl) ?_
                    refine va_get (D := (dC, dI)) (ci := 6) (v := .int (M11 0 35)) (C := RX7) (T := TX7) (N := 44) hx hb hu uX7 hown hK hI.1 0 rfl rfl 35 (by decide) (hu _ uww_671) (fun _ h9 => h9) rfl dX7_six_212 ?_
                    refine lv_bipush (v := (17 : Int32)) hx hb dX7_six_215 (by decide) ?_
                    obtain ⟨K251, hK251, h⟩ := h
                    have J251 : ∀  (H : Heap) (locs : List Loc) (ls : Array Slot), K251  → rpI dC dI a kA (rpA a sz) s M11 L12 H locs → lv_has ls 15 [(0, .ref (a 0)), (3, .int r16), (4, .int x20)] → W p l e rm_X7_six_0 s m (av_X7_six_0 a t ).toArray below meth c H locs 0 0 (MQ below (qc_X7_six_0 dC dI a kA sz M L Z) (av_X7_six_0 a t ).toArray s 0 0 (rpA a sz)) (F0 m 251 ls []) := by
                      intro  H locs ls h hI hl
                      have h := hK251  h
                      refine lv_aload_n hx hb dX7_six_251 rfl (lv_at hl 0 rfl) ?_
                      refine lv_aload_n hx hb dX7_six_252 rfl (lv_at hl 0 rfl) ?_
                      refine va_get (D := (dC, dI)) (ci := 6) (v := .ref (a 1)) (C := RX7) (T := TX7) (N := 44) hx hb hu uX7 hown hK hI.1 0 rfl rfl 1 (by decide) (hu _ uww_538) (fun _ h9 => h9) rfl dX7_six_253 ?_
                      refine lv_aload_n hx hb dX7_six_256 rfl (lv_at hl 0 rfl) ?_
                      refine va_get (D := (dC, dI)) (ci := 6) (v := .int (M11 0 40)) (C := RX7) (T := TX7) (N := 44) hx hb hu uX7 hown hK hI.1 0 rfl rfl 40 (by decide) (hu _ uww_767) (fun _ h9 => h9) rfl dX7_six_257 ?_
                      refine lv_iload hx hb dX7_six_260 (lv_at hl 2 rfl) ?_
                      refine rpcallv_m hsz hI (va_runV (As := [.ref (a 1), .int (M11 0 40), .int x20]) (rest := []) ⟨hx, hb, hml, hown, hu⟩ (met_X7_carry_0_1 l dC dI a kA t _ M11 L12 (M11 0 40) x20 _ h) (cwl_X7_247_X7 hu ⟨by decide, by decide⟩) (rppre (ci := 6) hK hE hsz hI rfl rfl) rfl rfl hl.1 rfl (lv_room (Nat.le_of_ble_eq_true rfl)) dX7_six_262 ⟨by decide, by decide⟩) (fun M23 H locs h hI => ?_)
                      refine lv_aload_n hx hb dX7_six_265 rfl (lv_at hl 0 rfl) ?_
                      refine va_get (D := (dC, dI)) (ci := 6) (v := .int (M23 0 41)) (C := RX7) (T := TX7) (N := 44) hx hb hu uX7 hown hK hI.1 0 rfl rfl 41 (by decide) (hu _ uww_764) (fun _ h9 => h9) rfl dX7_six_266 ?_
                      refine lv_topi (fun x24 ex24 => ?_)
                      have h := h x24 ex24
                      refine lv_istore (lv' := [(6, .int x24), (0, .ref (a 0)), (3, .int r16), (4, .int x20)]) hx hb dX7_six_269 hl (by decide) rfl (fun ls hl => ?_)
                      refine lv_aload_n hx hb dX7_six_271 rfl (lv_at hl 1 rfl) ?_
                      refine va_get (D := (dC, dI)) (ci := 6) (v := .int (M23 0 35)) (C := RX7) (T := TX7) (N := 44) hx hb hu uX7 hown hK hI.1 0 rfl rfl 35 (by decide) (hu _ uww_671) (fun _ h9 => h9) rfl dX7_six_272 ?_
                      refine lv_bipush (v := (58 : Int32)) hx hb dX7_six_275 (by decide) ?_
                      obtain ⟨K348, hK348, h⟩ := h
                      have J348 : ∀ (M25 : cM) (L26 : cL) (H : Heap) (locs : List Loc) (ls : Array Slot), K348 M25 L26 → rpI dC dI a kA (rpA a sz) s M25 L26 H locs → lv_has ls 15 [(0, .ref (a 0)), (3, .int r16), (6, .int x24)] → W p l e rm_X7_six_0 s m (av_X7_six_0 a t ).toArray below meth c H locs 0 0 (MQ below (qc_X7_six_0 dC dI a kA sz M L Z) (av_X7_six_0 a t ).toArray s 0 0 (rpA a sz)) (F0 m 348 ls []) := by
                        intro M25 L26 H locs ls h hI hl
                        have h := hK348 M25 L26 h
                        refine lv_bipush (v := (20 : Int32)) hx hb dX7_six_348 (by decide) ?_
                        refine lv_aload_n hx hb dX7_six_350 rfl (lv_at hl 0 rfl) ?_
                        refine va_get (D := (dC, dI)) (ci := 6) (v := .int (M25 0 24)) (C := RX7) (T := TX7) (N := 44) hx hb hu uX7 hown hK hI.1 0 rfl rfl 24 (by decide) (hu _ uww_626) (fun _ h9 => h9) rfl dX7_six_351 ?_
                        refine lv_iadd hx hb dX7_six_354 ?_
                        refine lv_topi (fun x27 ex27 => ?_)
                        have h := h x27 ex27
                        refine lv_istore (lv' := [(7, .int x27), (0, .ref (a 0)), (3, .int r16), (6, .int x24)]) hx hb dX7_six_355 hl (by decide) rfl (fun ls hl => ?_)
                        refine lv_iload hx hb dX7_six_357 (lv_at hl 0 rfl) ?_
                        refine lv_ldc (own := RX7) (v := (65535 : Int32)) hx hb hown (hu _ uww_596) dX7_six_359 ?_
                        refine lv_icmp_le (tgt := 370) hx hb dX7_six_361 (by decide) (fun c28 => ?_) (fun c28 => ?_)
                        · have h := h.1 c28
                          refine lv_iload hx hb dX7_six_370 (lv_at hl 3 rfl) ?_
                          obtain ⟨K388, hK388, h⟩ := h
                          have J388 : ∀ (v29 : Int32) (H : Heap) (locs : List Loc) (ls : Array Slot), K388 v29 → rpI dC dI a kA (rpA a sz) s M25 L26 H locs → lv_has ls 15 [(0, .ref (a 0)), (3, .int r16), (6, .int x24), (7, .int x27)] → W p l e rm_X7_six_0 s m (av_X7_six_0 a t ).toArray below meth c H locs 0 0 (MQ below (qc_X7_six_0 dC dI a kA sz M L Z) (av_X7_six_0 a t ).toArray s 0 0 (rpA a sz)) (F0 m 388 ls [.int v29]) := by
                            intro v29 H locs ls h hI hl
                            have h := hK388 v29 h
                            refine lv_istore (lv' := [(8, .int v29), (0, .ref (a 0)), (3, .int r16), (6, .int x24), (7, .int x27)]) hx hb dX7_six_388 hl (by decide) rfl (fun ls hl => ?_)
                            refine lv_iload hx hb dX7_six_390 (lv_at hl 0 rfl) ?_
                            obtain ⟨K418, hK418, h⟩ := h
                            have J418 : ∀  (H : Heap) (locs : List Loc) (ls : Array Slot), K418  → rpI dC dI a kA (rpA a sz) s M25 L26 H locs → lv_has ls 15 [(0, .ref (a 0)), (3, .int r16), (6, .int x24), (7, .int x27), (8, .int v29)] → W p l e rm_X7_six_0 s m (av_X7_six_0 a t ).toArray below meth c H locs 0 0 (MQ below (qc_X7_six_0 dC dI a kA sz M L Z) (av_X7_six_0 a t ).toArray s 0 0 (rpA a sz)) (F0 m 418 ls []) := by
                              intro  H locs ls h hI hl
                              have h := hK418  h
                              refine lv_iconst (v := (0 : Int32)) hx hb dX7_six_418 (by decide) ?_
                              refine lv_istore (lv' := [(9, .int (0 : Int32)), (0, .ref (a 0)), (3, .int r16), (6, .int x24), (7, .int x27), (8, .int v29)]) hx hb dX7_six_419 hl (by decide) rfl (fun ls hl => ?_)
                              refine lv_iload hx hb dX7_six_421 (lv_at hl 3 rfl) ?_
                              obtain ⟨K467, hK467, h⟩ := h
                              have J467 : ∀ (x30 : Int32) (M31 : cM) (H : Heap) (locs : List Loc) (ls : Array Slot), K467 x30 M31 → rpI dC dI a kA (rpA a sz) s M31 L26 H locs → lv_has ls 15 [(0, .ref (a 0)), (3, .int r16), (7, .int x27), (8, .int v29), (9, .int x30)] → W p l e rm_X7_six_0 s m (av_X7_six_0 a t ).toArray below meth c H locs 0 0 (MQ below (qc_X7_six_0 dC dI a kA sz M L Z) (av_X7_six_0 a t ).toArray s 0 0 (rpA a sz)) (F0 m 467 ls []) := by
                                intro x30 M31 H locs ls h hI hl
                                have h := hK467 x30 M31 h
                                refine lv_iload hx hb dX7_six_467 (lv_at hl 3 rfl) ?_
                                obtain ⟨K495, hK495, h⟩ := h
                                have J495 : ∀ (v32 : Int32) (H : Heap) (locs : List Loc) (ls : Array Slot), K495 v32 → rpI dC dI a kA (rpA a sz) s M31 L26 H locs → lv_has ls 15 [(0, .ref (a 0)), (3, .int r16), (8, .int v29), (9, .int x30)] → W p l e rm_X7_six_0 s m (av_X7_six_0 a t ).toArray below meth c H locs 0 0 (MQ below (qc_X7_six_0 dC dI a kA sz M L Z) (av_X7_six_0 a t ).toArray s 0 0 (rpA a sz)) (F0 m 495 ls [.int v32]) := by
                                  intro v32 H locs ls h hI hl
                                  have h := hK495 v32 h
                                  refine lv_istore (lv' := [(10, .int v32), (0, .ref (a 0)), (3, .int r16), (8, .int v29), (9, .int x30)]) hx hb dX7_six_495 hl (by decide) rfl (fun ls hl => ?_)
                                  refine lv_iconst (v := (0 : Int32)) hx hb dX7_six_497 (by decide) ?_
                                  refine lv_istore (lv' := [(11, .int (0 : Int32)), (10, .int v32), (0, .ref (a 0)), (3, .int r16), (8, .int v29), (9, .int x30)]) hx hb dX7_six_498 hl (by decide) rfl (fun ls hl => ?_)
                                  obtain ⟨I500, m500, h, hs500⟩ := h
                                  have P500 : ∀ (n500 : Nat) (x33 : Int32) (M34 : cM) (L35 : cL) (H : Heap) (locs : List Loc) (ls : Array Slot), I500 x33 M34 L35 → m500 x33 M34 L35 < n500 → rpI dC dI a kA (rpA a sz) s M34 L35 H locs → lv_has ls 15 [(0, .ref (a 0)), (3, .int r16), (8, .int v29), (9, .int x30), (10, .int v32), (11, .int x33)] → W p l e rm_X7_six_0 s m (av_X7_six_0 a t ).toArray below meth c H locs 0 0 (MQ below (qc_X7_six_0 dC dI a kA sz M L Z) (av_X7_six_0 a t ).toArray s 0 0 (rpA a sz)) (F0 m 500 ls []) := by
                                    intro n500
                                    induction n500 with
                                    | zero => intro x33 M34 L35 H locs ls _ hn; exact absurd hn (Nat.not_lt_zero _)
                                    | succ n500 ih500 =>
                                      intro x33 M34 L35 H locs ls h hn500 hI hl
                                      have h := hs500 x33 M34 L35 h
                                      refine lv_aload_n hx hb dX7_six_500 rfl (lv_at hl 0 rfl) ?_
                                      refine va_get (D := (dC, dI)) (ci := 6) (v := .int (M34 0 24)) (C := RX7) (T := TX7) (N := 44) hx hb hu uX7 hown hK hI.1 0 rfl rfl 24 (by decide) (hu _ uww_626) (fun _ h9 => h9) rfl dX7_six_501 ?_
                                      refine lv_iload hx hb dX7_six_504 (lv_at hl 5 rfl) ?_
                                      refine lv_isub hx hb dX7_six_506 ?_
                                      refine lv_iload hx hb dX7_six_507 (lv_at hl 4 rfl) ?_
                                      obtain ⟨K530, hK530, h⟩ := h
                                      have J530 : ∀ (v36 : Int32) (H : Heap) (locs : List Loc) (ls : Array Slot), K530 v36 → rpI dC dI a kA (rpA a sz) s M34 L35 H locs → lv_has ls 15 [(0, .ref (a 0)), (3, .int r16), (8, .int v29), (9, .int x30), (10, .int v32), (11, .int x33)] → W p l e rm_X7_six_0 s m (av_X7_six_0 a t ).toArray below meth c H locs 0 0 (MQ below (qc_X7_six_0 dC dI a kA sz M L Z) (av_X7_six_0 a t ).toArray s 0 0 (rpA a sz)) (F0 m 530 ls [.int v36]) := by
                                        intro v36 H locs ls h hI hl
                                        have h := hK530 v36 h
                                        refine lv_istore (lv' := [(12, .int v36), (0, .ref (a 0)), (3, .int r16), (8, .int v29), (9, .int x30), (10, .int v32), (11, .int x33)]) hx hb dX7_six_530 hl (by decide) rfl (fun ls hl => ?_)
                                        refine lv_aload_n hx hb dX7_six_532 rfl (lv_at hl 1 rfl) ?_
                                        refine lv_bipush (v := (20 : Int32)) hx hb dX7_six_533 (by decide) ?_
                                        refine lv_iload hx hb dX7_six_535 (lv_at hl 0 rfl) ?_
                                        refine lv_iadd hx hb dX7_six_537 ?_
                                        refine rpcalli_m hsz hI (va_runV (As := [.int ((20 : Int32) + v36)]) (rest := []) ⟨hx, hb, hml, hown, hu⟩ (met_X7_more_0 l dC dI a kA t _ M34 L35 ((20 : Int32) + v36) _ h) (cwl_X7_217_X7 hu ⟨by decide, by decide⟩) (rppre (ci := 6) hK hE hsz hI rfl rfl) rfl rfl hl.1 rfl (lv_room (Nat.le_of_ble_eq_true rfl)) dX7_six_538 ⟨by decide, by decide⟩) (fun r37 M38 H locs h hI => ?_)
                                        refine lv_istore (lv' := [(13, .int r37), (12, .int v36), (0, .ref (a 0)), (3, .int r16), (8, .int v29), (9, .int x30), (10, .int v32), (11, .int x33)]) hx hb dX7_six_541 hl (by decide) rfl (fun ls hl => ?_)
                                        refine lv_aload_n hx hb dX7_six_543 rfl (lv_at hl 2 rfl) ?_
                                        refine lv_iload hx hb dX7_six_544 (lv_at hl 0 rfl) ?_
                                        refine lv_aload_n hx hb dX7_six_546 rfl (lv_at hl 2 rfl) ?_
                                        refine lv_iconst (v := (0 : Int32)) hx hb dX7_six_547 (by decide) ?_
                                        refine rpcalli_p hsz hI (va_runV (As := [.int (0 : Int32)]) (rest := [.int r37, .ref (a 0)]) ⟨hx, hb, hml, hown, hu⟩ (met_X7_class6_0 l dC dI a kA t _ M38 L35 (0 : Int32) _ h) (cwl_X7_334_X7 hu ⟨by decide, by decide⟩) (rppre (ci := 6) hK hE hsz hI rfl rfl) rfl rfl hl.1 rfl (lv_room (Nat.le_of_ble_eq_true rfl)) dX7_six_548 ⟨by decide, by decide⟩) (fun r39 H locs h hI => ?_)
                                        refine lv_bipush (v := (20 : Int32)) hx hb dX7_six_551 (by decide) ?_
                                        refine lv_iload hx hb dX7_six_553 (lv_at hl 1 rfl) ?_
                                        refine lv_iadd hx hb dX7_six_555 ?_
                                        refine lv_iload hx hb dX7_six_556 (lv_at hl 5 rfl) ?_
                                        refine lv_iload hx hb dX7_six_558 (lv_at hl 4 rfl) ?_
                                        refine lv_aload_n hx hb dX7_six_560 rfl (lv_at hl 2 rfl) ?_
                                        refine va_get (D := (dC, dI)) (ci := 6) (v := .int (M38 0 33)) (C := RX7) (T := TX7) (N := 44) hx hb hu uX7 hown hK hI.1 0 rfl rfl 33 (by decide) (hu _ uww_669) (fun _ h9 => h9) rfl dX7_six_561 ?_
                                        refine lv_iload hx hb dX7_six_564 (lv_at hl 7 rfl) ?_
                                        refine lv_iadd hx hb dX7_six_566 ?_
                                        refine lv_iload hx hb dX7_six_567 (lv_at hl 7 rfl) ?_
                                        refine lv_iload hx hb dX7_six_569 (lv_at hl 1 rfl) ?_
                                        refine lv_iadd hx hb dX7_six_571 ?_
                                        refine lv_aload_n hx hb dX7_six_572 rfl (lv_at hl 2 rfl) ?_
                                        refine va_get (D := (dC, dI)) (ci := 6) (v := .int (M38 0 24)) (C := RX7) (T := TX7) (N := 44) hx hb hu uX7 hown hK hI.1 0 rfl rfl 24 (by decide) (hu _ uww_626) (fun _ h9 => h9) rfl dX7_six_573 ?_
                                        obtain ⟨K591, hK591, h⟩ := h
                                        have J591 : ∀ (v40 : Int32) (H : Heap) (locs : List Loc) (ls : Array Slot), K591 v40 → rpI dC dI a kA (rpA a sz) s M38 L35 H locs → lv_has ls 15 [(0, .ref (a 0)), (3, .int r16), (8, .int v29), (9, .int x30), (10, .int v32), (11, .int x33), (12, .int v36)] → W p l e rm_X7_six_0 s m (av_X7_six_0 a t ).toArray below meth c H locs 0 0 (MQ below (qc_X7_six_0 dC dI a kA sz M L Z) (av_X7_six_0 a t ).toArray s 0 0 (rpA a sz)) (F0 m 591 ls [.int v40, .int ((M38 0 33) + x33), .int v29, .int x30, .int ((20 : Int32) + v36), .int r39, .int r37, .ref (a 0)]) := by
                                          intro v40 H locs ls h hI hl
                                          have h := hK591 v40 h
                                          refine lv_iload_n hx hb dX7_six_591 rfl (lv_at hl 1 rfl) ?_
                                          refine lv_iconst (v := (1 : Int32)) hx hb dX7_six_592 (by decide) ?_
                                          refine lv_isub hx hb dX7_six_593 ?_
                                          refine rpcallv hsz hI (va_runV (As := [.int r37, .int r39, .int ((20 : Int32) + v36), .int x30, .int v29, .int ((M38 0 33) + x33), .int v40, .int (r16 - (1 : Int32))]) (rest := []) ⟨hx, hb, hml, hown, hu⟩ (met_X7_head4_0 l dC dI a kA t _ M38 L35 r37 r39 ((20 : Int32) + v36) x30 v29 ((M38 0 33) + x33) v40 (r16 - (1 : Int32)) _ h) (cwl_X7_337_X7 hu ⟨by decide, by decide⟩) (rppre (ci := 6) hK hE hsz hI rfl rfl) rfl rfl hl.1 rfl (lv_room (Nat.le_of_ble_eq_true rfl)) dX7_six_594 ⟨by decide, by decide⟩) (fun M41 L42 H locs h hI => ?_)
                                          refine lv_iconst (v := (0 : Int32)) hx hb dX7_six_597 (by decide) ?_
                                          refine lv_istore (lv' := [(14, .int (0 : Int32)), (0, .ref (a 0)), (3, .int r16), (8, .int v29), (9, .int x30), (10, .int v32), (11, .int x33), (12, .int v36)]) hx hb dX7_six_598 hl (by decide) rfl (fun ls hl => ?_)
                                          obtain ⟨I600, m600, h, hs600⟩ := h
                                          have P600 : ∀ (n600 : Nat) (x43 : Int32) (M44 : cM) (H : Heap) (locs : List Loc) (ls : Array Slot), I600 x43 M44 → m600 x43 M44 < n600 → rpI dC dI a kA (rpA a sz) s M44 L42 H locs → lv_has ls 15 [(0, .ref (a 0)), (3, .int r16), (8, .int v29), (9, .int x30), (10, .int v32), (11, .int x33), (12, .int v36), (14, .int x43)] → W p l e rm_X7_six_0 s m (av_X7_six_0 a t ).toArray below meth c H locs 0 0 (MQ below (qc_X7_six_0 dC dI a kA sz M L Z) (av_X7_six_0 a t ).toArray s 0 0 (rpA a sz)) (F0 m 600 ls []) := by
                                            intro n600
                                            induction n600 with
                                            | zero => intro x43 M44 H locs ls _ hn; exact absurd hn (Nat.not_lt_zero _)
                                            | succ n600 ih600 =>
                                              intro x43 M44 H locs ls h hn600 hI hl
                                              have h := hs600 x43 M44 h
                                              refine lv_iload hx hb dX7_six_600 (lv_at hl 7 rfl) ?_
                                              refine lv_iload hx hb dX7_six_602 (lv_at hl 6 rfl) ?_
                                              refine lv_icmp_ge (tgt := 638) hx hb dX7_six_604 (by decide) (fun c45 => ?_) (fun c45 => ?_)
                                              · have h := h.1 c45
                                                refine lv_aload_n hx hb dX7_six_638 rfl (lv_at hl 0 rfl) ?_
                                                refine rpcallv_m hsz hI (va_runV (As := []) (rest := []) ⟨hx, hb, hml, hown, hu⟩ (met_X7_isPart_0 l dC dI a kA t _ M44 L42  _ h) (cwl_X7_223_X7 hu ⟨by decide, by decide⟩) (rppre (ci := 6) hK hE hsz hI rfl rfl) rfl rfl hl.1 rfl (lv_room (Nat.le_of_ble_eq_true rfl)) dX7_six_639 ⟨by decide, by decide⟩) (fun M46 H locs h hI => ?_)
                                                refine lv_iload hx hb dX7_six_642 (lv_at hl 5 rfl) ?_
                                                refine lv_iload hx hb dX7_six_644 (lv_at hl 6 rfl) ?_
                                                refine lv_iadd hx hb dX7_six_646 ?_
                                                refine lv_topi (fun x47 ex47 => ?_)
                                                have h := h x47 ex47
                                                refine lv_istore (lv' := [(11, .int x47), (0, .ref (a 0)), (3, .int r16), (8, .int v29), (9, .int x30), (10, .int v32), (12, .int v36), (14, .int x43)]) hx hb dX7_six_647 hl (by decide) rfl (fun ls hl => ?_)
                                                refine lv_iload hx hb dX7_six_649 (lv_at hl 0 rfl) ?_
                                                refine lv_aload_n hx hb dX7_six_651 rfl (lv_at hl 1 rfl) ?_
                                                refine va_get (D := (dC, dI)) (ci := 6) (v := .int (M46 0 24)) (C := RX7) (T := TX7) (N := 44) hx hb hu uX7 hown hK hI.1 0 rfl rfl 24 (by decide) (hu _ uww_626) (fun _ h9 => h9) rfl dX7_six_652 ?_
                                                refine lv_icmp_lt (tgt := 500) hx hb dX7_six_655 (by decide) (fun c48 => ?_) (fun c48 => ?_)
                                                · have h := h.1 c48
                                                  exact ih500 x47 M46 L42 _ _ _ h.1 (Nat.lt_of_lt_of_le h.2 (Nat.le_of_lt_succ hn500)) hI (lv_sub hl [1, 2, 3, 4, 5, 0] rfl)
                                                · have h := h.2 c48
                                                  refine lv_aload_n hx hb dX7_six_658 rfl (lv_at hl 1 rfl) ?_
                                                  refine lv_iconst (v := (0 : Int32)) hx hb dX7_six_659 (by decide) ?_
                                                  refine rpcalli_m hsz hI (va_runV (As := [.int (0 : Int32)]) (rest := []) ⟨hx, hb, hml, hown, hu⟩ (met_X7_tell_0 l dC dI a kA t _ M46 L42 (0 : Int32) _ h) (cwl_X7_213_X7 hu ⟨by decide, by decide⟩) (rppre (ci := 6) hK hE hsz hI rfl rfl) rfl rfl hl.1 rfl (lv_room (Nat.le_of_ble_eq_true rfl)) dX7_six_660 ⟨by decide, by decide⟩) (fun r49 M50 H locs h hI => ?_)
                                                  exact rpiret (Z := (fun r M' L' => Z r M' L')) hx hb hr hlocks hK hI dX7_six_663 h
                                              · have h := h.2 c45
                                                refine lv_aload_n hx hb dX7_six_607 rfl (lv_at hl 0 rfl) ?_
                                                refine va_get (D := (dC, dI)) (ci := 6) (v := .ref (a 3)) (C := RX7) (T := TX7) (N := 44) hx hb hu uX7 hown hK hI.1 0 rfl rfl 19 (by decide) (hu _ uww_552) (fun _ h9 => h9) rfl dX7_six_608 ?_
                                                refine lv_aload_n hx hb dX7_six_611 rfl (lv_at hl 0 rfl) ?_
                                                refine va_get (D := (dC, dI)) (ci := 6) (v := .int (M44 0 20)) (C := RX7) (T := TX7) (N := 44) hx hb hu uX7 hown hK hI.1 0 rfl rfl 20 (by decide) (hu _ uww_622) (fun _ h9 => h9) rfl dX7_six_612 ?_
                                                refine lv_iload hx hb dX7_six_615 (lv_at hl 6 rfl) ?_
                                                refine lv_isub hx hb dX7_six_617 ?_
                                                refine lv_iload hx hb dX7_six_618 (lv_at hl 7 rfl) ?_
                                                refine lv_iadd hx hb dX7_six_620 ?_
                                                refine lv_aload_n hx hb dX7_six_621 rfl (lv_at hl 0 rfl) ?_
                                                refine va_get (D := (dC, dI)) (ci := 6) (v := .ref (a 5)) (C := RX7) (T := TX7) (N := 44) hx hb hu uX7 hown hK hI.1 0 rfl rfl 23 (by decide) (hu _ uww_554) (fun _ h9 => h9) rfl dX7_six_622 ?_
                                                refine lv_iload hx hb dX7_six_625 (lv_at hl 5 rfl) ?_
                                                refine lv_iload hx hb dX7_six_627 (lv_at hl 7 rfl) ?_
                                                refine lv_iadd hx hb dX7_six_629 ?_
                                                refine va_bald hx hb hK hI.1 5 4 rfl rfl h.1 dX7_six_630 ?_
                                                have h := h.2
                                                refine rpbast hx hb hK hI 3 2 rfl rfl h.1 (rpset_3 _ _ _ _ _ _) dX7_six_631 (fun H locs M51 eM51 hI => ?_)
                                                have h := h.2 M51 eM51
                                                obtain ⟨x52, ex52⟩ : ∃ y : Int32, y = (x43 + (1 : Int32)) := ⟨_, rfl⟩
                                                have h := h x52 ex52
                                                refine lv_iinc (v := x52) (lv' := [(14, .int x52), (0, .ref (a 0)), (3, .int r16), (8, .int v29), (9, .int x30), (10, .int v32), (11, .int x33), (12, .int v36)]) hx hb dX7_six_632 hl (k := 7) rfl (by rw [ex52]; rfl) (by decide) rfl (fun ls hl => ?_)
                                                refine lv_goto (tgt := 600) hx hb dX7_six_635 (by decide) ?_
                                                exact ih600 x52 M51 _ _ _ h.1 (Nat.lt_of_lt_of_le h.2 (Nat.le_of_lt_succ hn600)) hI (lv_sub hl [1, 2, 3, 4, 5, 6, 7, 0] rfl)
                                          exact P600 (m600 (0 : Int32) M41 + 1) (0 : Int32) M41 _ _ _ h (Nat.lt_succ_self _) hI (lv_sub hl [1, 2, 3, 4, 5, 6, 7, 0] rfl)
                                        obtain ⟨K586, hK586, h⟩ := h
                                        have J586 : ∀  (H : Heap) (locs : List Loc) (ls : Array Slot), K586  → rpI dC dI a kA (rpA a sz) s M38 L35 H locs → lv_has ls 15 [(0, .ref (a 0)), (3, .int r16), (8, .int v29), (9, .int x30), (10, .int v32), (11, .int x33), (12, .int v36)] → W p l e rm_X7_six_0 s m (av_X7_six_0 a t ).toArray below meth c H locs 0 0 (MQ below (qc_X7_six_0 dC dI a kA sz M L Z) (av_X7_six_0 a t ).toArray s 0 0 (rpA a sz)) (F0 m 586 ls [.int ((M38 0 33) + x33), .int v29, .int x30, .int ((20 : Int32) + v36), .int r39, .int r37, .ref (a 0)]) := by
                                          intro  H locs ls h hI hl
                                          have h := hK586  h
                                          refine lv_iconst (v := (1 : Int32)) hx hb dX7_six_586 (by decide) ?_
                                          refine lv_goto (tgt := 591) hx hb dX7_six_587 (by decide) ?_
                                          exact J591 (1 : Int32) _ _ _ h hI (lv_sub hl [0, 1, 2, 3, 4, 5, 6] rfl)
                                        refine lv_icmp_lt (tgt := 586) hx hb dX7_six_576 (by decide) (fun c53 => ?_) (fun c53 => ?_)
                                        · have h := h.1 c53
                                          exact J586  _ _ _ h hI (lv_sub hl [2, 3, 4, 5, 6, 7, 1] rfl)
                                        · have h := h.2 c53
                                          refine lv_aload_n hx hb dX7_six_579 rfl (lv_at hl 2 rfl) ?_
                                          refine va_get (D := (dC, dI)) (ci := 6) (v := .int (M38 0 34)) (C := RX7) (T := TX7) (N := 44) hx hb hu uX7 hown hK hI.1 0 rfl rfl 34 (by decide) (hu _ uww_670) (fun _ h9 => h9) rfl dX7_six_580 ?_
                                          refine lv_if_eq (tgt := 590) hx hb dX7_six_583 (by decide) (fun c54 => ?_) (fun c54 => ?_)
                                          · have h := h.1 c54
                                            refine lv_iconst (v := (0 : Int32)) hx hb dX7_six_590 (by decide) ?_
                                            exact J591 (0 : Int32) _ _ _ h hI (lv_sub hl [2, 3, 4, 5, 6, 7, 1] rfl)
                                          · have h := h.2 c54
                                            exact J586  _ _ _ h hI (lv_sub hl [2, 3, 4, 5, 6, 7, 1] rfl)
                                      refine lv_icmp_gt (tgt := 522) hx hb dX7_six_509 (by decide) (fun c55 => ?_) (fun c55 => ?_)
                                      · have h := h.1 c55
                                        refine lv_iload hx hb dX7_six_522 (lv_at hl 4 rfl) ?_
                                        refine lv_bipush (v := (8 : Int32)) hx hb dX7_six_524 (by decide) ?_
                                        refine lv_idiv hx hb dX7_six_526 (by decide) ?_
                                        refine lv_bipush (v := (8 : Int32)) hx hb dX7_six_527 (by decide) ?_
                                        refine lv_imul hx hb dX7_six_529 ?_
                                        exact J530 ((v32 / (8 : Int32)) * (8 : Int32)) _ _ _ h hI (lv_sub hl [0, 1, 2, 3, 4, 5] rfl)
                                      · have h := h.2 c55
                                        refine lv_aload_n hx hb dX7_six_512 rfl (lv_at hl 0 rfl) ?_
                                        refine va_get (D := (dC, dI)) (ci := 6) (v := .int (M34 0 24)) (C := RX7) (T := TX7) (N := 44) hx hb hu uX7 hown hK hI.1 0 rfl rfl 24 (by decide) (hu _ uww_626) (fun _ h9 => h9) rfl dX7_six_513 ?_
                                        refine lv_iload hx hb dX7_six_516 (lv_at hl 5 rfl) ?_
                                        refine lv_isub hx hb dX7_six_518 ?_
                                        refine lv_goto (tgt := 530) hx hb dX7_six_519 (by decide) ?_
                                        exact J530 ((M34 0 24) - x33) _ _ _ h hI (lv_sub hl [0, 1, 2, 3, 4, 5] rfl)
                                  exact P500 (m500 (0 : Int32) M31 L26 + 1) (0 : Int32) M31 L26 _ _ _ h (Nat.lt_succ_self _) hI (lv_sub hl [2, 3, 4, 5, 1, 0] rfl)
                                obtain ⟨K491, hK491, h⟩ := h
                                have J491 : ∀  (H : Heap) (locs : List Loc) (ls : Array Slot), K491  → rpI dC dI a kA (rpA a sz) s M31 L26 H locs → lv_has ls 15 [(0, .ref (a 0)), (3, .int r16), (8, .int v29), (9, .int x30)] → W p l e rm_X7_six_0 s m (av_X7_six_0 a t ).toArray below meth c H locs 0 0 (MQ below (qc_X7_six_0 dC dI a kA sz M L Z) (av_X7_six_0 a t ).toArray s 0 0 (rpA a sz)) (F0 m 491 ls []) := by
                                  intro  H locs ls h hI hl
                                  have h := hK491  h
                                  refine lv_aload_n hx hb dX7_six_491 rfl (lv_at hl 0 rfl) ?_
                                  refine va_get (D := (dC, dI)) (ci := 6) (v := .int (M31 0 24)) (C := RX7) (T := TX7) (N := 44) hx hb hu uX7 hown hK hI.1 0 rfl rfl 24 (by decide) (hu _ uww_626) (fun _ h9 => h9) rfl dX7_six_492 ?_
                                  exact J495 (M31 0 24) _ _ _ h hI (lv_sub hl [0, 1, 2, 3] rfl)
                                refine lv_if_ne (tgt := 491) hx hb dX7_six_469 (by decide) (fun c56 => ?_) (fun c56 => ?_)
                                · have h := h.1 c56
                                  exact J491  _ _ _ h hI (lv_sub hl [0, 1, 3, 4] rfl)
                                · have h := h.2 c56
                                  refine lv_iload hx hb dX7_six_472 (lv_at hl 2 rfl) ?_
                                  refine lv_aload_n hx hb dX7_six_474 rfl (lv_at hl 0 rfl) ?_
                                  refine va_get (D := (dC, dI)) (ci := 6) (v := .int (M31 0 9)) (C := RX7) (T := TX7) (N := 44) hx hb hu uX7 hown hK hI.1 0 rfl rfl 9 (by decide) (hu _ uww_547) (fun _ h9 => h9) rfl dX7_six_475 ?_
                                  refine lv_icmp_le (tgt := 491) hx hb dX7_six_478 (by decide) (fun c57 => ?_) (fun c57 => ?_)
                                  · have h := h.1 c57
                                    exact J491  _ _ _ h hI (lv_sub hl [0, 1, 3, 4] rfl)
                                  · have h := h.2 c57
                                    refine lv_aload_n hx hb dX7_six_481 rfl (lv_at hl 0 rfl) ?_
                                    refine va_get (D := (dC, dI)) (ci := 6) (v := .int (M31 0 9)) (C := RX7) (T := TX7) (N := 44) hx hb hu uX7 hown hK hI.1 0 rfl rfl 9 (by decide) (hu _ uww_547) (fun _ h9 => h9) rfl dX7_six_482 ?_
                                    refine lv_bipush (v := (20 : Int32)) hx hb dX7_six_485 (by decide) ?_
                                    refine lv_isub hx hb dX7_six_487 ?_
                                    refine lv_goto (tgt := 495) hx hb dX7_six_488 (by decide) ?_
                                    exact J495 ((M31 0 9) - (20 : Int32)) _ _ _ h hI (lv_sub hl [0, 1, 3, 4] rfl)
                              refine lv_if_lt (tgt := 443) hx hb dX7_six_423 (by decide) (fun c58 => ?_) (fun c58 => ?_)
                              · have h := h.1 c58
                                refine lv_iload hx hb dX7_six_443 (lv_at hl 5 rfl) ?_
                                refine lv_if_ne (tgt := 467) hx hb dX7_six_445 (by decide) (fun c59 => ?_) (fun c59 => ?_)
                                · have h := h.1 c59
                                  exact J467 (0 : Int32) M25 _ _ _ h hI (lv_sub hl [1, 2, 4, 5, 0] rfl)
                                · have h := h.2 c59
                                  refine lv_aload_n hx hb dX7_six_448 rfl (lv_at hl 1 rfl) ?_
                                  refine lv_aload_n hx hb dX7_six_449 rfl (lv_at hl 1 rfl) ?_
                                  refine va_get (D := (dC, dI)) (ci := 6) (v := .int (M25 0 14)) (C := RX7) (T := TX7) (N := 44) hx hb hu uX7 hown hK hI.1 0 rfl rfl 14 (by decide) (hu _ uww_775) (fun _ h9 => h9) rfl dX7_six_450 ?_
                                  refine lv_iconst (v := (1 : Int32)) hx hb dX7_six_453 (by decide) ?_
                                  refine lv_iadd hx hb dX7_six_454 ?_
                                  refine lv_ldc (own := RX7) (v := (65535 : Int32)) hx hb hown (hu _ uww_596) dX7_six_455 ?_
                                  refine lv_iand hx hb dX7_six_457 ?_
                                  refine rpput (ci := 6) (C := RX7) (T := TX7) (N := 44) (ty := .int) hx hb hu uX7 tyX7 tyX7_ok nmX7 hown hK hI 0 rfl rfl 14 (by decide) (hu _ uww_775) (fun _ h9 => h9) rfl (by decide +kernel) rfl rfl (Nat.le_of_ble_eq_true rfl) (rpset_0_14 _ _ _ _ _) dX7_six_458 (fun H locs M60 eM60 hI => ?_)
                                  have h := h M60 eM60
                                  refine lv_aload_n hx hb dX7_six_461 rfl (lv_at hl 1 rfl) ?_
                                  refine va_get (D := (dC, dI)) (ci := 6) (v := .int (M60 0 14)) (C := RX7) (T := TX7) (N := 44) hx hb hu uX7 hown hK hI.1 0 rfl rfl 14 (by decide) (hu _ uww_775) (fun _ h9 => h9) rfl dX7_six_462 ?_
                                  refine lv_topi (fun x61 ex61 => ?_)
                                  have h := h x61 ex61
                                  refine lv_istore (lv' := [(9, .int x61), (0, .ref (a 0)), (3, .int r16), (6, .int x24), (7, .int x27), (8, .int v29)]) hx hb dX7_six_465 hl (by decide) rfl (fun ls hl => ?_)
                                  exact J467 x61 M60 _ _ _ h hI (lv_sub hl [1, 2, 4, 5, 0] rfl)
                              · have h := h.2 c58
                                refine lv_aload_n hx hb dX7_six_426 rfl (lv_at hl 1 rfl) ?_
                                refine va_get (D := (dC, dI)) (ci := 6) (v := .ref (a 1)) (C := RX7) (T := TX7) (N := 44) hx hb hu uX7 hown hK hI.1 0 rfl rfl 1 (by decide) (hu _ uww_538) (fun _ h9 => h9) rfl dX7_six_427 ?_
                                refine lv_iload hx hb dX7_six_430 (lv_at hl 3 rfl) ?_
                                refine lv_bipush (v := (6 : Int32)) hx hb dX7_six_432 (by decide) ?_
                                refine lv_iadd hx hb dX7_six_434 ?_
                                refine rpcalli_p hsz hI (va_runS (As := [.ref (a 1), .int (x24 + (6 : Int32))]) (rest := []) ⟨hx, hb, hml, hown, hu⟩ (met_X7_twoAt_1 l dC dI a kA t _ M25 L26 (x24 + (6 : Int32)) _ h) (cwl_X7_115_S hu ⟨by decide, by decide⟩) (rppreS hK hE hsz hI) rfl rfl hl.1 rfl (lv_room (Nat.le_of_ble_eq_true rfl)) dX7_six_435 ⟨by decide, by decide⟩) (fun r62 H locs h hI => ?_)
                                refine lv_istore (lv' := [(9, .int r62), (0, .ref (a 0)), (3, .int r16), (6, .int x24), (7, .int x27), (8, .int v29)]) hx hb dX7_six_438 hl (by decide) rfl (fun ls hl => ?_)
                                refine lv_goto (tgt := 467) hx hb dX7_six_440 (by decide) ?_
                                exact J467 r62 M25 _ _ _ h hI (lv_sub hl [1, 2, 4, 5, 0] rfl)
                            refine lv_if_eq (tgt := 418) hx hb dX7_six_392 (by decide) (fun c63 => ?_) (fun c63 => ?_)
                            · have h := h.1 c63
                              exact J418  _ _ _ h hI (lv_sub hl [1, 2, 3, 4, 0] rfl)
                            · have h := h.2 c63
                              refine lv_iload hx hb dX7_six_395 (lv_at hl 4 rfl) ?_
                              refine lv_aload_n hx hb dX7_six_397 rfl (lv_at hl 1 rfl) ?_
                              refine va_get (D := (dC, dI)) (ci := 6) (v := .int (M25 0 9)) (C := RX7) (T := TX7) (N := 44) hx hb hu uX7 hown hK hI.1 0 rfl rfl 9 (by decide) (hu _ uww_547) (fun _ h9 => h9) rfl dX7_six_398 ?_
                              refine lv_icmp_le (tgt := 418) hx hb dX7_six_401 (by decide) (fun c64 => ?_) (fun c64 => ?_)
                              · have h := h.1 c64
                                exact J418  _ _ _ h hI (lv_sub hl [1, 2, 3, 4, 0] rfl)
                              · have h := h.2 c64
                                refine lv_aload_n hx hb dX7_six_404 rfl (lv_at hl 1 rfl) ?_
                                refine lv_iconst (v := (2 : Int32)) hx hb dX7_six_405 (by decide) ?_
                                refine lv_iconst (v := (0 : Int32)) hx hb dX7_six_406 (by decide) ?_
                                refine lv_aload_n hx hb dX7_six_407 rfl (lv_at hl 1 rfl) ?_
                                refine va_get (D := (dC, dI)) (ci := 6) (v := .int (M25 0 9)) (C := RX7) (T := TX7) (N := 44) hx hb hu uX7 hown hK hI.1 0 rfl rfl 9 (by decide) (hu _ uww_547) (fun _ h9 => h9) rfl dX7_six_408 ?_
                                refine lv_bipush (v := (20 : Int32)) hx hb dX7_six_411 (by decide) ?_
                                refine lv_iadd hx hb dX7_six_413 ?_
                                refine rpcalli hsz hI (va_runV (As := [.int (2 : Int32), .int (0 : Int32), .int ((M25 0 9) + (20 : Int32))]) (rest := []) ⟨hx, hb, hml, hown, hu⟩ (met_X7_answer6_0 l dC dI a kA t _ M25 L26 (2 : Int32) (0 : Int32) ((M25 0 9) + (20 : Int32)) _ h) (cwl_X7_322_X7 hu ⟨by decide, by decide⟩) (rppre (ci := 6) hK hE hsz hI rfl rfl) rfl rfl hl.1 rfl (lv_room (Nat.le_of_ble_eq_true rfl)) dX7_six_414 ⟨by decide, by decide⟩) (fun r65 M66 L67 H locs h hI => ?_)
                                exact rpiret (Z := (fun r M' L' => Z r M' L')) hx hb hr hlocks hK hI dX7_six_417 h
                          obtain ⟨K387, hK387, h⟩ := h
                          have J387 : ∀  (H : Heap) (locs : List Loc) (ls : Array Slot), K387  → rpI dC dI a kA (rpA a sz) s M25 L26 H locs → lv_has ls 15 [(0, .ref (a 0)), (3, .int r16), (6, .int x24), (7, .int x27)] → W p l e rm_X7_six_0 s m (av_X7_six_0 a t ).toArray below meth c H locs 0 0 (MQ below (qc_X7_six_0 dC dI a kA sz M L Z) (av_X7_six_0 a t ).toArray s 0 0 (rpA a sz)) (F0 m 387 ls []) := by
                            intro  H locs ls h hI hl
                            have h := hK387  h
                            refine lv_iconst (v := (0 : Int32)) hx hb dX7_six_387 (by decide) ?_
                            exact J388 (0 : Int32) _ _ _ h hI (lv_sub hl [0, 1, 2, 3] rfl)
                          refine lv_if_ge (tgt := 387) hx hb dX7_six_372 (by decide) (fun c68 => ?_) (fun c68 => ?_)
                          · have h := h.1 c68
                            exact J387  _ _ _ h hI (lv_sub hl [1, 2, 3, 0] rfl)
                          · have h := h.2 c68
                            refine lv_iload hx hb dX7_six_375 (lv_at hl 0 rfl) ?_
                            refine lv_sipush (v := (1260 : Int32)) hx hb dX7_six_377 (by decide) ?_
                            refine lv_icmp_le (tgt := 387) hx hb dX7_six_380 (by decide) (fun c69 => ?_) (fun c69 => ?_)
                            · have h := h.1 c69
                              exact J387  _ _ _ h hI (lv_sub hl [1, 2, 3, 0] rfl)
                            · have h := h.2 c69
                              refine lv_iconst (v := (1 : Int32)) hx hb dX7_six_383 (by decide) ?_
                              refine lv_goto (tgt := 388) hx hb dX7_six_384 (by decide) ?_
                              exact J388 (1 : Int32) _ _ _ h hI (lv_sub hl [1, 2, 3, 0] rfl)
                        · have h := h.2 c28
                          refine lv_aload_n hx hb dX7_six_364 rfl (lv_at hl 1 rfl) ?_
                          refine lv_iconst (v := (4 : Int32)) hx hb dX7_six_365 (by decide) ?_
                          refine rpcalli_m hsz hI (va_runV (As := [.int (4 : Int32)]) (rest := []) ⟨hx, hb, hml, hown, hu⟩ (met_X7_tell_0 l dC dI a kA t _ M25 L26 (4 : Int32) _ h) (cwl_X7_213_X7 hu ⟨by decide, by decide⟩) (rppre (ci := 6) hK hE hsz hI rfl rfl) rfl rfl hl.1 rfl (lv_room (Nat.le_of_ble_eq_true rfl)) dX7_six_366 ⟨by decide, by decide⟩) (fun r70 M71 H locs h hI => ?_)
                          exact rpiret (Z := (fun r M' L' => Z r M' L')) hx hb hr hlocks hK hI dX7_six_369 h
                      refine lv_icmp_ne (tgt := 303) hx hb dX7_six_277 (by decide) (fun c72 => ?_) (fun c72 => ?_)
                      · have h := h.1 c72
                        refine lv_aload_n hx hb dX7_six_303 rfl (lv_at hl 1 rfl) ?_
                        refine va_get (D := (dC, dI)) (ci := 6) (v := .int (M23 0 33)) (C := RX7) (T := TX7) (N := 44) hx hb hu uX7 hown hK hI.1 0 rfl rfl 33 (by decide) (hu _ uww_669) (fun _ h9 => h9) rfl dX7_six_304 ?_
                        refine lv_if_ne (tgt := 348) hx hb dX7_six_307 (by decide) (fun c73 => ?_) (fun c73 => ?_)
                        · have h := h.1 c73
                          exact J348 M23 L12 _ _ _ h hI (lv_sub hl [1, 2, 0] rfl)
                        · have h := h.2 c73
                          refine lv_aload_n hx hb dX7_six_310 rfl (lv_at hl 1 rfl) ?_
                          refine va_get (D := (dC, dI)) (ci := 6) (v := .int (M23 0 35)) (C := RX7) (T := TX7) (N := 44) hx hb hu uX7 hown hK hI.1 0 rfl rfl 35 (by decide) (hu _ uww_671) (fun _ h9 => h9) rfl dX7_six_311 ?_
                          refine lv_bipush (v := (17 : Int32)) hx hb dX7_six_314 (by decide) ?_
                          obtain ⟨K328, hK328, h⟩ := h
                          have J328 : ∀  (H : Heap) (locs : List Loc) (ls : Array Slot), K328  → rpI dC dI a kA (rpA a sz) s M23 L12 H locs → lv_has ls 15 [(0, .ref (a 0)), (3, .int r16), (6, .int x24)] → W p l e rm_X7_six_0 s m (av_X7_six_0 a t ).toArray below meth c H locs 0 0 (MQ below (qc_X7_six_0 dC dI a kA sz M L Z) (av_X7_six_0 a t ).toArray s 0 0 (rpA a sz)) (F0 m 328 ls []) := by
                            intro  H locs ls h hI hl
                            have h := hK328  h
                            refine lv_aload_n hx hb dX7_six_328 rfl (lv_at hl 0 rfl) ?_
                            refine lv_aload_n hx hb dX7_six_329 rfl (lv_at hl 0 rfl) ?_
                            refine va_get (D := (dC, dI)) (ci := 6) (v := .ref (a 5)) (C := RX7) (T := TX7) (N := 44) hx hb hu uX7 hown hK hI.1 0 rfl rfl 23 (by decide) (hu _ uww_554) (fun _ h9 => h9) rfl dX7_six_330 ?_
                            refine lv_aload_n hx hb dX7_six_333 rfl (lv_at hl 0 rfl) ?_
                            refine va_get (D := (dC, dI)) (ci := 6) (v := .int (M23 0 35)) (C := RX7) (T := TX7) (N := 44) hx hb hu uX7 hown hK hI.1 0 rfl rfl 35 (by decide) (hu _ uww_671) (fun _ h9 => h9) rfl dX7_six_334 ?_
                            refine rpcalli_p hsz hI (va_runS (As := [.int (M23 0 35)]) (rest := [.ref (a 5), .ref (a 0)]) ⟨hx, hb, hml, hown, hu⟩ (met_X7_sumAt l dC dI a kA t _ M23 L12 (M23 0 35) _ h) (cwl_X7_253_S hu ⟨by decide, by decide⟩) (rppreS hK hE hsz hI) rfl rfl hl.1 rfl (lv_room (Nat.le_of_ble_eq_true rfl)) dX7_six_337 ⟨by decide, by decide⟩) (fun r74 H locs h hI => ?_)
                            refine lv_aload_n hx hb dX7_six_340 rfl (lv_at hl 0 rfl) ?_
                            refine va_get (D := (dC, dI)) (ci := 6) (v := .int (M23 0 35)) (C := RX7) (T := TX7) (N := 44) hx hb hu uX7 hown hK hI.1 0 rfl rfl 35 (by decide) (hu _ uww_671) (fun _ h9 => h9) rfl dX7_six_341 ?_
                            refine lv_iconst (v := (0 : Int32)) hx hb dX7_six_344 (by decide) ?_
                            refine rpcallv hsz hI (va_runV (As := [.ref (a 5), .int r74, .int (M23 0 35), .int (0 : Int32)]) (rest := []) ⟨hx, hb, hml, hown, hu⟩ (met_X7_adjust_0_5 l dC dI a kA t _ M23 L12 r74 (M23 0 35) (0 : Int32) _ h) (cwl_X7_256_X7 hu ⟨by decide, by decide⟩) (rppre (ci := 6) hK hE hsz hI rfl rfl) rfl rfl hl.1 rfl (lv_room (Nat.le_of_ble_eq_true rfl)) dX7_six_345 ⟨by decide, by decide⟩) (fun M75 L76 H locs h hI => ?_)
                            exact J348 M75 L76 _ _ _ h hI (lv_sub hl [0, 1, 2] rfl)
                          refine lv_icmp_eq (tgt := 328) hx hb dX7_six_316 (by decide) (fun c77 => ?_) (fun c77 => ?_)
                          · have h := h.1 c77
                            exact J328  _ _ _ h hI (lv_sub hl [1, 2, 0] rfl)
                          · have h := h.2 c77
                            refine lv_aload_n hx hb dX7_six_319 rfl (lv_at hl 1 rfl) ?_
                            refine va_get (D := (dC, dI)) (ci := 6) (v := .int (M23 0 35)) (C := RX7) (T := TX7) (N := 44) hx hb hu uX7 hown hK hI.1 0 rfl rfl 35 (by decide) (hu _ uww_671) (fun _ h9 => h9) rfl dX7_six_320 ?_
                            refine lv_bipush (v := (6 : Int32)) hx hb dX7_six_323 (by decide) ?_
                            refine lv_icmp_ne (tgt := 348) hx hb dX7_six_325 (by decide) (fun c78 => ?_) (fun c78 => ?_)
                            · have h := h.1 c78
                              exact J348 M23 L12 _ _ _ h hI (lv_sub hl [1, 2, 0] rfl)
                            · have h := h.2 c78
                              exact J328  _ _ _ h hI (lv_sub hl [1, 2, 0] rfl)
                      · have h := h.2 c72
                        refine lv_aload_n hx hb dX7_six_280 rfl (lv_at hl 1 rfl) ?_
                        refine lv_iload hx hb dX7_six_281 (lv_at hl 3 rfl) ?_
                        refine rpcalli hsz hI (va_runV (As := [.int x20]) (rest := []) ⟨hx, hb, hml, hown, hu⟩ (met_X7_toFour_0 l dC dI a kA t _ M23 L12 x20 _ h) (cwl_X7_328_X7 hu ⟨by decide, by decide⟩) (rppre (ci := 6) hK hE hsz hI rfl rfl) rfl rfl hl.1 rfl (lv_room (Nat.le_of_ble_eq_true rfl)) dX7_six_283 ⟨by decide, by decide⟩) (fun r79 M80 L81 H locs h hI => ?_)
                        refine lv_istore (lv' := [(7, .int r79), (6, .int x24), (0, .ref (a 0)), (3, .int r16), (4, .int x20)]) hx hb dX7_six_286 hl (by decide) rfl (fun ls hl => ?_)
                        refine lv_iload hx hb dX7_six_288 (lv_at hl 0 rfl) ?_
                        refine lv_if_le (tgt := 300) hx hb dX7_six_290 (by decide) (fun c82 => ?_) (fun c82 => ?_)
                        · have h := h.1 c82
                          refine lv_goto (tgt := 348) hx hb dX7_six_300 (by decide) ?_
                          exact J348 M80 L81 _ _ _ h hI (lv_sub hl [2, 3, 1] rfl)
                        · have h := h.2 c82
                          refine lv_aload_n hx hb dX7_six_293 rfl (lv_at hl 2 rfl) ?_
                          refine lv_iload hx hb dX7_six_294 (lv_at hl 0 rfl) ?_
                          refine rpcalli_m hsz hI (va_runV (As := [.int r79]) (rest := []) ⟨hx, hb, hml, hown, hu⟩ (met_X7_tell_0 l dC dI a kA t _ M80 L81 r79 _ h) (cwl_X7_213_X7 hu ⟨by decide, by decide⟩) (rppre (ci := 6) hK hE hsz hI rfl rfl) rfl rfl hl.1 rfl (lv_room (Nat.le_of_ble_eq_true rfl)) dX7_six_296 ⟨by decide, by decide⟩) (fun r83 M84 H locs h hI => ?_)
                          exact rpiret (Z := (fun r M' L' => Z r M' L')) hx hb hr hlocks hK hI dX7_six_299 h
                    refine lv_icmp_ne (tgt := 251) hx hb dX7_six_217 (by decide) (fun c85 => ?_) (fun c85 => ?_)
                    · have h := h.1 c85
                      exact J251  _ _ _ h hI (lv_sub hl [1, 2, 3] rfl)
                    · have h := h.2 c85
                      refine lv_aload_n hx hb dX7_six_220 rfl (lv_at hl 1 rfl) ?_
                      refine va_get (D := (dC, dI)) (ci := 6) (v := .int (M11 0 33)) (C := RX7) (T := TX7) (N := 44) hx hb hu uX7 hown hK hI.1 0 rfl rfl 33 (by decide) (hu _ uww_669) (fun _ h9 => h9) rfl dX7_six_221 ?_
                      refine lv_if_ne (tgt := 251) hx hb dX7_six_224 (by decide) (fun c86 => ?_) (fun c86 => ?_)
                      · have h := h.1 c86
                        exact J251  _ _ _ h hI (lv_sub hl [1, 2, 3] rfl)
                      · have h := h.2 c86
                        refine lv_aload_n hx hb dX7_six_227 rfl (lv_at hl 1 rfl) ?_
                        refine va_get (D := (dC, dI)) (ci := 6) (v := .ref (a 1)) (C := RX7) (T := TX7) (N := 44) hx hb hu uX7 hown hK hI.1 0 rfl rfl 1 (by decide) (hu _ uww_538) (fun _ h9 => h9) rfl dX7_six_228 ?_
                        refine lv_aload_n hx hb dX7_six_231 rfl (lv_at hl 1 rfl) ?_
                        refine va_get (D := (dC, dI)) (ci := 6) (v := .int (M11 0 40)) (C := RX7) (T := TX7) (N := 44) hx hb hu uX7 hown hK hI.1 0 rfl rfl 40 (by decide) (hu _ uww_767) (fun _ h9 => h9) rfl dX7_six_232 ?_
                        refine lv_bipush (v := (6 : Int32)) hx hb dX7_six_235 (by decide) ?_
                        refine lv_iadd hx hb dX7_six_237 ?_
                        refine rpcalli_p hsz hI (va_runS (As := [.ref (a 1), .int ((M11 0 40) + (6 : Int32))]) (rest := []) ⟨hx, hb, hml, hown, hu⟩ (met_X7_twoAt_1 l dC dI a kA t _ M11 L12 ((M11 0 40) + (6 : Int32)) _ h) (cwl_X7_115_S hu ⟨by decide, by decide⟩) (rppreS hK hE hsz hI) rfl rfl hl.1 rfl (lv_room (Nat.le_of_ble_eq_true rfl)) dX7_six_238 ⟨by decide, by decide⟩) (fun r87 H locs h hI => ?_)
                        refine lv_if_ne (tgt := 251) hx hb dX7_six_241 (by decide) (fun c88 => ?_) (fun c88 => ?_)
                        · have h := h.1 c88
                          exact J251  _ _ _ h hI (lv_sub hl [1, 2, 3] rfl)
                        · have h := h.2 c88
                          refine lv_aload_n hx hb dX7_six_244 rfl (lv_at hl 1 rfl) ?_
                          refine lv_bipush (v := (7 : Int32)) hx hb dX7_six_245 (by decide) ?_
                          refine rpcalli_m hsz hI (va_runV (As := [.int (7 : Int32)]) (rest := []) ⟨hx, hb, hml, hown, hu⟩ (met_X7_tell_0 l dC dI a kA t _ M11 L12 (7 : Int32) _ h) (cwl_X7_213_X7 hu ⟨by decide, by decide⟩) (rppre (ci := 6) hK hE hsz hI rfl rfl) rfl rfl hl.1 rfl (lv_room (Nat.le_of_ble_eq_true rfl)) dX7_six_247 ⟨by decide, by decide⟩) (fun r89 M90 H locs h hI => ?_)
                          exact rpiret (Z := (fun r M' L' => Z r M' L')) hx hb hr hlocks hK hI dX7_six_250 h
                  · have h := h.2 c22
                    refine lv_aload_n hx hb dX7_six_204 rfl (lv_at hl 1 rfl) ?_
                    refine lv_iload hx hb dX7_six_205 (lv_at hl 0 rfl) ?_
                    refine rpcalli_m hsz hI (va_runV (As := [.int v21]) (rest := []) ⟨hx, hb, hml, hown, hu⟩ (met_X7_tell_0 l dC dI a kA t _ M11 L12 v21 _ h) (cwl_X7_213_X7 hu ⟨by decide, by decide⟩) (rppre (ci := 6) hK hE hsz hI rfl rfl) rfl rfl hl.1 rfl (lv_room (Nat.le_of_ble_eq_true rfl)) dX7_six_207 ⟨by decide, by decide⟩) (fun r91 M92 H locs h hI => ?_)
                    exact rpiret (Z := (fun r M' L' => Z r M' L')) hx hb hr hlocks hK hI dX7_six_210 h
                refine lv_if_ne (tgt := 196) hx hb dX7_six_174 (by decide) (fun c93 => ?_) (fun c93 => ?_)
                · have h := h.1 c93
                  refine lv_iconst (v := (0 : Int32)) hx hb dX7_six_196 (by decide) ?_
                  exact J197 (0 : Int32) _ _ _ h hI (lv_sub hl [1, 2, 0] rfl)
                · have h := h.2 c93
                  refine lv_aload_n hx hb dX7_six_177 rfl (lv_at hl 1 rfl) ?_
                  refine lv_aload_n hx hb dX7_six_178 rfl (lv_at hl 1 rfl) ?_
                  refine va_get (D := (dC, dI)) (ci := 6) (v := .int (M11 0 40)) (C := RX7) (T := TX7) (N := 44) hx hb hu uX7 hown hK hI.1 0 rfl rfl 40 (by decide) (hu _ uww_767) (fun _ h9 => h9) rfl dX7_six_179 ?_
                  refine lv_iload hx hb dX7_six_182 (lv_at hl 0 rfl) ?_
                  refine lv_aload_n hx hb dX7_six_184 rfl (lv_at hl 1 rfl) ?_
                  refine va_get (D := (dC, dI)) (ci := 6) (v := .int (M11 0 34)) (C := RX7) (T := TX7) (N := 44) hx hb hu uX7 hown hK hI.1 0 rfl rfl 34 (by decide) (hu _ uww_670) (fun _ h9 => h9) rfl dX7_six_185 ?_
                  refine lv_bipush (v := (58 : Int32)) hx hb dX7_six_188 (by decide) ?_
                  refine rpcalli_p hsz hI (va_runV (As := [.int (M11 0 40), .int x20, .int (M11 0 34), .int (58 : Int32)]) (rest := []) ⟨hx, hb, hml, hown, hu⟩ (met_X7_carried_0 l dC dI a kA t _ M11 L12 (M11 0 40) x20 (M11 0 34) (58 : Int32) _ h) (cwl_X7_243_X7 hu ⟨by decide, by decide⟩) (rppre (ci := 6) hK hE hsz hI rfl rfl) rfl rfl hl.1 rfl (lv_room (Nat.le_of_ble_eq_true rfl)) dX7_six_190 ⟨by decide, by decide⟩) (fun r94 H locs h hI => ?_)
                  refine lv_goto (tgt := 197) hx hb dX7_six_193 (by decide) ?_
                  exact J197 r94 _ _ _ h hI (lv_sub hl [1, 2, 0] rfl)
              refine lv_icmp_ne (tgt := 156) hx hb dX7_six_133 (by decide) (fun c95 => ?_) (fun c95 => ?_)
              · have h := h.1 c95
                exact J156  _ _ _ h hI (lv_sub hl [3, 0] rfl)
              · have h := h.2 c95
                refine lv_aload_n hx hb dX7_six_136 rfl (lv_at hl 3 rfl) ?_
                refine va_get (D := (dC, dI)) (ci := 6) (v := .int (M11 0 34)) (C := RX7) (T := TX7) (N := 44) hx hb hu uX7 hown hK hI.1 0 rfl rfl 34 (by decide) (hu _ uww_670) (fun _ h9 => h9) rfl dX7_six_137 ?_
                obtain ⟨K150, hK150, h⟩ := h
                have J150 : ∀  (H : Heap) (locs : List Loc) (ls : Array Slot), K150  → rpI dC dI a kA (rpA a sz) s M11 L12 H locs → lv_has ls 15 [(0, .ref (a 0))] → W p l e rm_X7_six_0 s m (av_X7_six_0 a t ).toArray below meth c H locs 0 0 (MQ below (qc_X7_six_0 dC dI a kA sz M L Z) (av_X7_six_0 a t ).toArray s 0 0 (rpA a sz)) (F0 m 150 ls []) := by
                  intro  H locs ls h hI hl
                  have h := hK150  h
                  refine lv_aload_n hx hb dX7_six_150 rfl (lv_at hl 0 rfl) ?_
                  refine lv_iconst (v := (5 : Int32)) hx hb dX7_six_151 (by decide) ?_
                  refine rpcalli_m hsz hI (va_runV (As := [.int (5 : Int32)]) (rest := []) ⟨hx, hb, hml, hown, hu⟩ (met_X7_tell_0 l dC dI a kA t _ M11 L12 (5 : Int32) _ h) (cwl_X7_213_X7 hu ⟨by decide, by decide⟩) (rppre (ci := 6) hK hE hsz hI rfl rfl) rfl rfl hl.1 rfl (lv_room (Nat.le_of_ble_eq_true rfl)) dX7_six_152 ⟨by decide, by decide⟩) (fun r96 M97 H locs h hI => ?_)
                  exact rpiret (Z := (fun r M' L' => Z r M' L')) hx hb hr hlocks hK hI dX7_six_155 h
                refine lv_if_ne (tgt := 150) hx hb dX7_six_140 (by decide) (fun c98 => ?_) (fun c98 => ?_)
                · have h := h.1 c98
                  exact J150  _ _ _ h hI (lv_sub hl [3] rfl)
                · have h := h.2 c98
                  refine lv_aload_n hx hb dX7_six_143 rfl (lv_at hl 3 rfl) ?_
                  refine va_get (D := (dC, dI)) (ci := 6) (v := .int (M11 0 33)) (C := RX7) (T := TX7) (N := 44) hx hb hu uX7 hown hK hI.1 0 rfl rfl 33 (by decide) (hu _ uww_669) (fun _ h9 => h9) rfl dX7_six_144 ?_
                  refine lv_if_le (tgt := 156) hx hb dX7_six_147 (by decide) (fun c99 => ?_) (fun c99 => ?_)
                  · have h := h.1 c99
                    exact J156  _ _ _ h hI (lv_sub hl [3, 0] rfl)
                  · have h := h.2 c99
                    exact J150  _ _ _ h hI (lv_sub hl [3] rfl)
            · have h := h.2 c19
              refine lv_aload_n hx hb dX7_six_120 rfl (lv_at hl 3 rfl) ?_
              refine lv_bipush (v := (6 : Int32)) hx hb dX7_six_121 (by decide) ?_
              refine rpcalli_m hsz hI (va_runV (As := [.int (6 : Int32)]) (rest := []) ⟨hx, hb, hml, hown, hu⟩ (met_X7_tell_0 l dC dI a kA t _ M11 L12 (6 : Int32) _ h) (cwl_X7_213_X7 hu ⟨by decide, by decide⟩) (rppre (ci := 6) hK hE hsz hI rfl rfl) rfl rfl hl.1 rfl (lv_room (Nat.le_of_ble_eq_true rfl)) dX7_six_123 ⟨by decide, by decide⟩) (fun r100 M101 H locs h hI => ?_)
              exact rpiret (Z := (fun r M' L' => Z r M' L')) hx hb hr hlocks hK hI dX7_six_126 h
          · have h := h.2 c17
            refine lv_aload_n hx hb dX7_six_102 rfl (lv_at hl 3 rfl) ?_
            refine lv_iconst (v := (3 : Int32)) hx hb dX7_six_103 (by decide) ?_
            refine lv_iconst (v := (0 : Int32)) hx hb dX7_six_104 (by decide) ?_
            refine lv_iconst (v := (0 : Int32)) hx hb dX7_six_105 (by decide) ?_
            refine rpcalli hsz hI (va_runV (As := [.int (3 : Int32), .int (0 : Int32), .int (0 : Int32)]) (rest := []) ⟨hx, hb, hml, hown, hu⟩ (met_X7_answer6_0 l dC dI a kA t _ M11 L12 (3 : Int32) (0 : Int32) (0 : Int32) _ h) (cwl_X7_322_X7 hu ⟨by decide, by decide⟩) (rppre (ci := 6) hK hE hsz hI rfl rfl) rfl rfl hl.1 rfl (lv_room (Nat.le_of_ble_eq_true rfl)) dX7_six_106 ⟨by decide, by decide⟩) (fun r102 M103 L104 H locs h hI => ?_)
            exact rpiret (Z := (fun r M' L' => Z r M' L')) hx hb hr hlocks hK hI dX7_six_109 h
        · have h := h.2 c15
          refine lv_aload_n hx hb dX7_six_76 rfl (lv_at hl 2 rfl) ?_
          refine lv_iconst (v := (4 : Int32)) hx hb dX7_six_77 (by decide) ?_
          refine lv_iconst (v := (0 : Int32)) hx hb dX7_six_78 (by decide) ?_
          refine lv_aload_n hx hb dX7_six_79 rfl (lv_at hl 2 rfl) ?_
          refine va_get (D := (dC, dI)) (ci := 6) (v := .int (M11 0 42)) (C := RX7) (T := TX7) (N := 44) hx hb hu uX7 hown hK hI.1 0 rfl rfl 42 (by decide) (hu _ uww_765) (fun _ h9 => h9) rfl dX7_six_80 ?_
          refine rpcalli hsz hI (va_runV (As := [.int (4 : Int32), .int (0 : Int32), .int (M11 0 42)]) (rest := []) ⟨hx, hb, hml, hown, hu⟩ (met_X7_answer6_0 l dC dI a kA t _ M11 L12 (4 : Int32) (0 : Int32) (M11 0 42) _ h) (cwl_X7_322_X7 hu ⟨by decide, by decide⟩) (rppre (ci := 6) hK hE hsz hI rfl rfl) rfl rfl hl.1 rfl (lv_room (Nat.le_of_ble_eq_true rfl)) dX7_six_83 ⟨by decide, by decide⟩) (fun r105 M106 L107 H locs h hI => ?_)
          exact rpiret (Z := (fun r M' L' => Z r M' L')) hx hb hr hlocks hK hI dX7_six_86 h
      · have h := h.2 c14
        refine lv_aload_n hx hb dX7_six_63 rfl (lv_at hl 2 rfl) ?_
        refine lv_iconst (v := (3 : Int32)) hx hb dX7_six_64 (by decide) ?_
        refine rpcalli_m hsz hI (va_runV (As := [.int (3 : Int32)]) (rest := []) ⟨hx, hb, hml, hown, hu⟩ (met_X7_tell_0 l dC dI a kA t _ M11 L12 (3 : Int32) _ h) (cwl_X7_213_X7 hu ⟨by decide, by decide⟩) (rppre (ci := 6) hK hE hsz hI rfl rfl) rfl rfl hl.1 rfl (lv_room (Nat.le_of_ble_eq_true rfl)) dX7_six_65 ⟨by decide, by decide⟩) (fun r108 M109 H locs h hI => ?_)
        exact rpiret (Z := (fun r M' L' => Z r M' L')) hx hb hr hlocks hK hI dX7_six_68 h
    · have h := h.2 c13
      refine lv_aload_n hx hb dX7_six_53 rfl (lv_at hl 2 rfl) ?_
      refine lv_iconst (v := (2 : Int32)) hx hb dX7_six_54 (by decide) ?_
      refine rpcalli_m hsz hI (va_runV (As := [.int (2 : Int32)]) (rest := []) ⟨hx, hb, hml, hown, hu⟩ (met_X7_tell_0 l dC dI a kA t _ M11 L12 (2 : Int32) _ h) (cwl_X7_213_X7 hu ⟨by decide, by decide⟩) (rppre (ci := 6) hK hE hsz hI rfl rfl) rfl rfl hl.1 rfl (lv_room (Nat.le_of_ble_eq_true rfl)) dX7_six_55 ⟨by decide, by decide⟩) (fun r110 M111 H locs h hI => ?_)
      exact rpiret (Z := (fun r M' L' => Z r M' L')) hx hb hr hlocks hK hI dX7_six_58 h
  · have h := h.2 c6
    refine lv_aload_n hx hb dX7_six_22 rfl (lv_at hl 1 rfl) ?_
    refine lv_iconst (v := (1 : Int32)) hx hb dX7_six_23 (by decide) ?_
    refine rpcalli_m hsz hI (va_runV (As := [.int (1 : Int32)]) (rest := []) ⟨hx, hb, hml, hown, hu⟩ (met_X7_tell_0 l dC dI a kA t _ M5 L (1 : Int32) _ h) (cwl_X7_213_X7 hu ⟨by decide, by decide⟩) (rppre (ci := 6) hK hE hsz hI rfl rfl) rfl rfl hl.1 rfl (lv_room (Nat.le_of_ble_eq_true rfl)) dX7_six_24 ⟨by decide, by decide⟩) (fun r112 M113 H locs h hI => ?_)
    exact rpiret (Z := (fun r M' L' => Z r M' L')) hx hb hr hlocks hK hI dX7_six_27 h

abbrev rm_X7_parts_0 : Room := { frames := 0, cells := 0, slots := 0, locals := 0 }
abbrev av_X7_parts_0 (a t : Nat → Nat)  : List Value := [.ref (a 0)]
abbrev qc_X7_parts_0 (dC : Nat → ClassId) (dI : Nat → Nat → Nat) (a : Nat → Nat) (kA : Nat → ClassId) (sz : Nat) (M : cM) (L : cL) (Z : Int32 → cM → Prop) : Array Value → State → Outcome → State → Prop := va_Qi (fun r (u : cM × cL) => u.2 = L ∧ Z r u.1) (rpAt dC dI a kA (rpA a sz)) (rpA a sz)
set_option maxHeartbeats 4000000 in
set_option maxRecDepth 100000 in
theorem met_X7_parts_0 (l : Launch) (dC : Nat → ClassId) (dI : Nat → Nat → Nat) (a : Nat → Nat) (kA : Nat → ClassId) (t : Nat → Nat) (sz : Nat) (M : cM) (L : cL)  (Z : Int32 → cM → Prop) (h : wp_X7_parts_0 M L  Z) : Met l yX7_parts (Cond.code yX7_parts cX7_parts 1 (some .int) :: uW) rm_X7_parts_0 (va_Pc (av_X7_parts_0 a t ) (rpPre dC dI a kA t M L sz)) (qc_X7_parts_0 dC dI a kA sz M L Z) 0 0 (rpA a sz) := by
  refine rpenter (cc := cX7_parts) (n := 1) (ret := (some .int)) (by decide) rfl (Nat.le_of_ble_eq_true rfl) ?_
  intro p e s m below meth c ls hx hb hml hr hlocks hown hts hK hE hsz hI hl hmn
  have hu : ∀ w ∈ uW, w.before (av_X7_parts_0 a t ).toArray s = true := fun w h => hts w (List.mem_cons_of_mem _ h)
  have hown : s.vm.findClass RX7 = some m.cls := hown
  have hl : lv_has ls 1 [(0, .ref (a 0))] := hl
  unfold wp_X7_parts_0 at h
  refine lv_aload_n hx hb dX7_parts_0 rfl (lv_at hl 0 rfl) ?_
  refine lv_iconst (v := (0 : Int32)) hx hb dX7_parts_1 (by decide) ?_
  refine rpput (ci := 6) (C := RX7) (T := TX7) (N := 44) (ty := .int) hx hb hu uX7 tyX7 tyX7_ok nmX7 hown hK hI 0 rfl rfl 0 (by decide) (hu _ uww_556) (fun _ h9 => h9) rfl (by decide +kernel) rfl rfl (Nat.le_of_ble_eq_true rfl) (rpset_0_0 _ _ _ _ _) dX7_parts_2 (fun H locs M1 eM1 hI => ?_)
  have h := h M1 eM1
  refine lv_aload_n hx hb dX7_parts_5 rfl (lv_at hl 0 rfl) ?_
  refine va_get (D := (dC, dI)) (ci := 6) (v := .int (M1 0 22)) (C := RX7) (T := TX7) (N := 44) hx hb hu uX7 hown hK hI.1 0 rfl rfl 22 (by decide) (hu _ uww_624) (fun _ h9 => h9) rfl dX7_parts_6 ?_
  exact rpiret (Z := (fun r M' L' => L' = L ∧ Z r M')) hx hb hr hlocks hK hI dX7_parts_9 ⟨rfl, h⟩

abbrev rm_X7_isPacket_0 : Room := { frames := 0, cells := 0, slots := 0, locals := 0 }
abbrev av_X7_isPacket_0 (a t : Nat → Nat) (p1 : Int32) : List Value := [.ref (a 0), .int p1]
abbrev qc_X7_isPacket_0 (dC : Nat → ClassId) (dI : Nat → Nat → Nat) (a : Nat → Nat) (kA : Nat → ClassId) (sz : Nat) (M : cM) (L : cL) (Z : Int32 → Prop) : Array Value → State → Outcome → State → Prop := va_Qi (fun r (u : cM × cL) => u.1 = M ∧ u.2 = L ∧ Z r) (rpAt dC dI a kA (rpA a sz)) (rpA a sz)
set_option maxHeartbeats 4000000 in
set_option maxRecDepth 100000 in
theorem met_X7_isPacket_0 (l : Launch) (dC : Nat → ClassId) (dI : Nat → Nat → Nat) (a : Nat → Nat) (kA : Nat → ClassId) (t : Nat → Nat) (sz : Nat) (M : cM) (L : cL) (p1 : Int32) (Z : Int32 → Prop) (h : wp_X7_isPacket_0 M L p1 Z) : Met l yX7_isPacket (Cond.code yX7_isPacket cX7_isPacket 2 (some .boolean) :: uW) rm_X7_isPacket_0 (va_Pc (av_X7_isPacket_0 a t p1) (rpPre dC dI a kA t M L sz)) (qc_X7_isPacket_0 dC dI a kA sz M L Z) 0 0 (rpA a sz) := by
  refine rpenter (cc := cX7_isPacket) (n := 2) (ret := (some .boolean)) (by decide) rfl (Nat.le_of_ble_eq_true rfl) ?_
  intro p e s m below meth c ls hx hb hml hr hlocks hown hts hK hE hsz hI hl hmn
  have hu : ∀ w ∈ uW, w.before (av_X7_isPacket_0 a t p1).toArray s = true := fun w h => hts w (List.mem_cons_of_mem _ h)
  have hown : s.vm.findClass RX7 = some m.cls := hown
  have hl : lv_has ls 2 [(0, .ref (a 0)), (1, .int p1)] := hl
  unfold wp_X7_isPacket_0 at h
  refine lv_iload_n hx hb dX7_isPacket_0 rfl (lv_at hl 1 rfl) ?_
  refine lv_if_lt (tgt := 16) hx hb dX7_isPacket_1 (by decide) (fun c1 => ?_) (fun c1 => ?_)
  · have h := h.1 c1
    refine lv_iconst (v := (0 : Int32)) hx hb dX7_isPacket_16 (by decide) ?_
    exact rpzret (Z := (fun r M' L' => M' = M ∧ L' = L ∧ Z r)) hx hb hr hlocks hK hI dX7_isPacket_17 ⟨isB_0, ⟨rfl, rfl, h⟩⟩
  · have h := h.2 c1
    refine lv_iload_n hx hb dX7_isPacket_4 rfl (lv_at hl 1 rfl) ?_
    refine lv_aload_n hx hb dX7_isPacket_5 rfl (lv_at hl 0 rfl) ?_
    refine va_get (D := (dC, dI)) (ci := 6) (v := .int (M 0 22)) (C := RX7) (T := TX7) (N := 44) hx hb hu uX7 hown hK hI.1 0 rfl rfl 22 (by decide) (hu _ uww_624) (fun _ h9 => h9) rfl dX7_isPacket_6 ?_
    refine lv_icmp_ge (tgt := 16) hx hb dX7_isPacket_9 (by decide) (fun c2 => ?_) (fun c2 => ?_)
    · have h := h.1 c2
      refine lv_iconst (v := (0 : Int32)) hx hb dX7_isPacket_16 (by decide) ?_
      exact rpzret (Z := (fun r M' L' => M' = M ∧ L' = L ∧ Z r)) hx hb hr hlocks hK hI dX7_isPacket_17 ⟨isB_0, ⟨rfl, rfl, h⟩⟩
    · have h := h.2 c2
      refine lv_iconst (v := (1 : Int32)) hx hb dX7_isPacket_12 (by decide) ?_
      refine lv_goto (tgt := 17) hx hb dX7_isPacket_13 (by decide) ?_
      exact rpzret (Z := (fun r M' L' => M' = M ∧ L' = L ∧ Z r)) hx hb hr hlocks hK hI dX7_isPacket_17 ⟨isB_1, ⟨rfl, rfl, h⟩⟩

abbrev rm_X7_size_0 : Room := { frames := 1, cells := 0, slots := 0, locals := 21 }
abbrev av_X7_size_0 (a t : Nat → Nat) (p1 : Int32) : List Value := [.ref (a 0), .int p1]
abbrev qc_X7_size_0 (dC : Nat → ClassId) (dI : Nat → Nat → Nat) (a : Nat → Nat) (kA : Nat → ClassId) (sz : Nat) (M : cM) (L : cL) (Z : Int32 → cM → Prop) : Array Value → State → Outcome → State → Prop := va_Qi (fun r (u : cM × cL) => u.2 = L ∧ Z r u.1) (rpAt dC dI a kA (rpA a sz)) (rpA a sz)
set_option maxHeartbeats 4000000 in
set_option maxRecDepth 100000 in
theorem met_X7_size_0 (l : Launch) (dC : Nat → ClassId) (dI : Nat → Nat → Nat) (a : Nat → Nat) (kA : Nat → ClassId) (t : Nat → Nat) (sz : Nat) (M : cM) (L : cL) (p1 : Int32) (Z : Int32 → cM → Prop) (h : wp_X7_size_0 M L p1 Z) : Met l yX7_size (Cond.code yX7_size cX7_size 2 (some .int) :: uW) rm_X7_size_0 (va_Pc (av_X7_size_0 a t p1) (rpPre dC dI a kA t M L sz)) (qc_X7_size_0 dC dI a kA sz M L Z) 0 0 (rpA a sz) := by
  refine rpenter (cc := cX7_size) (n := 2) (ret := (some .int)) (by decide) rfl (Nat.le_of_ble_eq_true rfl) ?_
  intro p e s m below meth c ls hx hb hml hr hlocks hown hts hK hE hsz hI hl hmn
  have hu : ∀ w ∈ uW, w.before (av_X7_size_0 a t p1).toArray s = true := fun w h => hts w (List.mem_cons_of_mem _ h)
  have hown : s.vm.findClass RX7 = some m.cls := hown
  have hl : lv_has ls 2 [(0, .ref (a 0)), (1, .int p1)] := hl
  unfold wp_X7_size_0 at h
  refine lv_aload_n hx hb dX7_size_0 rfl (lv_at hl 0 rfl) ?_
  refine lv_iconst (v := (0 : Int32)) hx hb dX7_size_1 (by decide) ?_
  refine rpput (ci := 6) (C := RX7) (T := TX7) (N := 44) (ty := .int) hx hb hu uX7 tyX7 tyX7_ok nmX7 hown hK hI 0 rfl rfl 0 (by decide) (hu _ uww_556) (fun _ h9 => h9) rfl (by decide +kernel) rfl rfl (Nat.le_of_ble_eq_true rfl) (rpset_0_0 _ _ _ _ _) dX7_size_2 (fun H locs M1 eM1 hI => ?_)
  have h := h M1 eM1
  refine lv_aload_n hx hb dX7_size_5 rfl (lv_at hl 0 rfl) ?_
  refine lv_iload_n hx hb dX7_size_6 rfl (lv_at hl 1 rfl) ?_
  refine rpcalli_p hsz hI (va_runV (As := [.int p1]) (rest := []) ⟨hx, hb, hml, hown, hu⟩ (met_X7_isPacket_0 l dC dI a kA t _ M1 L p1 _ h) (cwl_X7_364_X7 hu ⟨by decide, by decide⟩) (rppre (ci := 6) hK hE hsz hI rfl rfl) rfl rfl hl.1 rfl (lv_room (Nat.le_of_ble_eq_true rfl)) dX7_size_7 ⟨by decide, by decide⟩) (fun r2 H locs h hI => ?_)
  refine lv_if_eq (tgt := 31) hx hb dX7_size_10 (by decide) (fun c3 => ?_) (fun c3 => ?_)
  · have h := h.1 c3
    refine lv_iconst (v := (-1 : Int32)) hx hb dX7_size_31 (by decide) ?_
    exact rpiret (Z := (fun r M' L' => L' = L ∧ Z r M')) hx hb hr hlocks hK hI dX7_size_32 ⟨rfl, h⟩
  · have h := h.2 c3
    refine lv_aload_n hx hb dX7_size_13 rfl (lv_at hl 0 rfl) ?_
    refine va_get (D := (dC, dI)) (ci := 6) (v := .ref (a 4)) (C := RX7) (T := TX7) (N := 44) hx hb hu uX7 hown hK hI.1 0 rfl rfl 21 (by decide) (hu _ uww_553) (fun _ h9 => h9) rfl dX7_size_14 ?_
    refine lv_iload_n hx hb dX7_size_17 rfl (lv_at hl 1 rfl) ?_
    refine lv_iconst (v := (1 : Int32)) hx hb dX7_size_18 (by decide) ?_
    refine lv_iadd hx hb dX7_size_19 ?_
    refine va_iald hx hb hK hI.1 4 3 rfl rfl h.1 dX7_size_20 ?_
    have h := h.2
    refine lv_aload_n hx hb dX7_size_21 rfl (lv_at hl 0 rfl) ?_
    refine va_get (D := (dC, dI)) (ci := 6) (v := .ref (a 4)) (C := RX7) (T := TX7) (N := 44) hx hb hu uX7 hown hK hI.1 0 rfl rfl 21 (by decide) (hu _ uww_553) (fun _ h9 => h9) rfl dX7_size_22 ?_
    refine lv_iload_n hx hb dX7_size_25 rfl (lv_at hl 1 rfl) ?_
    refine va_iald hx hb hK hI.1 4 3 rfl rfl h.1 dX7_size_26 ?_
    have h := h.2
    refine lv_isub hx hb dX7_size_27 ?_
    refine lv_goto (tgt := 32) hx hb dX7_size_28 (by decide) ?_
    exact rpiret (Z := (fun r M' L' => L' = L ∧ Z r M')) hx hb hr hlocks hK hI dX7_size_32 ⟨rfl, h⟩

abbrev rm_X7_octetAt_3 : Room := { frames := 0, cells := 0, slots := 0, locals := 0 }
abbrev av_X7_octetAt_3 (a t : Nat → Nat) (p1 : Int32) : List Value := [.ref (a 3), .int p1]
abbrev qc_X7_octetAt_3 (dC : Nat → ClassId) (dI : Nat → Nat → Nat) (a : Nat → Nat) (kA : Nat → ClassId) (sz : Nat) (M : cM) (L : cL) (Z : Int32 → Prop) : Array Value → State → Outcome → State → Prop := va_Qi (fun r (u : cM × cL) => u.1 = M ∧ u.2 = L ∧ Z r) (rpAt dC dI a kA (rpA a sz)) (rpA a sz)
set_option maxHeartbeats 4000000 in
set_option maxRecDepth 100000 in
theorem met_X7_octetAt_3 (l : Launch) (dC : Nat → ClassId) (dI : Nat → Nat → Nat) (a : Nat → Nat) (kA : Nat → ClassId) (t : Nat → Nat) (sz : Nat) (M : cM) (L : cL) (p1 : Int32) (Z : Int32 → Prop) (h : wp_X7_octetAt_3 M L p1 Z) : Met l yX7_octetAt (Cond.code yX7_octetAt cX7_octetAt 2 (some .int) :: uW) rm_X7_octetAt_3 (va_Pc (av_X7_octetAt_3 a t p1) (rpPre dC dI a kA t M L sz)) (qc_X7_octetAt_3 dC dI a kA sz M L Z) 0 0 (rpA a sz) := by
  refine rpenter (cc := cX7_octetAt) (n := 2) (ret := (some .int)) (by decide) rfl (Nat.le_of_ble_eq_true rfl) ?_
  intro p e s m below meth c ls hx hb hml hr hlocks hown hts hK hE hsz hI hl hmn
  have hu : ∀ w ∈ uW, w.before (av_X7_octetAt_3 a t p1).toArray s = true := fun w h => hts w (List.mem_cons_of_mem _ h)
  have hown : s.vm.findClass RX7 = some m.cls := hown
  have hl : lv_has ls 2 [(0, .ref (a 3)), (1, .int p1)] := hl
  unfold wp_X7_octetAt_3 at h
  refine lv_aload_n hx hb dX7_octetAt_0 rfl (lv_at hl 0 rfl) ?_
  refine lv_iload_n hx hb dX7_octetAt_1 rfl (lv_at hl 1 rfl) ?_
  refine va_bald hx hb hK hI.1 3 2 rfl rfl h.1 dX7_octetAt_2 ?_
  have h := h.2
  refine lv_sipush (v := (255 : Int32)) hx hb dX7_octetAt_3 (by decide) ?_
  refine lv_iand hx hb dX7_octetAt_6 ?_
  exact rpiret (Z := (fun r M' L' => M' = M ∧ L' = L ∧ Z r)) hx hb hr hlocks hK hI dX7_octetAt_7 ⟨rfl, rfl, h⟩

abbrev rm_X7_octet_0 : Room := { frames := 1, cells := 0, slots := 0, locals := 21 }
abbrev av_X7_octet_0 (a t : Nat → Nat) (p1 : Int32) (p2 : Int32) : List Value := [.ref (a 0), .int p1, .int p2]
abbrev qc_X7_octet_0 (dC : Nat → ClassId) (dI : Nat → Nat → Nat) (a : Nat → Nat) (kA : Nat → ClassId) (sz : Nat) (M : cM) (L : cL) (Z : Int32 → cM → Prop) : Array Value → State → Outcome → State → Prop := va_Qi (fun r (u : cM × cL) => u.2 = L ∧ Z r u.1) (rpAt dC dI a kA (rpA a sz)) (rpA a sz)
set_option maxHeartbeats 4000000 in
set_option maxRecDepth 100000 in
theorem met_X7_octet_0 (l : Launch) (dC : Nat → ClassId) (dI : Nat → Nat → Nat) (a : Nat → Nat) (kA : Nat → ClassId) (t : Nat → Nat) (sz : Nat) (M : cM) (L : cL) (p1 : Int32) (p2 : Int32) (Z : Int32 → cM → Prop) (h : wp_X7_octet_0 M L p1 p2 Z) : Met l yX7_octet (Cond.code yX7_octet cX7_octet 3 (some .int) :: uW) rm_X7_octet_0 (va_Pc (av_X7_octet_0 a t p1 p2) (rpPre dC dI a kA t M L sz)) (qc_X7_octet_0 dC dI a kA sz M L Z) 0 0 (rpA a sz) := by
  refine rpenter (cc := cX7_octet) (n := 3) (ret := (some .int)) (by decide) rfl (Nat.le_of_ble_eq_true rfl) ?_
  intro p e s m below meth c ls hx hb hml hr hlocks hown hts hK hE hsz hI hl hmn
  have hu : ∀ w ∈ uW, w.before (av_X7_octet_0 a t p1 p2).toArray s = true := fun w h => hts w (List.mem_cons_of_mem _ h)
  have hown : s.vm.findClass RX7 = some m.cls := hown
  have hl : lv_has ls 3 [(0, .ref (a 0)), (1, .int p1), (2, .int p2)] := hl
  unfold wp_X7_octet_0 at h
  refine lv_aload_n hx hb dX7_octet_0 rfl (lv_at hl 0 rfl) ?_
  refine lv_aload_n hx hb dX7_octet_1 rfl (lv_at hl 0 rfl) ?_
  refine lv_iload_n hx hb dX7_octet_2 rfl (lv_at hl 1 rfl) ?_
  refine rpcalli_p hsz hI (va_runV (As := [.int p1]) (rest := [.ref (a 0)]) ⟨hx, hb, hml, hown, hu⟩ (met_X7_isPacket_0 l dC dI a kA t _ M L p1 _ h) (cwl_X7_364_X7 hu ⟨by decide, by decide⟩) (rppre (ci := 6) hK hE hsz hI rfl rfl) rfl rfl hl.1 rfl (lv_room (Nat.le_of_ble_eq_true rfl)) dX7_octet_3 ⟨by decide, by decide⟩) (fun r1 H locs h hI => ?_)
  obtain ⟨K37, hK37, h⟩ := h
  have J37 : ∀ (v2 : Int32) (H : Heap) (locs : List Loc) (ls : Array Slot), K37 v2 → rpI dC dI a kA (rpA a sz) s M L H locs → lv_has ls 3 [(0, .ref (a 0)), (1, .int p1), (2, .int p2)] → W p l e rm_X7_octet_0 s m (av_X7_octet_0 a t p1 p2).toArray below meth c H locs 0 0 (MQ below (qc_X7_octet_0 dC dI a kA sz M L Z) (av_X7_octet_0 a t p1 p2).toArray s 0 0 (rpA a sz)) (F0 m 37 ls [.int v2, .ref (a 0)]) := by
    intro v2 H locs ls h hI hl
    have h := hK37 v2 h
    refine rpput (ci := 6) (C := RX7) (T := TX7) (N := 44) (ty := .int) hx hb hu uX7 tyX7 tyX7_ok nmX7 hown hK hI 0 rfl rfl 0 (by decide) (hu _ uww_556) (fun _ h9 => h9) rfl (by decide +kernel) rfl rfl (Nat.le_of_ble_eq_true rfl) (rpset_0_0 _ _ _ _ _) dX7_octet_37 (fun H locs M3 eM3 hI => ?_)
    have h := h M3 eM3
    refine lv_aload_n hx hb dX7_octet_40 rfl (lv_at hl 0 rfl) ?_
    refine va_get (D := (dC, dI)) (ci := 6) (v := .int (M3 0 0)) (C := RX7) (T := TX7) (N := 44) hx hb hu uX7 hown hK hI.1 0 rfl rfl 0 (by decide) (hu _ uww_556) (fun _ h9 => h9) rfl dX7_octet_41 ?_
    refine lv_if_le (tgt := 51) hx hb dX7_octet_44 (by decide) (fun c4 => ?_) (fun c4 => ?_)
    · have h := h.1 c4
      refine lv_aload_n hx hb dX7_octet_51 rfl (lv_at hl 0 rfl) ?_
      refine va_get (D := (dC, dI)) (ci := 6) (v := .ref (a 3)) (C := RX7) (T := TX7) (N := 44) hx hb hu uX7 hown hK hI.1 0 rfl rfl 19 (by decide) (hu _ uww_552) (fun _ h9 => h9) rfl dX7_octet_52 ?_
      refine lv_aload_n hx hb dX7_octet_55 rfl (lv_at hl 0 rfl) ?_
      refine va_get (D := (dC, dI)) (ci := 6) (v := .ref (a 4)) (C := RX7) (T := TX7) (N := 44) hx hb hu uX7 hown hK hI.1 0 rfl rfl 21 (by decide) (hu _ uww_553) (fun _ h9 => h9) rfl dX7_octet_56 ?_
      refine lv_iload_n hx hb dX7_octet_59 rfl (lv_at hl 1 rfl) ?_
      refine va_iald hx hb hK hI.1 4 3 rfl rfl h.1 dX7_octet_60 ?_
      have h := h.2
      refine lv_iload_n hx hb dX7_octet_61 rfl (lv_at hl 2 rfl) ?_
      refine lv_iadd hx hb dX7_octet_62 ?_
      refine rpcalli_p hsz hI (va_runS (As := [.ref (a 3), .int ((M3 4 p1.toNatClampNeg) + p2)]) (rest := []) ⟨hx, hb, hml, hown, hu⟩ (met_X7_octetAt_3 l dC dI a kA t _ M3 L ((M3 4 p1.toNatClampNeg) + p2) _ h) (cwl_X7_111_S hu ⟨by decide, by decide⟩) (rppreS hK hE hsz hI) rfl rfl hl.1 rfl (lv_room (Nat.le_of_ble_eq_true rfl)) dX7_octet_63 ⟨by decide, by decide⟩) (fun r5 H locs h hI => ?_)
      exact rpiret (Z := (fun r M' L' => L' = L ∧ Z r M')) hx hb hr hlocks hK hI dX7_octet_66 ⟨rfl, h⟩
    · have h := h.2 c4
      refine lv_iconst (v := (0 : Int32)) hx hb dX7_octet_47 (by decide) ?_
      refine lv_goto (tgt := 66) hx hb dX7_octet_48 (by decide) ?_
      exact rpiret (Z := (fun r M' L' => L' = L ∧ Z r M')) hx hb hr hlocks hK hI dX7_octet_66 ⟨rfl, h⟩
  obtain ⟨K32, hK32, h⟩ := h
  have J32 : ∀  (H : Heap) (locs : List Loc) (ls : Array Slot), K32  → rpI dC dI a kA (rpA a sz) s M L H locs → lv_has ls 3 [(0, .ref (a 0)), (1, .int p1), (2, .int p2)] → W p l e rm_X7_octet_0 s m (av_X7_octet_0 a t p1 p2).toArray below meth c H locs 0 0 (MQ below (qc_X7_octet_0 dC dI a kA sz M L Z) (av_X7_octet_0 a t p1 p2).toArray s 0 0 (rpA a sz)) (F0 m 32 ls [.ref (a 0)]) := by
    intro  H locs ls h hI hl
    have h := hK32  h
    refine lv_iconst (v := (1 : Int32)) hx hb dX7_octet_32 (by decide) ?_
    refine lv_goto (tgt := 37) hx hb dX7_octet_33 (by decide) ?_
    exact J37 (1 : Int32) _ _ _ h hI (lv_sub hl [0, 1, 2] rfl)
  refine lv_if_eq (tgt := 32) hx hb dX7_octet_6 (by decide) (fun c6 => ?_) (fun c6 => ?_)
  · have h := h.1 c6
    exact J32  _ _ _ h hI (lv_sub hl [0, 1, 2] rfl)
  · have h := h.2 c6
    refine lv_iload_n hx hb dX7_octet_9 rfl (lv_at hl 2 rfl) ?_
    refine lv_if_lt (tgt := 32) hx hb dX7_octet_10 (by decide) (fun c7 => ?_) (fun c7 => ?_)
    · have h := h.1 c7
      exact J32  _ _ _ h hI (lv_sub hl [0, 1, 2] rfl)
    · have h := h.2 c7
      refine lv_iload_n hx hb dX7_octet_13 rfl (lv_at hl 2 rfl) ?_
      refine lv_aload_n hx hb dX7_octet_14 rfl (lv_at hl 0 rfl) ?_
      refine va_get (D := (dC, dI)) (ci := 6) (v := .ref (a 4)) (C := RX7) (T := TX7) (N := 44) hx hb hu uX7 hown hK hI.1 0 rfl rfl 21 (by decide) (hu _ uww_553) (fun _ h9 => h9) rfl dX7_octet_15 ?_
      refine lv_iload_n hx hb dX7_octet_18 rfl (lv_at hl 1 rfl) ?_
      refine lv_iconst (v := (1 : Int32)) hx hb dX7_octet_19 (by decide) ?_
      refine lv_iadd hx hb dX7_octet_20 ?_
      refine va_iald hx hb hK hI.1 4 3 rfl rfl h.1 dX7_octet_21 ?_
      have h := h.2
      refine lv_aload_n hx hb dX7_octet_22 rfl (lv_at hl 0 rfl) ?_
      refine va_get (D := (dC, dI)) (ci := 6) (v := .ref (a 4)) (C := RX7) (T := TX7) (N := 44) hx hb hu uX7 hown hK hI.1 0 rfl rfl 21 (by decide) (hu _ uww_553) (fun _ h9 => h9) rfl dX7_octet_23 ?_
      refine lv_iload_n hx hb dX7_octet_26 rfl (lv_at hl 1 rfl) ?_
      refine va_iald hx hb hK hI.1 4 3 rfl rfl h.1 dX7_octet_27 ?_
      have h := h.2
      refine lv_isub hx hb dX7_octet_28 ?_
      refine lv_icmp_lt (tgt := 36) hx hb dX7_octet_29 (by decide) (fun c8 => ?_) (fun c8 => ?_)
      · have h := h.1 c8
        refine lv_iconst (v := (0 : Int32)) hx hb dX7_octet_36 (by decide) ?_
        exact J37 (0 : Int32) _ _ _ h hI (lv_sub hl [0, 1, 2] rfl)
      · have h := h.2 c8
        exact J32  _ _ _ h hI (lv_sub hl [0, 1, 2] rfl)

abbrev rm_X7_check_0 : Room := { frames := 2, cells := 0, slots := 0, locals := 45 }
abbrev av_X7_check_0 (a t : Nat → Nat) (p1 : Int32) (p2 : Int32) (p3 : Int32) : List Value := [.ref (a 0), .int p1, .int p2, .int p3]
abbrev qc_X7_check_0 (dC : Nat → ClassId) (dI : Nat → Nat → Nat) (a : Nat → Nat) (kA : Nat → ClassId) (sz : Nat) (M : cM) (L : cL) (Z : Int32 → cM → cL → Prop) : Array Value → State → Outcome → State → Prop := va_Qi (fun r (u : cM × cL) => Z r u.1 u.2) (rpAt dC dI a kA (rpA a sz)) (rpA a sz)
set_option maxHeartbeats 4000000 in
set_option maxRecDepth 100000 in
theorem met_X7_check_0 (l : Launch) (dC : Nat → ClassId) (dI : Nat → Nat → Nat) (a : Nat → Nat) (kA : Nat → ClassId) (t : Nat → Nat) (sz : Nat) (M : cM) (L : cL) (p1 : Int32) (p2 : Int32) (p3 : Int32) (Z : Int32 → cM → cL → Prop) (h : wp_X7_check_0 M L p1 p2 p3 Z) : Met l yX7_check (Cond.code yX7_check cX7_check 4 (some .int) :: uW) rm_X7_check_0 (va_Pc (av_X7_check_0 a t p1 p2 p3) (rpPre dC dI a kA t M L sz)) (qc_X7_check_0 dC dI a kA sz M L Z) 0 0 (rpA a sz) := by
  refine rpenter (cc := cX7_check) (n := 4) (ret := (some .int)) (by decide) rfl (Nat.le_of_ble_eq_true rfl) ?_
  intro p e s m below meth c ls hx hb hml hr hlocks hown hts hK hE hsz hI hl hmn
  have hu : ∀ w ∈ uW, w.before (av_X7_check_0 a t p1 p2 p3).toArray s = true := fun w h => hts w (List.mem_cons_of_mem _ h)
  have hown : s.vm.findClass RX7 = some m.cls := hown
  have hl : lv_has ls 4 [(0, .ref (a 0)), (1, .int p1), (2, .int p2), (3, .int p3)] := hl
  unfold wp_X7_check_0 at h
  refine lv_aload_n hx hb dX7_check_0 rfl (lv_at hl 0 rfl) ?_
  refine lv_aload_n hx hb dX7_check_1 rfl (lv_at hl 0 rfl) ?_
  refine lv_iload_n hx hb dX7_check_2 rfl (lv_at hl 1 rfl) ?_
  refine rpcalli_p hsz hI (va_runV (As := [.int p1]) (rest := [.ref (a 0)]) ⟨hx, hb, hml, hown, hu⟩ (met_X7_isPacket_0 l dC dI a kA t _ M L p1 _ h) (cwl_X7_364_X7 hu ⟨by decide, by decide⟩) (rppre (ci := 6) hK hE hsz hI rfl rfl) rfl rfl hl.1 rfl (lv_room (Nat.le_of_ble_eq_true rfl)) dX7_check_3 ⟨by decide, by decide⟩) (fun r1 H locs h hI => ?_)
  obtain ⟨K42, hK42, h⟩ := h
  have J42 : ∀ (v2 : Int32) (H : Heap) (locs : List Loc) (ls : Array Slot), K42 v2 → rpI dC dI a kA (rpA a sz) s M L H locs → lv_has ls 4 [(0, .ref (a 0)), (1, .int p1), (2, .int p2), (3, .int p3)] → W p l e rm_X7_check_0 s m (av_X7_check_0 a t p1 p2 p3).toArray below meth c H locs 0 0 (MQ below (qc_X7_check_0 dC dI a kA sz M L Z) (av_X7_check_0 a t p1 p2 p3).toArray s 0 0 (rpA a sz)) (F0 m 42 ls [.int v2, .ref (a 0)]) := by
    intro v2 H locs ls h hI hl
    have h := hK42 v2 h
    refine rpput (ci := 6) (C := RX7) (T := TX7) (N := 44) (ty := .int) hx hb hu uX7 tyX7 tyX7_ok nmX7 hown hK hI 0 rfl rfl 0 (by decide) (hu _ uww_556) (fun _ h9 => h9) rfl (by decide +kernel) rfl rfl (Nat.le_of_ble_eq_true rfl) (rpset_0_0 _ _ _ _ _) dX7_check_42 (fun H locs M3 eM3 hI => ?_)
    have h := h M3 eM3
    refine lv_aload_n hx hb dX7_check_45 rfl (lv_at hl 0 rfl) ?_
    refine va_get (D := (dC, dI)) (ci := 6) (v := .int (M3 0 0)) (C := RX7) (T := TX7) (N := 44) hx hb hu uX7 hown hK hI.1 0 rfl rfl 0 (by decide) (hu _ uww_556) (fun _ h9 => h9) rfl dX7_check_46 ?_
    refine lv_if_le (tgt := 54) hx hb dX7_check_49 (by decide) (fun c4 => ?_) (fun c4 => ?_)
    · have h := h.1 c4
      refine lv_aload_n hx hb dX7_check_54 rfl (lv_at hl 0 rfl) ?_
      refine lv_lconst (v := (0 : Int64)) hx hb dX7_check_55 (by decide) ?_
      refine rpputl (ci := 6) (C := RX7) (T := TX7) (N := 44) (ty := .long) hx hb hu uX7 tyX7 tyX7_ok nmX7 hown hK hI 0 rfl rfl 18 (by decide) (hu _ uww_593) (fun _ h9 => h9) rfl (by decide +kernel) rfl rfl (Nat.le_of_ble_eq_true rfl) (rpset_0_18 _ _ _ _ _) dX7_check_56 (fun H locs L5 eL5 hI => ?_)
      have h := h L5 eL5
      refine lv_aload_n hx hb dX7_check_59 rfl (lv_at hl 0 rfl) ?_
      refine lv_aload_n hx hb dX7_check_60 rfl (lv_at hl 0 rfl) ?_
      refine va_get (D := (dC, dI)) (ci := 6) (v := .ref (a 3)) (C := RX7) (T := TX7) (N := 44) hx hb hu uX7 hown hK hI.1 0 rfl rfl 19 (by decide) (hu _ uww_552) (fun _ h9 => h9) rfl dX7_check_61 ?_
      refine lv_aload_n hx hb dX7_check_64 rfl (lv_at hl 0 rfl) ?_
      refine va_get (D := (dC, dI)) (ci := 6) (v := .ref (a 4)) (C := RX7) (T := TX7) (N := 44) hx hb hu uX7 hown hK hI.1 0 rfl rfl 21 (by decide) (hu _ uww_553) (fun _ h9 => h9) rfl dX7_check_65 ?_
      refine lv_iload_n hx hb dX7_check_68 rfl (lv_at hl 1 rfl) ?_
      refine va_iald hx hb hK hI.1 4 3 rfl rfl h.1 dX7_check_69 ?_
      have h := h.2
      refine lv_iload_n hx hb dX7_check_70 rfl (lv_at hl 2 rfl) ?_
      refine lv_iadd hx hb dX7_check_71 ?_
      refine lv_aload_n hx hb dX7_check_72 rfl (lv_at hl 0 rfl) ?_
      refine va_get (D := (dC, dI)) (ci := 6) (v := .ref (a 4)) (C := RX7) (T := TX7) (N := 44) hx hb hu uX7 hown hK hI.1 0 rfl rfl 21 (by decide) (hu _ uww_553) (fun _ h9 => h9) rfl dX7_check_73 ?_
      refine lv_iload_n hx hb dX7_check_76 rfl (lv_at hl 1 rfl) ?_
      refine va_iald hx hb hK hI.1 4 3 rfl rfl h.1 dX7_check_77 ?_
      have h := h.2
      refine lv_iload_n hx hb dX7_check_78 rfl (lv_at hl 3 rfl) ?_
      refine lv_iadd hx hb dX7_check_79 ?_
      refine rpcallv_l hsz hI (va_runV (As := [.ref (a 3), .int ((M3 4 p1.toNatClampNeg) + p2), .int ((M3 4 p1.toNatClampNeg) + p3)]) (rest := []) ⟨hx, hb, hml, hown, hu⟩ (met_X7_words_0_3 l dC dI a kA t _ M3 L5 ((M3 4 p1.toNatClampNeg) + p2) ((M3 4 p1.toNatClampNeg) + p3) _ h) (cwl_X7_206_X7 hu ⟨by decide, by decide⟩) (rppre (ci := 6) hK hE hsz hI rfl rfl) rfl rfl hl.1 rfl (lv_room (Nat.le_of_ble_eq_true rfl)) dX7_check_80 ⟨by decide, by decide⟩) (fun L6 H locs h hI => ?_)
      refine lv_aload_n hx hb dX7_check_83 rfl (lv_at hl 0 rfl) ?_
      refine rpcalli_p hsz hI (va_runV (As := []) (rest := []) ⟨hx, hb, hml, hown, hu⟩ (met_X7_checksum_0 l dC dI a kA t _ M3 L6  _ h) (cwl_X7_177_X7 hu ⟨by decide, by decide⟩) (rppre (ci := 6) hK hE hsz hI rfl rfl) rfl rfl hl.1 rfl (lv_room (Nat.le_of_ble_eq_true rfl)) dX7_check_84 ⟨by decide, by decide⟩) (fun r7 H locs h hI => ?_)
      exact rpiret (Z := (fun r M' L' => Z r M' L')) hx hb hr hlocks hK hI dX7_check_87 h
    · have h := h.2 c4
      refine lv_iconst (v := (0 : Int32)) hx hb dX7_check_52 (by decide) ?_
      exact rpiret (Z := (fun r M' L' => Z r M' L')) hx hb hr hlocks hK hI dX7_check_53 h
  obtain ⟨K37, hK37, h⟩ := h
  have J37 : ∀  (H : Heap) (locs : List Loc) (ls : Array Slot), K37  → rpI dC dI a kA (rpA a sz) s M L H locs → lv_has ls 4 [(0, .ref (a 0)), (1, .int p1), (2, .int p2), (3, .int p3)] → W p l e rm_X7_check_0 s m (av_X7_check_0 a t p1 p2 p3).toArray below meth c H locs 0 0 (MQ below (qc_X7_check_0 dC dI a kA sz M L Z) (av_X7_check_0 a t p1 p2 p3).toArray s 0 0 (rpA a sz)) (F0 m 37 ls [.ref (a 0)]) := by
    intro  H locs ls h hI hl
    have h := hK37  h
    refine lv_iconst (v := (1 : Int32)) hx hb dX7_check_37 (by decide) ?_
    refine lv_goto (tgt := 42) hx hb dX7_check_38 (by decide) ?_
    exact J42 (1 : Int32) _ _ _ h hI (lv_sub hl [0, 1, 2, 3] rfl)
  refine lv_if_eq (tgt := 37) hx hb dX7_check_6 (by decide) (fun c8 => ?_) (fun c8 => ?_)
  · have h := h.1 c8
    exact J37  _ _ _ h hI (lv_sub hl [0, 1, 2, 3] rfl)
  · have h := h.2 c8
    refine lv_iload_n hx hb dX7_check_9 rfl (lv_at hl 2 rfl) ?_
    refine lv_if_lt (tgt := 37) hx hb dX7_check_10 (by decide) (fun c9 => ?_) (fun c9 => ?_)
    · have h := h.1 c9
      exact J37  _ _ _ h hI (lv_sub hl [0, 1, 2, 3] rfl)
    · have h := h.2 c9
      refine lv_iload_n hx hb dX7_check_13 rfl (lv_at hl 2 rfl) ?_
      refine lv_iload_n hx hb dX7_check_14 rfl (lv_at hl 3 rfl) ?_
      refine lv_icmp_gt (tgt := 37) hx hb dX7_check_15 (by decide) (fun c10 => ?_) (fun c10 => ?_)
      · have h := h.1 c10
        exact J37  _ _ _ h hI (lv_sub hl [0, 1, 2, 3] rfl)
      · have h := h.2 c10
        refine lv_iload_n hx hb dX7_check_18 rfl (lv_at hl 3 rfl) ?_
        refine lv_aload_n hx hb dX7_check_19 rfl (lv_at hl 0 rfl) ?_
        refine va_get (D := (dC, dI)) (ci := 6) (v := .ref (a 4)) (C := RX7) (T := TX7) (N := 44) hx hb hu uX7 hown hK hI.1 0 rfl rfl 21 (by decide) (hu _ uww_553) (fun _ h9 => h9) rfl dX7_check_20 ?_
        refine lv_iload_n hx hb dX7_check_23 rfl (lv_at hl 1 rfl) ?_
        refine lv_iconst (v := (1 : Int32)) hx hb dX7_check_24 (by decide) ?_
        refine lv_iadd hx hb dX7_check_25 ?_
        refine va_iald hx hb hK hI.1 4 3 rfl rfl h.1 dX7_check_26 ?_
        have h := h.2
        refine lv_aload_n hx hb dX7_check_27 rfl (lv_at hl 0 rfl) ?_
        refine va_get (D := (dC, dI)) (ci := 6) (v := .ref (a 4)) (C := RX7) (T := TX7) (N := 44) hx hb hu uX7 hown hK hI.1 0 rfl rfl 21 (by decide) (hu _ uww_553) (fun _ h9 => h9) rfl dX7_check_28 ?_
        refine lv_iload_n hx hb dX7_check_31 rfl (lv_at hl 1 rfl) ?_
        refine va_iald hx hb hK hI.1 4 3 rfl rfl h.1 dX7_check_32 ?_
        have h := h.2
        refine lv_isub hx hb dX7_check_33 ?_
        refine lv_icmp_le (tgt := 41) hx hb dX7_check_34 (by decide) (fun c11 => ?_) (fun c11 => ?_)
        · have h := h.1 c11
          refine lv_iconst (v := (0 : Int32)) hx hb dX7_check_41 (by decide) ?_
          exact J42 (0 : Int32) _ _ _ h hI (lv_sub hl [0, 1, 2, 3] rfl)
        · have h := h.2 c11
          exact J37  _ _ _ h hI (lv_sub hl [0, 1, 2, 3] rfl)

abbrev rm_X7_count_0 : Room := { frames := 0, cells := 0, slots := 0, locals := 0 }
abbrev av_X7_count_0 (a t : Nat → Nat) (p1 : Int32) : List Value := [.ref (a 0), .int p1]
abbrev qc_X7_count_0 (dC : Nat → ClassId) (dI : Nat → Nat → Nat) (a : Nat → Nat) (kA : Nat → ClassId) (sz : Nat) (M : cM) (L : cL) (Z : Int32 → cM → Prop) : Array Value → State → Outcome → State → Prop := va_Qi (fun r (u : cM × cL) => u.2 = L ∧ Z r u.1) (rpAt dC dI a kA (rpA a sz)) (rpA a sz)
set_option maxHeartbeats 4000000 in
set_option maxRecDepth 100000 in
theorem met_X7_count_0 (l : Launch) (dC : Nat → ClassId) (dI : Nat → Nat → Nat) (a : Nat → Nat) (kA : Nat → ClassId) (t : Nat → Nat) (sz : Nat) (M : cM) (L : cL) (p1 : Int32) (Z : Int32 → cM → Prop) (h : wp_X7_count_0 M L p1 Z) : Met l yX7_count (Cond.code yX7_count cX7_count 2 (some .int) :: uW) rm_X7_count_0 (va_Pc (av_X7_count_0 a t p1) (rpPre dC dI a kA t M L sz)) (qc_X7_count_0 dC dI a kA sz M L Z) 0 0 (rpA a sz) := by
  refine rpenter (cc := cX7_count) (n := 2) (ret := (some .int)) (by decide) rfl (Nat.le_of_ble_eq_true rfl) ?_
  intro p e s m below meth c ls hx hb hml hr hlocks hown hts hK hE hsz hI hl hmn
  have hu : ∀ w ∈ uW, w.before (av_X7_count_0 a t p1).toArray s = true := fun w h => hts w (List.mem_cons_of_mem _ h)
  have hown : s.vm.findClass RX7 = some m.cls := hown
  have hl : lv_has ls 2 [(0, .ref (a 0)), (1, .int p1)] := hl
  unfold wp_X7_count_0 at h
  refine lv_aload_n hx hb dX7_count_0 rfl (lv_at hl 0 rfl) ?_
  refine lv_iconst (v := (0 : Int32)) hx hb dX7_count_1 (by decide) ?_
  refine rpput (ci := 6) (C := RX7) (T := TX7) (N := 44) (ty := .int) hx hb hu uX7 tyX7 tyX7_ok nmX7 hown hK hI 0 rfl rfl 0 (by decide) (hu _ uww_556) (fun _ h9 => h9) rfl (by decide +kernel) rfl rfl (Nat.le_of_ble_eq_true rfl) (rpset_0_0 _ _ _ _ _) dX7_count_2 (fun H locs M1 eM1 hI => ?_)
  have h := h M1 eM1
  refine lv_iload_n hx hb dX7_count_5 rfl (lv_at hl 1 rfl) ?_
  obtain ⟨K22, hK22, h⟩ := h
  have J22 : ∀  (H : Heap) (locs : List Loc) (ls : Array Slot), K22  → rpI dC dI a kA (rpA a sz) s M1 L H locs → lv_has ls 2 [(0, .ref (a 0)), (1, .int p1)] → W p l e rm_X7_count_0 s m (av_X7_count_0 a t p1).toArray below meth c H locs 0 0 (MQ below (qc_X7_count_0 dC dI a kA sz M L Z) (av_X7_count_0 a t p1).toArray s 0 0 (rpA a sz)) (F0 m 22 ls []) := by
    intro  H locs ls h hI hl
    have h := hK22  h
    refine lv_iload_n hx hb dX7_count_22 rfl (lv_at hl 1 rfl) ?_
    by_cases c23_0 : p1 = (11 : Int32)
    · have h := h.1 c23_0
      refine lv_tableIn (off := 33) (tgt := 56) hx hb dX7_count_23 (by rw [c23_0]; decide) (by rw [c23_0]; decide) (by rw [c23_0]; rfl) (by decide) ?_
      refine lv_aload_n hx hb dX7_count_56 rfl (lv_at hl 0 rfl) ?_
      refine va_get (D := (dC, dI)) (ci := 6) (v := .int (M1 0 2)) (C := RX7) (T := TX7) (N := 44) hx hb hu uX7 hown hK hI.1 0 rfl rfl 2 (by decide) (hu _ uww_558) (fun _ h9 => h9) rfl dX7_count_57 ?_
      exact rpiret (Z := (fun r M' L' => L' = L ∧ Z r M')) hx hb hr hlocks hK hI dX7_count_60 ⟨rfl, h⟩
    · have h := h.2 c23_0
      by_cases c23_1 : p1 = (12 : Int32)
      · have h := h.1 c23_1
        refine lv_tableIn (off := 38) (tgt := 61) hx hb dX7_count_23 (by rw [c23_1]; decide) (by rw [c23_1]; decide) (by rw [c23_1]; rfl) (by decide) ?_
        refine lv_aload_n hx hb dX7_count_61 rfl (lv_at hl 0 rfl) ?_
        refine va_get (D := (dC, dI)) (ci := 6) (v := .int (M1 0 14)) (C := RX7) (T := TX7) (N := 44) hx hb hu uX7 hown hK hI.1 0 rfl rfl 14 (by decide) (hu _ uww_775) (fun _ h9 => h9) rfl dX7_count_62 ?_
        exact rpiret (Z := (fun r M' L' => L' = L ∧ Z r M')) hx hb hr hlocks hK hI dX7_count_65 ⟨rfl, h⟩
      · have h := h.2 c23_1
        by_cases c23_2 : p1 = (13 : Int32)
        · have h := h.1 c23_2
          refine lv_tableIn (off := 43) (tgt := 66) hx hb dX7_count_23 (by rw [c23_2]; decide) (by rw [c23_2]; decide) (by rw [c23_2]; rfl) (by decide) ?_
          refine lv_aload_n hx hb dX7_count_66 rfl (lv_at hl 0 rfl) ?_
          refine va_get (D := (dC, dI)) (ci := 6) (v := .int (M1 0 9)) (C := RX7) (T := TX7) (N := 44) hx hb hu uX7 hown hK hI.1 0 rfl rfl 9 (by decide) (hu _ uww_547) (fun _ h9 => h9) rfl dX7_count_67 ?_
          exact rpiret (Z := (fun r M' L' => L' = L ∧ Z r M')) hx hb hr hlocks hK hI dX7_count_70 ⟨rfl, h⟩
        · have h := h.2 c23_2
          by_cases c23_3 : p1 = (14 : Int32)
          · have h := h.1 c23_3
            refine lv_tableIn (off := 48) (tgt := 71) hx hb dX7_count_23 (by rw [c23_3]; decide) (by rw [c23_3]; decide) (by rw [c23_3]; rfl) (by decide) ?_
            refine lv_aload_n hx hb dX7_count_71 rfl (lv_at hl 0 rfl) ?_
            refine va_get (D := (dC, dI)) (ci := 6) (v := .int (M1 0 10)) (C := RX7) (T := TX7) (N := 44) hx hb hu uX7 hown hK hI.1 0 rfl rfl 10 (by decide) (hu _ uww_548) (fun _ h9 => h9) rfl dX7_count_72 ?_
            exact rpiret (Z := (fun r M' L' => L' = L ∧ Z r M')) hx hb hr hlocks hK hI dX7_count_75 ⟨rfl, h⟩
          · have h := h.2 c23_3
            by_cases c23_4 : p1 = (15 : Int32)
            · have h := h.1 c23_4
              refine lv_tableIn (off := 53) (tgt := 76) hx hb dX7_count_23 (by rw [c23_4]; decide) (by rw [c23_4]; decide) (by rw [c23_4]; rfl) (by decide) ?_
              refine lv_aload_n hx hb dX7_count_76 rfl (lv_at hl 0 rfl) ?_
              refine va_get (D := (dC, dI)) (ci := 6) (v := .int (M1 0 5)) (C := RX7) (T := TX7) (N := 44) hx hb hu uX7 hown hK hI.1 0 rfl rfl 5 (by decide) (hu _ uww_541) (fun _ h9 => h9) rfl dX7_count_77 ?_
              exact rpiret (Z := (fun r M' L' => L' = L ∧ Z r M')) hx hb hr hlocks hK hI dX7_count_80 ⟨rfl, h⟩
            · have h := h.2 c23_4
              have nc23_0 := lv_neT (a := 11) c23_0 (by decide)
              have nc23_1 := lv_neT (a := 12) c23_1 (by decide)
              have nc23_2 := lv_neT (a := 13) c23_2 (by decide)
              have nc23_3 := lv_neT (a := 14) c23_3 (by decide)
              have nc23_4 := lv_neT (a := 15) c23_4 (by decide)
              refine lv_tableOut (tgt := 81) hx hb dX7_count_23 (by omega) (by decide) ?_
              refine lv_iconst (v := (-1 : Int32)) hx hb dX7_count_81 (by decide) ?_
              exact rpiret (Z := (fun r M' L' => L' = L ∧ Z r M')) hx hb hr hlocks hK hI dX7_count_82 ⟨rfl, h⟩
  refine lv_if_lt (tgt := 22) hx hb dX7_count_6 (by decide) (fun c2 => ?_) (fun c2 => ?_)
  · have h := h.1 c2
    exact J22  _ _ _ h hI (lv_sub hl [0, 1] rfl)
  · have h := h.2 c2
    refine lv_iload_n hx hb dX7_count_9 rfl (lv_at hl 1 rfl) ?_
    refine lv_bipush (v := (10 : Int32)) hx hb dX7_count_10 (by decide) ?_
    refine lv_icmp_gt (tgt := 22) hx hb dX7_count_12 (by decide) (fun c3 => ?_) (fun c3 => ?_)
    · have h := h.1 c3
      exact J22  _ _ _ h hI (lv_sub hl [0, 1] rfl)
    · have h := h.2 c3
      refine lv_aload_n hx hb dX7_count_15 rfl (lv_at hl 0 rfl) ?_
      refine va_get (D := (dC, dI)) (ci := 6) (v := .ref (a 2)) (C := RX7) (T := TX7) (N := 44) hx hb hu uX7 hown hK hI.1 0 rfl rfl 13 (by decide) (hu _ uww_551) (fun _ h9 => h9) rfl dX7_count_16 ?_
      refine lv_iload_n hx hb dX7_count_19 rfl (lv_at hl 1 rfl) ?_
      refine va_iald hx hb hK hI.1 2 1 rfl rfl h.1 dX7_count_20 ?_
      have h := h.2
      exact rpiret (Z := (fun r M' L' => L' = L ∧ Z r M')) hx hb hr hlocks hK hI dX7_count_21 ⟨rfl, h⟩
