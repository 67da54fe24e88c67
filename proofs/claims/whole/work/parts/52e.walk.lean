abbrev rm_X6_putMessage_0 : Room := { frames := 2, cells := 0, slots := 0, locals := 47 }
abbrev av_X6_putMessage_0 (a t : Nat → Nat) (p1 : Int32) (p2 : Int32) (p3 : Int64) : List Value := [.ref (a 0), .int p1, .int p2, .long p3]
abbrev qc_X6_putMessage_0 (dC : Nat → ClassId) (dI : Nat → Nat → Nat) (a : Nat → Nat) (kA : Nat → ClassId) (sz : Nat) (M : cM) (L : cL) (Z : cM → Prop) : Array Value → State → Outcome → State → Prop := va_Qv (fun (u : cM × cL) => u.2 = L ∧ Z u.1) (cpAt dC dI a kA (cpA a sz)) (cpA a sz)
set_option maxHeartbeats 4000000 in
set_option maxRecDepth 100000 in
theorem met_X6_putMessage_0 (l : Launch) (dC : Nat → ClassId) (dI : Nat → Nat → Nat) (a : Nat → Nat) (kA : Nat → ClassId) (t : Nat → Nat) (sz : Nat) (M : cM) (L : cL) (p1 : Int32) (p2 : Int32) (p3 : Int64) (Z : cM → Prop) (h : wp_X6_putMessage_0 M L p1 p2 p3 Z) : Met l yX6_putMessage (Cond.code yX6_putMessage cX6_putMessage 5 none :: uW) rm_X6_putMessage_0 (va_Pc (av_X6_putMessage_0 a t p1 p2 p3) (cpPre dC dI a kA t M L sz)) (qc_X6_putMessage_0 dC dI a kA sz M L Z) 0 0 (cpA a sz) := by
  refine cpenter (cc := cX6_putMessage) (n := 5) (ret := none) (by decide) rfl (Nat.le_of_ble_eq_true rfl) ?_
  intro p e s m below meth c ls hx hb hml hr hlocks hown hts hK hE hsz hI hl hmn
  have hu : ∀ w ∈ uW, w.before (av_X6_putMessage_0 a t p1 p2 p3).toArray s = true := fun w h => hts w (List.mem_cons_of_mem _ h)
  have hown : s.vm.findClass RX6 = some m.cls := hown
  have hl : lv_has ls 5 [(0, .ref (a 0)), (1, .int p1), (2, .int p2), (3, .long p3)] := hl
  unfold wp_X6_putMessage_0 at h
  refine lv_aload_n hx hb dX6_putMessage_0 rfl (lv_at hl 0 rfl) ?_
  refine va_get (D := (dC, dI)) (ci := 5) (v := .ref (a 3)) (C := RX6) (T := TX6) (N := 17) hx hb hu uX6 hown hK hI.1 0 rfl rfl 1 (by decide) (hu _ uww_214) (fun _ h9 => h9) rfl dX6_putMessage_1 ?_
  refine lv_iconst (v := (0 : Int32)) hx hb dX6_putMessage_4 (by decide) ?_
  refine lv_iconst (v := (2 : Int32)) hx hb dX6_putMessage_5 (by decide) ?_
  refine lv_iload_n hx hb dX6_putMessage_6 rfl (lv_at hl 1 rfl) ?_
  refine lv_i2l hx hb dX6_putMessage_7 rfl ?_
  refine cpcallv_m hsz hI (va_runV (As := [.int (0 : Int32), .int (2 : Int32), .long (p1.toInt64)]) (rest := []) ⟨hx, hb, hml, hown, hu⟩ (met_X4_put_3 l dC dI a kA t _ M L (0 : Int32) (2 : Int32) (p1.toInt64) _ h) (cwl_X6_99_X4 hu ⟨by decide, by decide⟩) (cppre (ci := 3) hK hE hsz hI rfl rfl) rfl rfl hl.1 rfl (lv_room (Nat.le_of_ble_eq_true rfl)) dX6_putMessage_8 ⟨by decide, by decide⟩) (fun M1 H locs h hI => ?_)
  refine lv_aload_n hx hb dX6_putMessage_11 rfl (lv_at hl 0 rfl) ?_
  refine va_get (D := (dC, dI)) (ci := 5) (v := .ref (a 3)) (C := RX6) (T := TX6) (N := 17) hx hb hu uX6 hown hK hI.1 0 rfl rfl 1 (by decide) (hu _ uww_214) (fun _ h9 => h9) rfl dX6_putMessage_12 ?_
  refine lv_iconst (v := (2 : Int32)) hx hb dX6_putMessage_15 (by decide) ?_
  refine lv_iconst (v := (2 : Int32)) hx hb dX6_putMessage_16 (by decide) ?_
  refine lv_lconst (v := (0 : Int64)) hx hb dX6_putMessage_17 (by decide) ?_
  refine cpcallv_m hsz hI (va_runV (As := [.int (2 : Int32), .int (2 : Int32), .long (0 : Int64)]) (rest := []) ⟨hx, hb, hml, hown, hu⟩ (met_X4_put_3 l dC dI a kA t _ M1 L (2 : Int32) (2 : Int32) (0 : Int64) _ h) (cwl_X6_99_X4 hu ⟨by decide, by decide⟩) (cppre (ci := 3) hK hE hsz hI rfl rfl) rfl rfl hl.1 rfl (lv_room (Nat.le_of_ble_eq_true rfl)) dX6_putMessage_18 ⟨by decide, by decide⟩) (fun M2 H locs h hI => ?_)
  refine lv_aload_n hx hb dX6_putMessage_21 rfl (lv_at hl 0 rfl) ?_
  refine va_get (D := (dC, dI)) (ci := 5) (v := .ref (a 3)) (C := RX6) (T := TX6) (N := 17) hx hb hu uX6 hown hK hI.1 0 rfl rfl 1 (by decide) (hu _ uww_214) (fun _ h9 => h9) rfl dX6_putMessage_22 ?_
  refine lv_iconst (v := (4 : Int32)) hx hb dX6_putMessage_25 (by decide) ?_
  refine lv_iconst (v := (4 : Int32)) hx hb dX6_putMessage_26 (by decide) ?_
  refine lv_iload_n hx hb dX6_putMessage_27 rfl (lv_at hl 2 rfl) ?_
  refine lv_i2l hx hb dX6_putMessage_28 rfl ?_
  refine cpcallv_m hsz hI (va_runV (As := [.int (4 : Int32), .int (4 : Int32), .long (p2.toInt64)]) (rest := []) ⟨hx, hb, hml, hown, hu⟩ (met_X4_put_3 l dC dI a kA t _ M2 L (4 : Int32) (4 : Int32) (p2.toInt64) _ h) (cwl_X6_99_X4 hu ⟨by decide, by decide⟩) (cppre (ci := 3) hK hE hsz hI rfl rfl) rfl rfl hl.1 rfl (lv_room (Nat.le_of_ble_eq_true rfl)) dX6_putMessage_29 ⟨by decide, by decide⟩) (fun M3 H locs h hI => ?_)
  refine lv_aload_n hx hb dX6_putMessage_32 rfl (lv_at hl 0 rfl) ?_
  refine va_get (D := (dC, dI)) (ci := 5) (v := .ref (a 3)) (C := RX6) (T := TX6) (N := 17) hx hb hu uX6 hown hK hI.1 0 rfl rfl 1 (by decide) (hu _ uww_214) (fun _ h9 => h9) rfl dX6_putMessage_33 ?_
  refine lv_iconst (v := (2 : Int32)) hx hb dX6_putMessage_36 (by decide) ?_
  refine lv_iconst (v := (2 : Int32)) hx hb dX6_putMessage_37 (by decide) ?_
  refine lv_lload_n hx hb dX6_putMessage_38 rfl (lv_at hl 3 rfl) ?_
  refine lv_aload_n hx hb dX6_putMessage_39 rfl (lv_at hl 0 rfl) ?_
  refine va_get (D := (dC, dI)) (ci := 5) (v := .ref (a 3)) (C := RX6) (T := TX6) (N := 17) hx hb hu uX6 hown hK hI.1 0 rfl rfl 1 (by decide) (hu _ uww_214) (fun _ h9 => h9) rfl dX6_putMessage_40 ?_
  refine lv_iconst (v := (0 : Int32)) hx hb dX6_putMessage_43 (by decide) ?_
  refine lv_aload_n hx hb dX6_putMessage_44 rfl (lv_at hl 0 rfl) ?_
  refine va_get (D := (dC, dI)) (ci := 5) (v := .ref (a 3)) (C := RX6) (T := TX6) (N := 17) hx hb hu uX6 hown hK hI.1 0 rfl rfl 1 (by decide) (hu _ uww_214) (fun _ h9 => h9) rfl dX6_putMessage_45 ?_
  refine va_getN (D := (dC, dI)) (ci := 3) (v := .int (M3 3 1)) (C := RX4) (T := TX4) (N := 2) hx hb hu uX4 hown hK hI.1 3 rfl rfl 1 (by decide) (va_Nw.use rfl (hE.1 _ cpn_1)) (fun _ h9 => h9) rfl dX6_putMessage_48 ?_
  refine cpcalll_p hsz hI (va_runV (As := [.int (0 : Int32), .int (M3 3 1)]) (rest := [.long p3, .int (2 : Int32), .int (2 : Int32), .ref (a 3)]) ⟨hx, hb, hml, hown, hu⟩ (met_X4_sum_3 l dC dI a kA t _ M3 L (0 : Int32) (M3 3 1) _ h) (cwl_X6_163_X4 hu ⟨by decide, by decide⟩) (cppre (ci := 3) hK hE hsz hI rfl rfl) rfl rfl hl.1 rfl (lv_room (Nat.le_of_ble_eq_true rfl)) dX6_putMessage_51 ⟨by decide, by decide⟩) (fun r4 H locs h hI => ?_)
  refine lv_ladd hx hb dX6_putMessage_54 ?_
  refine cpcalli_p hsz hI (va_runS (As := [.long (p3 + r4)]) (rest := [.int (2 : Int32), .int (2 : Int32), .ref (a 3)]) ⟨hx, hb, hml, hown, hu⟩ (met_X6_checksum l dC dI a kA t _ M3 L (p3 + r4) _ h) (cwl_X6_167_S hu ⟨by decide, by decide⟩) (cppreS hK hE hsz hI) rfl rfl hl.1 rfl (lv_room (Nat.le_of_ble_eq_true rfl)) dX6_putMessage_55 ⟨by decide, by decide⟩) (fun r5 H locs h hI => ?_)
  refine lv_i2l hx hb dX6_putMessage_58 rfl ?_
  refine cpcallv_m hsz hI (va_runV (As := [.int (2 : Int32), .int (2 : Int32), .long (r5.toInt64)]) (rest := []) ⟨hx, hb, hml, hown, hu⟩ (met_X4_put_3 l dC dI a kA t _ M3 L (2 : Int32) (2 : Int32) (r5.toInt64) _ h) (cwl_X6_99_X4 hu ⟨by decide, by decide⟩) (cppre (ci := 3) hK hE hsz hI rfl rfl) rfl rfl hl.1 rfl (lv_room (Nat.le_of_ble_eq_true rfl)) dX6_putMessage_59 ⟨by decide, by decide⟩) (fun M6 H locs h hI => ?_)
  exact cpvret (Z := (fun M' L' => L' = L ∧ Z M')) hx hb hr hlocks hK hI dX6_putMessage_62 ⟨rfl, h⟩

abbrev rm_X6_errorFromFour_0_11_12 : Room := { frames := 4, cells := 0, slots := 0, locals := 109 }
abbrev av_X6_errorFromFour_0_11_12 (a t : Nat → Nat)  : List Value := [.ref (a 0), .ref (a 11), .ref (a 12)]
abbrev qc_X6_errorFromFour_0_11_12 (dC : Nat → ClassId) (dI : Nat → Nat → Nat) (a : Nat → Nat) (kA : Nat → ClassId) (sz : Nat) (M : cM) (L : cL) (Z : Int32 → cM → cL → Prop) : Array Value → State → Outcome → State → Prop := va_Qi (fun r (u : cM × cL) => Z r u.1 u.2) (cpAt dC dI a kA (cpA a sz)) (cpA a sz)
set_option maxHeartbeats 4000000 in
set_option maxRecDepth 100000 in
theorem met_X6_errorFromFour_0_11_12 (l : Launch) (dC : Nat → ClassId) (dI : Nat → Nat → Nat) (a : Nat → Nat) (kA : Nat → ClassId) (t : Nat → Nat) (sz : Nat) (M : cM) (L : cL)  (Z : Int32 → cM → cL → Prop) (h : wp_X6_errorFromFour_0_11_12 M L  Z) : Met l yX6_errorFromFour (Cond.code yX6_errorFromFour cX6_errorFromFour 7 (some .int) :: uW) rm_X6_errorFromFour_0_11_12 (va_Pc (av_X6_errorFromFour_0_11_12 a t ) (cpPre dC dI a kA t M L sz)) (qc_X6_errorFromFour_0_11_12 dC dI a kA sz M L Z) 0 0 (cpA a sz) := by
  refine cpenter (cc := cX6_errorFromFour) (n := 7) (ret := (some .int)) (by decide) rfl (Nat.le_of_ble_eq_true rfl) ?_
  intro p e s m below meth c ls hx hb hml hr hlocks hown hts hK hE hsz hI hl hmn
  have hu : ∀ w ∈ uW, w.before (av_X6_errorFromFour_0_11_12 a t ).toArray s = true := fun w h => hts w (List.mem_cons_of_mem _ h)
  have hown : s.vm.findClass RX6 = some m.cls := hown
  have hl : lv_has ls 7 [(0, .ref (a 0)), (1, .ref (a 11)), (2, .ref (a 12))] := hl
  unfold wp_X6_errorFromFour_0_11_12 at h
  refine lv_aload_n hx hb dX6_errorFromFour_0 rfl (lv_at hl 1 rfl) ?_
  refine va_get (D := (dC, dI)) (ci := 0) (v := .int (M 11 7)) (C := RX0) (T := TX0) (N := 18) hx hb hu uX0 hown hK hI.1 11 rfl rfl 7 (by decide) (hu _ uww_275) (u_same (hu _ uww_38)) rfl dX6_errorFromFour_1 ?_
  refine lv_aload_n hx hb dX6_errorFromFour_4 rfl (lv_at hl 1 rfl) ?_
  refine va_get (D := (dC, dI)) (ci := 0) (v := .int (M 11 8)) (C := RX0) (T := TX0) (N := 18) hx hb hu uX0 hown hK hI.1 11 rfl rfl 8 (by decide) (hu _ uww_284) (u_same (hu _ uww_40)) rfl dX6_errorFromFour_5 ?_
  refine lv_iadd hx hb dX6_errorFromFour_8 ?_
  refine lv_topi (fun x1 ex1 => ?_)
  have h := h x1 ex1
  refine lv_istore_n (lv' := [(3, .int x1), (0, .ref (a 0)), (1, .ref (a 11)), (2, .ref (a 12))]) hx hb dX6_errorFromFour_9 rfl hl (by decide) rfl (fun ls hl => ?_)
  refine lv_aload_n hx hb dX6_errorFromFour_10 rfl (lv_at hl 1 rfl) ?_
  refine va_get (D := (dC, dI)) (ci := 5) (v := .ref (a 1)) (C := RX6) (T := TX6) (N := 17) hx hb hu uX6 hown hK hI.1 0 rfl rfl 0 (by decide) (hu _ uww_213) (fun _ h9 => h9) rfl dX6_errorFromFour_11 ?_
  refine lv_aload_n hx hb dX6_errorFromFour_14 rfl (lv_at hl 2 rfl) ?_
  refine va_get (D := (dC, dI)) (ci := 0) (v := .int (M 11 7)) (C := RX0) (T := TX0) (N := 18) hx hb hu uX0 hown hK hI.1 11 rfl rfl 7 (by decide) (hu _ uww_275) (u_same (hu _ uww_38)) rfl dX6_errorFromFour_15 ?_
  refine lv_iload_n hx hb dX6_errorFromFour_18 rfl (lv_at hl 0 rfl) ?_
  refine cpcalll_p hsz hI (va_runV (As := [.int (M 11 7), .int x1]) (rest := []) ⟨hx, hb, hml, hown, hu⟩ (met_X4_sum_1 l dC dI a kA t _ M L (M 11 7) x1 _ h) (cwl_X6_163_X4 hu ⟨by decide, by decide⟩) (cppre (ci := 3) hK hE hsz hI rfl rfl) rfl rfl hl.1 rfl (lv_room (Nat.le_of_ble_eq_true rfl)) dX6_errorFromFour_19 ⟨by decide, by decide⟩) (fun r2 H locs h hI => ?_)
  refine cpcalli_p hsz hI (va_runS (As := [.long r2]) (rest := []) ⟨hx, hb, hml, hown, hu⟩ (met_X6_folded l dC dI a kA t _ M L r2 _ h) (cwl_X6_305_S hu ⟨by decide, by decide⟩) (cppreS hK hE hsz hI) rfl rfl hl.1 rfl (lv_room (Nat.le_of_ble_eq_true rfl)) dX6_errorFromFour_22 ⟨by decide, by decide⟩) (fun r3 H locs h hI => ?_)
  refine lv_ldcw (own := RX6) (v := (65535 : Int32)) hx hb hown (hu _ uww_300) dX6_errorFromFour_25 ?_
  refine lv_icmp_eq (tgt := 33) hx hb dX6_errorFromFour_28 (by decide) (fun c4 => ?_) (fun c4 => ?_)
  · have h := h.1 c4
    refine lv_aload_n hx hb dX6_errorFromFour_33 rfl (lv_at hl 1 rfl) ?_
    refine va_get (D := (dC, dI)) (ci := 5) (v := .ref (a 1)) (C := RX6) (T := TX6) (N := 17) hx hb hu uX6 hown hK hI.1 0 rfl rfl 0 (by decide) (hu _ uww_213) (fun _ h9 => h9) rfl dX6_errorFromFour_34 ?_
    refine lv_aload_n hx hb dX6_errorFromFour_37 rfl (lv_at hl 2 rfl) ?_
    refine va_get (D := (dC, dI)) (ci := 0) (v := .int (M 11 7)) (C := RX0) (T := TX0) (N := 18) hx hb hu uX0 hown hK hI.1 11 rfl rfl 7 (by decide) (hu _ uww_275) (u_same (hu _ uww_38)) rfl dX6_errorFromFour_38 ?_
    refine cpcalli_p hsz hI (va_runV (As := [.int (M 11 7)]) (rest := []) ⟨hx, hb, hml, hown, hu⟩ (met_X4_at_1 l dC dI a kA t _ M L (M 11 7) _ h) (cwl_X6_158_X4 hu ⟨by decide, by decide⟩) (cppre (ci := 3) hK hE hsz hI rfl rfl) rfl rfl hl.1 rfl (lv_room (Nat.le_of_ble_eq_true rfl)) dX6_errorFromFour_41 ⟨by decide, by decide⟩) (fun r5 H locs h hI => ?_)
    refine lv_aload_n hx hb dX6_errorFromFour_44 rfl (lv_at hl 1 rfl) ?_
    refine va_get (D := (dC, dI)) (ci := 5) (v := .ref (a 1)) (C := RX6) (T := TX6) (N := 17) hx hb hu uX6 hown hK hI.1 0 rfl rfl 0 (by decide) (hu _ uww_213) (fun _ h9 => h9) rfl dX6_errorFromFour_45 ?_
    refine lv_aload_n hx hb dX6_errorFromFour_48 rfl (lv_at hl 2 rfl) ?_
    refine va_get (D := (dC, dI)) (ci := 0) (v := .int (M 11 7)) (C := RX0) (T := TX0) (N := 18) hx hb hu uX0 hown hK hI.1 11 rfl rfl 7 (by decide) (hu _ uww_275) (u_same (hu _ uww_38)) rfl dX6_errorFromFour_49 ?_
    refine lv_iconst (v := (1 : Int32)) hx hb dX6_errorFromFour_52 (by decide) ?_
    refine lv_iadd hx hb dX6_errorFromFour_53 ?_
    refine cpcalli_p hsz hI (va_runV (As := [.int ((M 11 7) + (1 : Int32))]) (rest := [.int r5]) ⟨hx, hb, hml, hown, hu⟩ (met_X4_at_1 l dC dI a kA t _ M L ((M 11 7) + (1 : Int32)) _ h) (cwl_X6_158_X4 hu ⟨by decide, by decide⟩) (cppre (ci := 3) hK hE hsz hI rfl rfl) rfl rfl hl.1 rfl (lv_room (Nat.le_of_ble_eq_true rfl)) dX6_errorFromFour_54 ⟨by decide, by decide⟩) (fun r6 H locs h hI => ?_)
    refine cpcalli_p hsz hI (va_runS (As := [.int r5, .int r6]) (rest := []) ⟨hx, hb, hml, hown, hu⟩ (met_X6_errorToSix l dC dI a kA t _ M L r5 r6 _ h) (cwl_X6_309_S hu ⟨by decide, by decide⟩) (cppreS hK hE hsz hI) rfl rfl hl.1 rfl (lv_room (Nat.le_of_ble_eq_true rfl)) dX6_errorFromFour_57 ⟨by decide, by decide⟩) (fun r7 H locs h hI => ?_)
    refine lv_istore (lv' := [(4, .int r7), (3, .int x1), (0, .ref (a 0)), (1, .ref (a 11)), (2, .ref (a 12))]) hx hb dX6_errorFromFour_60 hl (by decide) rfl (fun ls hl => ?_)
    refine lv_iload hx hb dX6_errorFromFour_62 (lv_at hl 0 rfl) ?_
    refine lv_iconst (v := (-1 : Int32)) hx hb dX6_errorFromFour_64 (by decide) ?_
    refine lv_icmp_eq (tgt := 95) hx hb dX6_errorFromFour_65 (by decide) (fun c8 => ?_) (fun c8 => ?_)
    · have h := h.1 c8
      refine lv_bipush (v := (8 : Int32)) hx hb dX6_errorFromFour_95 (by decide) ?_
      exact cpiret (Z := (fun r M' L' => Z r M' L')) hx hb hr hlocks hK hI dX6_errorFromFour_97 h
    · have h := h.2 c8
      refine lv_aload_n hx hb dX6_errorFromFour_68 rfl (lv_at hl 4 rfl) ?_
      refine lv_aload_n hx hb dX6_errorFromFour_69 rfl (lv_at hl 2 rfl) ?_
      refine va_get (D := (dC, dI)) (ci := 5) (v := .ref (a 1)) (C := RX6) (T := TX6) (N := 17) hx hb hu uX6 hown hK hI.1 0 rfl rfl 0 (by decide) (hu _ uww_213) (fun _ h9 => h9) rfl dX6_errorFromFour_70 ?_
      refine lv_aload_n hx hb dX6_errorFromFour_73 rfl (lv_at hl 3 rfl) ?_
      refine va_get (D := (dC, dI)) (ci := 0) (v := .int (M 11 7)) (C := RX0) (T := TX0) (N := 18) hx hb hu uX0 hown hK hI.1 11 rfl rfl 7 (by decide) (hu _ uww_275) (u_same (hu _ uww_38)) rfl dX6_errorFromFour_74 ?_
      refine lv_bipush (v := (8 : Int32)) hx hb dX6_errorFromFour_77 (by decide) ?_
      refine lv_iadd hx hb dX6_errorFromFour_79 ?_
      refine lv_iload_n hx hb dX6_errorFromFour_80 rfl (lv_at hl 1 rfl) ?_
      refine cpcalli hsz hI (va_runV (As := [.ref (a 1), .int ((M 11 7) + (8 : Int32)), .int x1]) (rest := []) ⟨hx, hb, hml, hown, hu⟩ (met_X0_read_12_1 l dC dI a kA t _ M L ((M 11 7) + (8 : Int32)) x1 _ h) (cwl_X6_313_X0 hu ⟨by decide, by decide⟩) (cppre (ci := 0) hK hE hsz hI rfl rfl) rfl rfl hl.1 rfl (lv_room (Nat.le_of_ble_eq_true rfl)) dX6_errorFromFour_81 ⟨by decide, by decide⟩) (fun r9 M10 L11 H locs h hI => ?_)
      refine lv_if_eq (tgt := 95) hx hb dX6_errorFromFour_84 (by decide) (fun c12 => ?_) (fun c12 => ?_)
      · have h := h.1 c12
        refine lv_bipush (v := (8 : Int32)) hx hb dX6_errorFromFour_95 (by decide) ?_
        exact cpiret (Z := (fun r M' L' => Z r M' L')) hx hb hr hlocks hK hI dX6_errorFromFour_97 h
      · have h := h.2 c12
        refine lv_aload_n hx hb dX6_errorFromFour_87 rfl (lv_at hl 2 rfl) ?_
        refine lv_aload_n hx hb dX6_errorFromFour_88 rfl (lv_at hl 4 rfl) ?_
        refine cpcalli_p hsz hI (va_runV (As := [.ref (a 12)]) (rest := []) ⟨hx, hb, hml, hown, hu⟩ (met_X6_innerFourFits_0_12 l dC dI a kA t _ M10 L11  _ h) (cwl_X6_317_X6 hu ⟨by decide, by decide⟩) (cppre (ci := 5) hK hE hsz hI rfl rfl) rfl rfl hl.1 rfl (lv_room (Nat.le_of_ble_eq_true rfl)) dX6_errorFromFour_89 ⟨by decide, by decide⟩) (fun r13 H locs h hI => ?_)
        refine lv_if_ne (tgt := 98) hx hb dX6_errorFromFour_92 (by decide) (fun c14 => ?_) (fun c14 => ?_)
        · have h := h.1 c14
          refine lv_aload_n hx hb dX6_errorFromFour_98 rfl (lv_at hl 2 rfl) ?_
          refine lv_iload hx hb dX6_errorFromFour_99 (lv_at hl 0 rfl) ?_
          refine lv_aload_n hx hb dX6_errorFromFour_101 rfl (lv_at hl 3 rfl) ?_
          refine lv_aload_n hx hb dX6_errorFromFour_102 rfl (lv_at hl 4 rfl) ?_
          refine cpcalli_p hsz hI (va_runV (As := [.int r7, .ref (a 11), .ref (a 12)]) (rest := []) ⟨hx, hb, hml, hown, hu⟩ (met_X6_secondToSix_0_11_12 l dC dI a kA t _ M10 L11 r7 _ h) (cwl_X6_321_X6 hu ⟨by decide, by decide⟩) (cppre (ci := 5) hK hE hsz hI rfl rfl) rfl rfl hl.1 rfl (lv_room (Nat.le_of_ble_eq_true rfl)) dX6_errorFromFour_103 ⟨by decide, by decide⟩) (fun r15 H locs h hI => ?_)
          refine lv_istore (lv' := [(5, .int r15), (4, .int r7), (3, .int x1), (0, .ref (a 0)), (1, .ref (a 11)), (2, .ref (a 12))]) hx hb dX6_errorFromFour_106 hl (by decide) rfl (fun ls hl => ?_)
          refine lv_iload hx hb dX6_errorFromFour_108 (lv_at hl 0 rfl) ?_
          refine lv_iconst (v := (-1 : Int32)) hx hb dX6_errorFromFour_110 (by decide) ?_
          refine lv_icmp_ne (tgt := 117) hx hb dX6_errorFromFour_111 (by decide) (fun c16 => ?_) (fun c16 => ?_)
          · have h := h.1 c16
            refine lv_aload_n hx hb dX6_errorFromFour_117 rfl (lv_at hl 5 rfl) ?_
            refine lv_aload_n hx hb dX6_errorFromFour_118 rfl (lv_at hl 3 rfl) ?_
            refine lv_aload_n hx hb dX6_errorFromFour_119 rfl (lv_at hl 5 rfl) ?_
            refine cpcalll_p hsz hI (va_runV (As := [.ref (a 12)]) (rest := [.ref (a 12)]) ⟨hx, hb, hml, hown, hu⟩ (met_X6_imageWords_0_12 l dC dI a kA t _ M10 L11  _ h) (cwl_X6_209_X6 hu ⟨by decide, by decide⟩) (cppre (ci := 5) hK hE hsz hI rfl rfl) rfl rfl hl.1 rfl (lv_room (Nat.le_of_ble_eq_true rfl)) dX6_errorFromFour_120 ⟨by decide, by decide⟩) (fun r17 H locs h hI => ?_)
            refine cpputl (ci := 0) (C := RX0) (T := TX0) (N := 18) (ty := .long) hx hb hu uX0 tyX0 tyX0_ok nmX0 hown hK hI 12 rfl rfl 13 (by decide) (hu _ uww_272) (u_same (hu _ uww_273)) rfl (by decide +kernel) rfl rfl (Nat.le_of_ble_eq_true rfl) (cpset_12_13 _ _ _ _ _) dX6_errorFromFour_123 (fun H locs L18 eL18 hI => ?_)
            have h := h L18 eL18
            refine lv_aload_n hx hb dX6_errorFromFour_126 rfl (lv_at hl 3 rfl) ?_
            refine lv_aload_n hx hb dX6_errorFromFour_127 rfl (lv_at hl 5 rfl) ?_
            refine cpcalli_m hsz hI (va_runV (As := [.ref (a 12)]) (rest := []) ⟨hx, hb, hml, hown, hu⟩ (met_X6_putInnerSix_0_12 l dC dI a kA t _ M10 L18  _ h) (cwl_X6_325_X6 hu ⟨by decide, by decide⟩) (cppre (ci := 5) hK hE hsz hI rfl rfl) rfl rfl hl.1 rfl (lv_room (Nat.le_of_ble_eq_true rfl)) dX6_errorFromFour_128 ⟨by decide, by decide⟩) (fun r19 M20 H locs h hI => ?_)
            refine lv_istore (lv' := [(6, .int r19), (5, .int r15), (4, .int r7), (3, .int x1), (0, .ref (a 0)), (1, .ref (a 11)), (2, .ref (a 12))]) hx hb dX6_errorFromFour_131 hl (by decide) rfl (fun ls hl => ?_)
            refine lv_aload_n hx hb dX6_errorFromFour_133 rfl (lv_at hl 4 rfl) ?_
            refine lv_aload_n hx hb dX6_errorFromFour_134 rfl (lv_at hl 6 rfl) ?_
            refine lv_iload hx hb dX6_errorFromFour_135 (lv_at hl 0 rfl) ?_
            refine cpcallv_m hsz hI (va_runV (As := [.ref (a 12), .int r19]) (rest := []) ⟨hx, hb, hml, hown, hu⟩ (met_X6_fixToSix_0_12 l dC dI a kA t _ M20 L18 r19 _ h) (cwl_X6_280_X6 hu ⟨by decide, by decide⟩) (cppre (ci := 5) hK hE hsz hI rfl rfl) rfl rfl hl.1 rfl (lv_room (Nat.le_of_ble_eq_true rfl)) dX6_errorFromFour_137 ⟨by decide, by decide⟩) (fun M21 H locs h hI => ?_)
            refine lv_aload_n hx hb dX6_errorFromFour_140 rfl (lv_at hl 4 rfl) ?_
            refine va_get (D := (dC, dI)) (ci := 5) (v := .ref (a 3)) (C := RX6) (T := TX6) (N := 17) hx hb hu uX6 hown hK hI.1 0 rfl rfl 1 (by decide) (hu _ uww_214) (fun _ h9 => h9) rfl dX6_errorFromFour_141 ?_
            refine lv_iload hx hb dX6_errorFromFour_144 (lv_at hl 0 rfl) ?_
            refine lv_aload_n hx hb dX6_errorFromFour_146 rfl (lv_at hl 6 rfl) ?_
            refine va_get (D := (dC, dI)) (ci := 0) (v := .int (M21 12 9)) (C := RX0) (T := TX0) (N := 18) hx hb hu uX0 hown hK hI.1 12 rfl rfl 9 (by decide) (hu _ uww_341) (u_same (hu _ uww_46)) rfl dX6_errorFromFour_147 ?_
            refine lv_iadd hx hb dX6_errorFromFour_150 ?_
            refine lv_sipush (v := (1240 : Int32)) hx hb dX6_errorFromFour_151 (by decide) ?_
            refine va_mmin hx hb (hml.trans hl.1.symm) hown (hu _ uww_286) (hu _ uww_42) (hu _ uww_43) (hu _ uww_44) (Nat.le_of_ble_eq_true rfl) (Nat.le_of_ble_eq_true rfl) (Nat.le_of_ble_eq_true rfl) (Nat.le_of_ble_eq_true rfl) dX6_errorFromFour_154 ?_
            refine cpputN (ci := 3) (C := RX4) (T := TX4) (N := 2) (ty := .int) hx hb hu uX4 tyX4 tyX4_ok nmX4 hown hK hI 3 rfl rfl 1 (by decide) (va_Nw.use rfl (hE.1 _ cpn_1)) (fun _ h9 => h9) rfl (by decide +kernel) rfl rfl (Nat.le_of_ble_eq_true rfl) (cpset_3_1 _ _ _ _ _) dX6_errorFromFour_157 (fun H locs M22 eM22 hI => ?_)
            have h := h M22 eM22
            refine lv_aload_n hx hb dX6_errorFromFour_160 rfl (lv_at hl 4 rfl) ?_
            refine lv_iload hx hb dX6_errorFromFour_161 (lv_at hl 2 rfl) ?_
            refine lv_iload hx hb dX6_errorFromFour_163 (lv_at hl 1 rfl) ?_
            refine lv_aload_n hx hb dX6_errorFromFour_165 rfl (lv_at hl 5 rfl) ?_
            refine va_get (D := (dC, dI)) (ci := 0) (v := .long (L18 11 13)) (C := RX0) (T := TX0) (N := 18) hx hb hu uX0 hown hK hI.1 11 rfl rfl 13 (by decide) (hu _ uww_272) (u_same (hu _ uww_273)) rfl dX6_errorFromFour_166 ?_
            refine lv_aload_n hx hb dX6_errorFromFour_169 rfl (lv_at hl 4 rfl) ?_
            refine va_get (D := (dC, dI)) (ci := 5) (v := .ref (a 3)) (C := RX6) (T := TX6) (N := 17) hx hb hu uX6 hown hK hI.1 0 rfl rfl 1 (by decide) (hu _ uww_214) (fun _ h9 => h9) rfl dX6_errorFromFour_170 ?_
            refine va_getN (D := (dC, dI)) (ci := 3) (v := .int (M22 3 1)) (C := RX4) (T := TX4) (N := 2) hx hb hu uX4 hown hK hI.1 3 rfl rfl 1 (by decide) (va_Nw.use rfl (hE.1 _ cpn_1)) (fun _ h9 => h9) rfl dX6_errorFromFour_173 ?_
            refine lv_i2l hx hb dX6_errorFromFour_176 rfl ?_
            refine lv_ladd hx hb dX6_errorFromFour_177 ?_
            refine lv_ldc2 (own := RX6) (v := (58 : Int64)) hx hb hown (hu _ uww_342) dX6_errorFromFour_178 ?_
            refine lv_ladd hx hb dX6_errorFromFour_181 ?_
            refine cpcallv_m hsz hI (va_runV (As := [.int r7, .int r15, .long (((L18 11 13) + ((M22 3 1).toInt64)) + (58 : Int64))]) (rest := []) ⟨hx, hb, hml, hown, hu⟩ (met_X6_putMessage_0 l dC dI a kA t _ M22 L18 r7 r15 (((L18 11 13) + ((M22 3 1).toInt64)) + (58 : Int64)) _ h) (cwl_X6_334_X6 hu ⟨by decide, by decide⟩) (cppre (ci := 5) hK hE hsz hI rfl rfl) rfl rfl hl.1 rfl (lv_room (Nat.le_of_ble_eq_true rfl)) dX6_errorFromFour_182 ⟨by decide, by decide⟩) (fun M23 H locs h hI => ?_)
            refine lv_iconst (v := (0 : Int32)) hx hb dX6_errorFromFour_185 (by decide) ?_
            exact cpiret (Z := (fun r M' L' => Z r M' L')) hx hb hr hlocks hK hI dX6_errorFromFour_186 h
          · have h := h.2 c16
            refine lv_bipush (v := (8 : Int32)) hx hb dX6_errorFromFour_114 (by decide) ?_
            exact cpiret (Z := (fun r M' L' => Z r M' L')) hx hb hr hlocks hK hI dX6_errorFromFour_116 h
        · have h := h.2 c14
          refine lv_bipush (v := (8 : Int32)) hx hb dX6_errorFromFour_95 (by decide) ?_
          exact cpiret (Z := (fun r M' L' => Z r M' L')) hx hb hr hlocks hK hI dX6_errorFromFour_97 h
  · have h := h.2 c4
    refine lv_iconst (v := (4 : Int32)) hx hb dX6_errorFromFour_31 (by decide) ?_
    exact cpiret (Z := (fun r M' L' => Z r M' L')) hx hb hr hlocks hK hI dX6_errorFromFour_32 h

abbrev rm_X6_verdictOnFour_0_11 : Room := { frames := 5, cells := 0, slots := 0, locals := 135 }
abbrev av_X6_verdictOnFour_0_11 (a t : Nat → Nat)  : List Value := [.ref (a 0), .ref (a 11)]
abbrev qc_X6_verdictOnFour_0_11 (dC : Nat → ClassId) (dI : Nat → Nat → Nat) (a : Nat → Nat) (kA : Nat → ClassId) (sz : Nat) (M : cM) (L : cL) (Z : Int32 → cM → cL → Prop) : Array Value → State → Outcome → State → Prop := va_Qi (fun r (u : cM × cL) => Z r u.1 u.2) (cpAt dC dI a kA (cpA a sz)) (cpA a sz)
set_option maxHeartbeats 4000000 in
set_option maxRecDepth 100000 in
theorem met_X6_verdictOnFour_0_11 (l : Launch) (dC : Nat → ClassId) (dI : Nat → Nat → Nat) (a : Nat → Nat) (kA : Nat → ClassId) (t : Nat → Nat) (sz : Nat) (M : cM) (L : cL)  (Z : Int32 → cM → cL → Prop) (h : wp_X6_verdictOnFour_0_11 M L  Z) : Met l yX6_verdictOnFour (Cond.code yX6_verdictOnFour cX6_verdictOnFour 3 (some .int) :: uW) rm_X6_verdictOnFour_0_11 (va_Pc (av_X6_verdictOnFour_0_11 a t ) (cpPre dC dI a kA t M L sz)) (qc_X6_verdictOnFour_0_11 dC dI a kA sz M L Z) 0 0 (cpA a sz) := by
  refine cpenter (cc := cX6_verdictOnFour) (n := 3) (ret := (some .int)) (by decide) rfl (Nat.le_of_ble_eq_true rfl) ?_
  intro p e s m below meth c ls hx hb hml hr hlocks hown hts hK hE hsz hI hl hmn
  have hu : ∀ w ∈ uW, w.before (av_X6_verdictOnFour_0_11 a t ).toArray s = true := fun w h => hts w (List.mem_cons_of_mem _ h)
  have hown : s.vm.findClass RX6 = some m.cls := hown
  have hl : lv_has ls 3 [(0, .ref (a 0)), (1, .ref (a 11))] := hl
  unfold wp_X6_verdictOnFour_0_11 at h
  refine lv_aload_n hx hb dX6_verdictOnFour_0 rfl (lv_at hl 1 rfl) ?_
  refine lv_aload_n hx hb dX6_verdictOnFour_1 rfl (lv_at hl 0 rfl) ?_
  refine va_get (D := (dC, dI)) (ci := 5) (v := .ref (a 1)) (C := RX6) (T := TX6) (N := 17) hx hb hu uX6 hown hK hI.1 0 rfl rfl 0 (by decide) (hu _ uww_213) (fun _ h9 => h9) rfl dX6_verdictOnFour_2 ?_
  refine cpcalli hsz hI (va_runV (As := [.ref (a 1)]) (rest := []) ⟨hx, hb, hml, hown, hu⟩ (met_X0_readWhole_11_1 l dC dI a kA t _ M L  _ h) (cwl_X6_186_X0 hu ⟨by decide, by decide⟩) (cppre (ci := 0) hK hE hsz hI rfl rfl) rfl rfl hl.1 rfl (lv_room (Nat.le_of_ble_eq_true rfl)) dX6_verdictOnFour_5 ⟨by decide, by decide⟩) (fun r1 M2 L3 H locs h hI => ?_)
  refine lv_if_ne (tgt := 13) hx hb dX6_verdictOnFour_8 (by decide) (fun c4 => ?_) (fun c4 => ?_)
  · have h := h.1 c4
    refine lv_aload_n hx hb dX6_verdictOnFour_13 rfl (lv_at hl 0 rfl) ?_
    refine va_get (D := (dC, dI)) (ci := 5) (v := .ref (a 10)) (C := RX6) (T := TX6) (N := 17) hx hb hu uX6 hown hK hI.1 0 rfl rfl 3 (by decide) (hu _ uww_221) (fun _ h9 => h9) rfl dX6_verdictOnFour_14 ?_
    refine lv_aload_n hx hb dX6_verdictOnFour_17 rfl (lv_at hl 1 rfl) ?_
    refine va_get (D := (dC, dI)) (ci := 0) (v := .int (M2 11 10)) (C := RX0) (T := TX0) (N := 18) hx hb hu uX0 hown hK hI.1 11 rfl rfl 10 (by decide) (hu _ uww_269) (u_same (hu _ uww_32)) rfl dX6_verdictOnFour_18 ?_
    refine cpcalli_p hsz hI (va_runV (As := [.int (M2 11 10)]) (rest := []) ⟨hx, hb, hml, hown, hu⟩ (met_X1_mappable_10 l dC dI a kA t _ M2 L3 (M2 11 10) _ h) (cwl_X6_171_X1 hu ⟨by decide, by decide⟩) (cppre (ci := 1) hK hE hsz hI rfl rfl) rfl rfl hl.1 rfl (lv_room (Nat.le_of_ble_eq_true rfl)) dX6_verdictOnFour_21 ⟨by decide, by decide⟩) (fun r5 H locs h hI => ?_)
    refine lv_if_ne (tgt := 29) hx hb dX6_verdictOnFour_24 (by decide) (fun c6 => ?_) (fun c6 => ?_)
    · have h := h.1 c6
      refine lv_aload_n hx hb dX6_verdictOnFour_29 rfl (lv_at hl 0 rfl) ?_
      refine va_get (D := (dC, dI)) (ci := 5) (v := .ref (a 10)) (C := RX6) (T := TX6) (N := 17) hx hb hu uX6 hown hK hI.1 0 rfl rfl 3 (by decide) (hu _ uww_221) (fun _ h9 => h9) rfl dX6_verdictOnFour_30 ?_
      refine lv_aload_n hx hb dX6_verdictOnFour_33 rfl (lv_at hl 1 rfl) ?_
      refine va_get (D := (dC, dI)) (ci := 0) (v := .int (M2 11 11)) (C := RX0) (T := TX0) (N := 18) hx hb hu uX0 hown hK hI.1 11 rfl rfl 11 (by decide) (hu _ uww_270) (u_same (hu _ uww_34)) rfl dX6_verdictOnFour_34 ?_
      refine cpcalli_p hsz hI (va_runV (As := [.int (M2 11 11)]) (rest := []) ⟨hx, hb, hml, hown, hu⟩ (met_X1_mappable_10 l dC dI a kA t _ M2 L3 (M2 11 11) _ h) (cwl_X6_171_X1 hu ⟨by decide, by decide⟩) (cppre (ci := 1) hK hE hsz hI rfl rfl) rfl rfl hl.1 rfl (lv_room (Nat.le_of_ble_eq_true rfl)) dX6_verdictOnFour_37 ⟨by decide, by decide⟩) (fun r7 H locs h hI => ?_)
      refine lv_if_ne (tgt := 45) hx hb dX6_verdictOnFour_40 (by decide) (fun c8 => ?_) (fun c8 => ?_)
      · have h := h.1 c8
        refine lv_aload_n hx hb dX6_verdictOnFour_45 rfl (lv_at hl 1 rfl) ?_
        refine va_getN (D := (dC, dI)) (ci := 0) (v := .int (M2 11 17)) (C := RX0) (T := TX0) (N := 18) hx hb hu uX0 hown hK hI.1 11 rfl rfl 17 (by decide) (va_Nw.use rfl (hE.1 _ cpn_12)) (fun _ h9 => h9) rfl dX6_verdictOnFour_46 ?_
        refine lv_if_eq (tgt := 62) hx hb dX6_verdictOnFour_49 (by decide) (fun c9 => ?_) (fun c9 => ?_)
        · have h := h.1 c9
          refine lv_aload_n hx hb dX6_verdictOnFour_62 rfl (lv_at hl 1 rfl) ?_
          refine va_get (D := (dC, dI)) (ci := 0) (v := .int (M2 11 2)) (C := RX0) (T := TX0) (N := 18) hx hb hu uX0 hown hK hI.1 11 rfl rfl 2 (by decide) (hu _ uww_271) (u_same (hu _ uww_28)) rfl dX6_verdictOnFour_63 ?_
          refine lv_iconst (v := (1 : Int32)) hx hb dX6_verdictOnFour_66 (by decide) ?_
          refine lv_icmp_gt (tgt := 80) hx hb dX6_verdictOnFour_67 (by decide) (fun c10 => ?_) (fun c10 => ?_)
          · have h := h.1 c10
            refine lv_aload_n hx hb dX6_verdictOnFour_80 rfl (lv_at hl 0 rfl) ?_
            refine lv_aload_n hx hb dX6_verdictOnFour_81 rfl (lv_at hl 1 rfl) ?_
            refine cpcalli_p hsz hI (va_runV (As := [.ref (a 11)]) (rest := []) ⟨hx, hb, hml, hown, hu⟩ (met_X6_faultOfFour_0_11 l dC dI a kA t _ M2 L3  _ h) (cwl_X6_206_X6 hu ⟨by decide, by decide⟩) (cppre (ci := 5) hK hE hsz hI rfl rfl) rfl rfl hl.1 rfl (lv_room (Nat.le_of_ble_eq_true rfl)) dX6_verdictOnFour_82 ⟨by decide, by decide⟩) (fun r11 H locs h hI => ?_)
            refine lv_istore_n (lv' := [(2, .int r11), (0, .ref (a 0)), (1, .ref (a 11))]) hx hb dX6_verdictOnFour_85 rfl hl (by decide) rfl (fun ls hl => ?_)
            refine lv_iload_n hx hb dX6_verdictOnFour_86 rfl (lv_at hl 0 rfl) ?_
            refine lv_if_eq (tgt := 92) hx hb dX6_verdictOnFour_87 (by decide) (fun c12 => ?_) (fun c12 => ?_)
            · have h := h.1 c12
              refine lv_aload_n hx hb dX6_verdictOnFour_92 rfl (lv_at hl 2 rfl) ?_
              refine lv_aload_n hx hb dX6_verdictOnFour_93 rfl (lv_at hl 1 rfl) ?_
              refine lv_aload_n hx hb dX6_verdictOnFour_94 rfl (lv_at hl 2 rfl) ?_
              refine cpcalll_p hsz hI (va_runV (As := [.ref (a 11)]) (rest := [.ref (a 11)]) ⟨hx, hb, hml, hown, hu⟩ (met_X6_imageWords_0_11 l dC dI a kA t _ M2 L3  _ h) (cwl_X6_209_X6 hu ⟨by decide, by decide⟩) (cppre (ci := 5) hK hE hsz hI rfl rfl) rfl rfl hl.1 rfl (lv_room (Nat.le_of_ble_eq_true rfl)) dX6_verdictOnFour_95 ⟨by decide, by decide⟩) (fun r13 H locs h hI => ?_)
              refine cpputl (ci := 0) (C := RX0) (T := TX0) (N := 18) (ty := .long) hx hb hu uX0 tyX0 tyX0_ok nmX0 hown hK hI 11 rfl rfl 13 (by decide) (hu _ uww_272) (u_same (hu _ uww_273)) rfl (by decide +kernel) rfl rfl (Nat.le_of_ble_eq_true rfl) (cpset_11_13 _ _ _ _ _) dX6_verdictOnFour_98 (fun H locs L14 eL14 hI => ?_)
              have h := h L14 eL14
              refine lv_aload_n hx hb dX6_verdictOnFour_101 rfl (lv_at hl 2 rfl) ?_
              refine va_get (D := (dC, dI)) (ci := 0) (v := .int (M2 11 3)) (C := RX0) (T := TX0) (N := 18) hx hb hu uX0 hown hK hI.1 11 rfl rfl 3 (by decide) (hu _ uww_274) (u_same (hu _ uww_30)) rfl dX6_verdictOnFour_102 ?_
              refine lv_iconst (v := (1 : Int32)) hx hb dX6_verdictOnFour_105 (by decide) ?_
              obtain ⟨K144, hK144, h⟩ := h
              have J144 : ∀ (x15 : Int32) (M16 : cM) (L17 : cL) (H : Heap) (locs : List Loc) (ls : Array Slot), K144 x15 M16 L17 → cpI dC dI a kA (cpA a sz) s M16 L17 H locs → lv_has ls 3 [(0, .ref (a 0)), (1, .ref (a 11)), (2, .int x15)] → W p l e rm_X6_verdictOnFour_0_11 s m (av_X6_verdictOnFour_0_11 a t ).toArray below meth c H locs 0 0 (MQ below (qc_X6_verdictOnFour_0_11 dC dI a kA sz M L Z) (av_X6_verdictOnFour_0_11 a t ).toArray s 0 0 (cpA a sz)) (F0 m 144 ls []) := by
                intro x15 M16 L17 H locs ls h hI hl
                have h := hK144 x15 M16 L17 h
                refine lv_iload_n hx hb dX6_verdictOnFour_144 rfl (lv_at hl 2 rfl) ?_
                refine lv_if_eq (tgt := 150) hx hb dX6_verdictOnFour_145 (by decide) (fun c18 => ?_) (fun c18 => ?_)
                · have h := h.1 c18
                  refine lv_aload_n hx hb dX6_verdictOnFour_150 rfl (lv_at hl 1 rfl) ?_
                  refine va_getN (D := (dC, dI)) (ci := 0) (v := .int (M16 11 16)) (C := RX0) (T := TX0) (N := 18) hx hb hu uX0 hown hK hI.1 11 rfl rfl 16 (by decide) (va_Nw.use rfl (hE.1 _ cpn_11)) (fun _ h9 => h9) rfl dX6_verdictOnFour_151 ?_
                  obtain ⟨K195, hK195, h⟩ := h
                  have J195 : ∀  (H : Heap) (locs : List Loc) (ls : Array Slot), K195  → cpI dC dI a kA (cpA a sz) s M16 L17 H locs → lv_has ls 3 [(0, .ref (a 0)), (1, .ref (a 11))] → W p l e rm_X6_verdictOnFour_0_11 s m (av_X6_verdictOnFour_0_11 a t ).toArray below meth c H locs 0 0 (MQ below (qc_X6_verdictOnFour_0_11 dC dI a kA sz M L Z) (av_X6_verdictOnFour_0_11 a t ).toArray s 0 0 (cpA a sz)) (F0 m 195 ls []) := by
                    intro  H locs ls h hI hl
                    have h := hK195  h
                    refine lv_aload_n hx hb dX6_verdictOnFour_195 rfl (lv_at hl 0 rfl) ?_
                    refine lv_aload_n hx hb dX6_verdictOnFour_196 rfl (lv_at hl 1 rfl) ?_
                    refine cpcallv_m hsz hI (va_runV (As := [.ref (a 11)]) (rest := []) ⟨hx, hb, hml, hown, hu⟩ (met_X6_sendSix_0_11 l dC dI a kA t _ M16 L17  _ h) (cwl_X6_240_X6 hu ⟨by decide, by decide⟩) (cppre (ci := 5) hK hE hsz hI rfl rfl) rfl rfl hl.1 rfl (lv_room (Nat.le_of_ble_eq_true rfl)) dX6_verdictOnFour_197 ⟨by decide, by decide⟩) (fun M19 H locs h hI => ?_)
                    refine lv_iconst (v := (0 : Int32)) hx hb dX6_verdictOnFour_200 (by decide) ?_
                    exact cpiret (Z := (fun r M' L' => Z r M' L')) hx hb hr hlocks hK hI dX6_verdictOnFour_201 h
                  refine lv_if_eq (tgt := 195) hx hb dX6_verdictOnFour_154 (by decide) (fun c20 => ?_) (fun c20 => ?_)
                  · have h := h.1 c20
                    exact J195  _ _ _ h hI (lv_sub hl [0, 1] rfl)
                  · have h := h.2 c20
                    refine lv_bipush (v := (40 : Int32)) hx hb dX6_verdictOnFour_157 (by decide) ?_
                    refine lv_aload_n hx hb dX6_verdictOnFour_159 rfl (lv_at hl 1 rfl) ?_
                    refine cpcalli_p hsz hI (va_runV (As := []) (rest := [.int (40 : Int32)]) ⟨hx, hb, hml, hown, hu⟩ (met_X0_fragmentHeader_11 l dC dI a kA t _ M16 L17  _ h) (cwl_X6_236_X0 hu ⟨by decide, by decide⟩) (cppre (ci := 0) hK hE hsz hI rfl rfl) rfl rfl hl.1 rfl (lv_room (Nat.le_of_ble_eq_true rfl)) dX6_verdictOnFour_160 ⟨by decide, by decide⟩) (fun r21 H locs h hI => ?_)
                    refine lv_iadd hx hb dX6_verdictOnFour_163 ?_
                    refine lv_aload_n hx hb dX6_verdictOnFour_164 rfl (lv_at hl 0 rfl) ?_
                    refine va_get (D := (dC, dI)) (ci := 5) (v := .ref (a 3)) (C := RX6) (T := TX6) (N := 17) hx hb hu uX6 hown hK hI.1 0 rfl rfl 1 (by decide) (hu _ uww_214) (fun _ h9 => h9) rfl dX6_verdictOnFour_165 ?_
                    refine va_getN (D := (dC, dI)) (ci := 3) (v := .int (M16 3 1)) (C := RX4) (T := TX4) (N := 2) hx hb hu uX4 hown hK hI.1 3 rfl rfl 1 (by decide) (va_Nw.use rfl (hE.1 _ cpn_1)) (fun _ h9 => h9) rfl dX6_verdictOnFour_168 ?_
                    refine lv_iadd hx hb dX6_verdictOnFour_171 ?_
                    refine lv_aload_n hx hb dX6_verdictOnFour_172 rfl (lv_at hl 0 rfl) ?_
                    refine va_get (D := (dC, dI)) (ci := 5) (v := .int (M16 0 13)) (C := RX6) (T := TX6) (N := 17) hx hb hu uX6 hown hK hI.1 0 rfl rfl 13 (by decide) (hu _ uww_237) (fun _ h9 => h9) rfl dX6_verdictOnFour_173 ?_
                    refine lv_icmp_le (tgt := 195) hx hb dX6_verdictOnFour_176 (by decide) (fun c22 => ?_) (fun c22 => ?_)
                    · have h := h.1 c22
                      exact J195  _ _ _ h hI (lv_sub hl [0, 1] rfl)
                    · have h := h.2 c22
                      refine lv_aload_n hx hb dX6_verdictOnFour_179 rfl (lv_at hl 0 rfl) ?_
                      refine lv_aload_n hx hb dX6_verdictOnFour_180 rfl (lv_at hl 1 rfl) ?_
                      refine lv_sipush (v := (772 : Int32)) hx hb dX6_verdictOnFour_181 (by decide) ?_
                      refine lv_aload_n hx hb dX6_verdictOnFour_184 rfl (lv_at hl 0 rfl) ?_
                      refine va_get (D := (dC, dI)) (ci := 5) (v := .int (M16 0 13)) (C := RX6) (T := TX6) (N := 17) hx hb hu uX6 hown hK hI.1 0 rfl rfl 13 (by decide) (hu _ uww_237) (fun _ h9 => h9) rfl dX6_verdictOnFour_185 ?_
                      refine lv_bipush (v := (20 : Int32)) hx hb dX6_verdictOnFour_188 (by decide) ?_
                      refine lv_isub hx hb dX6_verdictOnFour_190 ?_
                      refine cpcalli_m hsz hI (va_runV (As := [.ref (a 11), .int (772 : Int32), .int ((M16 0 13) - (20 : Int32))]) (rest := []) ⟨hx, hb, hml, hown, hu⟩ (met_X6_answerFour_0_11 l dC dI a kA t _ M16 L17 (772 : Int32) ((M16 0 13) - (20 : Int32)) _ h) (cwl_X6_199_X6 hu ⟨by decide, by decide⟩) (cppre (ci := 5) hK hE hsz hI rfl rfl) rfl rfl hl.1 rfl (lv_room (Nat.le_of_ble_eq_true rfl)) dX6_verdictOnFour_191 ⟨by decide, by decide⟩) (fun r23 M24 H locs h hI => ?_)
                      exact cpiret (Z := (fun r M' L' => Z r M' L')) hx hb hr hlocks hK hI dX6_verdictOnFour_194 h
                · have h := h.2 c18
                  refine lv_iload_n hx hb dX6_verdictOnFour_148 rfl (lv_at hl 2 rfl) ?_
                  exact cpiret (Z := (fun r M' L' => Z r M' L')) hx hb hr hlocks hK hI dX6_verdictOnFour_149 h
              obtain ⟨K139, hK139, h⟩ := h
              have J139 : ∀  (H : Heap) (locs : List Loc) (ls : Array Slot), K139  → cpI dC dI a kA (cpA a sz) s M2 L14 H locs → lv_has ls 3 [(0, .ref (a 0)), (1, .ref (a 11)), (2, .int r11)] → W p l e rm_X6_verdictOnFour_0_11 s m (av_X6_verdictOnFour_0_11 a t ).toArray below meth c H locs 0 0 (MQ below (qc_X6_verdictOnFour_0_11 dC dI a kA sz M L Z) (av_X6_verdictOnFour_0_11 a t ).toArray s 0 0 (cpA a sz)) (F0 m 139 ls []) := by
                intro  H locs ls h hI hl
                have h := hK139  h
                refine lv_aload_n hx hb dX6_verdictOnFour_139 rfl (lv_at hl 0 rfl) ?_
                refine lv_aload_n hx hb dX6_verdictOnFour_140 rfl (lv_at hl 1 rfl) ?_
                refine cpcallv_m hsz hI (va_runV (As := [.ref (a 11)]) (rest := []) ⟨hx, hb, hml, hown, hu⟩ (met_X6_bodyFromFour_0_11 l dC dI a kA t _ M2 L14  _ h) (cwl_X6_229_X6 hu ⟨by decide, by decide⟩) (cppre (ci := 5) hK hE hsz hI rfl rfl) rfl rfl hl.1 rfl (lv_room (Nat.le_of_ble_eq_true rfl)) dX6_verdictOnFour_141 ⟨by decide, by decide⟩) (fun M25 H locs h hI => ?_)
                exact J144 r11 M25 L14 _ _ _ h hI (lv_sub hl [0, 1, 2] rfl)
              refine lv_icmp_ne (tgt := 139) hx hb dX6_verdictOnFour_106 (by decide) (fun c26 => ?_) (fun c26 => ?_)
              · have h := h.1 c26
                exact J139  _ _ _ h hI (lv_sub hl [1, 2, 0] rfl)
              · have h := h.2 c26
                refine lv_aload_n hx hb dX6_verdictOnFour_109 rfl (lv_at hl 1 rfl) ?_
                refine va_get (D := (dC, dI)) (ci := 5) (v := .ref (a 1)) (C := RX6) (T := TX6) (N := 17) hx hb hu uX6 hown hK hI.1 0 rfl rfl 0 (by decide) (hu _ uww_213) (fun _ h9 => h9) rfl dX6_verdictOnFour_110 ?_
                refine lv_aload_n hx hb dX6_verdictOnFour_113 rfl (lv_at hl 2 rfl) ?_
                refine va_get (D := (dC, dI)) (ci := 0) (v := .int (M2 11 7)) (C := RX0) (T := TX0) (N := 18) hx hb hu uX0 hown hK hI.1 11 rfl rfl 7 (by decide) (hu _ uww_275) (u_same (hu _ uww_38)) rfl dX6_verdictOnFour_114 ?_
                refine cpcalli_p hsz hI (va_runV (As := [.int (M2 11 7)]) (rest := []) ⟨hx, hb, hml, hown, hu⟩ (met_X4_at_1 l dC dI a kA t _ M2 L14 (M2 11 7) _ h) (cwl_X6_158_X4 hu ⟨by decide, by decide⟩) (cppre (ci := 3) hK hE hsz hI rfl rfl) rfl rfl hl.1 rfl (lv_room (Nat.le_of_ble_eq_true rfl)) dX6_verdictOnFour_117 ⟨by decide, by decide⟩) (fun r27 H locs h hI => ?_)
                refine cpcalli_p hsz hI (va_runS (As := [.int r27]) (rest := []) ⟨hx, hb, hml, hown, hu⟩ (met_X6_isErrorFour l dC dI a kA t _ M2 L14 r27 _ h) (cwl_X6_222_S hu ⟨by decide, by decide⟩) (cppreS hK hE hsz hI) rfl rfl hl.1 rfl (lv_room (Nat.le_of_ble_eq_true rfl)) dX6_verdictOnFour_120 ⟨by decide, by decide⟩) (fun r28 H locs h hI => ?_)
                refine lv_if_eq (tgt := 139) hx hb dX6_verdictOnFour_123 (by decide) (fun c29 => ?_) (fun c29 => ?_)
                · have h := h.1 c29
                  exact J139  _ _ _ h hI (lv_sub hl [1, 2, 0] rfl)
                · have h := h.2 c29
                  refine lv_aload_n hx hb dX6_verdictOnFour_126 rfl (lv_at hl 1 rfl) ?_
                  refine lv_aload_n hx hb dX6_verdictOnFour_127 rfl (lv_at hl 2 rfl) ?_
                  refine lv_aload_n hx hb dX6_verdictOnFour_128 rfl (lv_at hl 1 rfl) ?_
                  refine va_get (D := (dC, dI)) (ci := 5) (v := .ref (a 12)) (C := RX6) (T := TX6) (N := 17) hx hb hu uX6 hown hK hI.1 0 rfl rfl 5 (by decide) (hu _ uww_225) (fun _ h9 => h9) rfl dX6_verdictOnFour_129 ?_
                  refine cpcalli hsz hI (va_runV (As := [.ref (a 11), .ref (a 12)]) (rest := []) ⟨hx, hb, hml, hown, hu⟩ (met_X6_errorFromFour_0_11_12 l dC dI a kA t _ M2 L14  _ h) (cwl_X6_225_X6 hu ⟨by decide, by decide⟩) (cppre (ci := 5) hK hE hsz hI rfl rfl) rfl rfl hl.1 rfl (lv_room (Nat.le_of_ble_eq_true rfl)) dX6_verdictOnFour_132 ⟨by decide, by decide⟩) (fun r30 M31 L32 H locs h hI => ?_)
                  refine lv_istore_n (lv' := [(2, .int r30), (0, .ref (a 0)), (1, .ref (a 11))]) hx hb dX6_verdictOnFour_135 rfl hl (by decide) rfl (fun ls hl => ?_)
                  refine lv_goto (tgt := 144) hx hb dX6_verdictOnFour_136 (by decide) ?_
                  exact J144 r30 M31 L32 _ _ _ h hI (lv_sub hl [1, 2, 0] rfl)
            · have h := h.2 c12
              refine lv_iload_n hx hb dX6_verdictOnFour_90 rfl (lv_at hl 0 rfl) ?_
              exact cpiret (Z := (fun r M' L' => Z r M' L')) hx hb hr hlocks hK hI dX6_verdictOnFour_91 h
          · have h := h.2 c10
            refine lv_aload_n hx hb dX6_verdictOnFour_70 rfl (lv_at hl 0 rfl) ?_
            refine lv_aload_n hx hb dX6_verdictOnFour_71 rfl (lv_at hl 1 rfl) ?_
            refine lv_sipush (v := (2816 : Int32)) hx hb dX6_verdictOnFour_72 (by decide) ?_
            refine lv_iconst (v := (0 : Int32)) hx hb dX6_verdictOnFour_75 (by decide) ?_
            refine cpcalli_m hsz hI (va_runV (As := [.ref (a 11), .int (2816 : Int32), .int (0 : Int32)]) (rest := []) ⟨hx, hb, hml, hown, hu⟩ (met_X6_answerFour_0_11 l dC dI a kA t _ M2 L3 (2816 : Int32) (0 : Int32) _ h) (cwl_X6_199_X6 hu ⟨by decide, by decide⟩) (cppre (ci := 5) hK hE hsz hI rfl rfl) rfl rfl hl.1 rfl (lv_room (Nat.le_of_ble_eq_true rfl)) dX6_verdictOnFour_76 ⟨by decide, by decide⟩) (fun r33 M34 H locs h hI => ?_)
            exact cpiret (Z := (fun r M' L' => Z r M' L')) hx hb hr hlocks hK hI dX6_verdictOnFour_79 h
        · have h := h.2 c9
          refine lv_aload_n hx hb dX6_verdictOnFour_52 rfl (lv_at hl 0 rfl) ?_
          refine lv_aload_n hx hb dX6_verdictOnFour_53 rfl (lv_at hl 1 rfl) ?_
          refine lv_sipush (v := (773 : Int32)) hx hb dX6_verdictOnFour_54 (by decide) ?_
          refine lv_iconst (v := (0 : Int32)) hx hb dX6_verdictOnFour_57 (by decide) ?_
          refine cpcalli_m hsz hI (va_runV (As := [.ref (a 11), .int (773 : Int32), .int (0 : Int32)]) (rest := []) ⟨hx, hb, hml, hown, hu⟩ (met_X6_answerFour_0_11 l dC dI a kA t _ M2 L3 (773 : Int32) (0 : Int32) _ h) (cwl_X6_199_X6 hu ⟨by decide, by decide⟩) (cppre (ci := 5) hK hE hsz hI rfl rfl) rfl rfl hl.1 rfl (lv_room (Nat.le_of_ble_eq_true rfl)) dX6_verdictOnFour_58 ⟨by decide, by decide⟩) (fun r35 M36 H locs h hI => ?_)
          exact cpiret (Z := (fun r M' L' => Z r M' L')) hx hb hr hlocks hK hI dX6_verdictOnFour_61 h
      · have h := h.2 c8
        refine lv_iconst (v := (3 : Int32)) hx hb dX6_verdictOnFour_43 (by decide) ?_
        exact cpiret (Z := (fun r M' L' => Z r M' L')) hx hb hr hlocks hK hI dX6_verdictOnFour_44 h
    · have h := h.2 c6
      refine lv_iconst (v := (2 : Int32)) hx hb dX6_verdictOnFour_27 (by decide) ?_
      exact cpiret (Z := (fun r M' L' => Z r M' L')) hx hb hr hlocks hK hI dX6_verdictOnFour_28 h
  · have h := h.2 c4
    refine lv_iconst (v := (1 : Int32)) hx hb dX6_verdictOnFour_11 (by decide) ?_
    exact cpiret (Z := (fun r M' L' => Z r M' L')) hx hb hr hlocks hK hI dX6_verdictOnFour_12 h

abbrev rm_X6_finish_0 : Room := { frames := 0, cells := 0, slots := 0, locals := 0 }
abbrev av_X6_finish_0 (a t : Nat → Nat) (p1 : Int32) : List Value := [.ref (a 0), .int p1]
abbrev qc_X6_finish_0 (dC : Nat → ClassId) (dI : Nat → Nat → Nat) (a : Nat → Nat) (kA : Nat → ClassId) (sz : Nat) (M : cM) (L : cL) (Z : cM → Prop) : Array Value → State → Outcome → State → Prop := va_Qv (fun (u : cM × cL) => u.2 = L ∧ Z u.1) (cpAt dC dI a kA (cpA a sz)) (cpA a sz)
set_option maxHeartbeats 4000000 in
set_option maxRecDepth 100000 in
theorem met_X6_finish_0 (l : Launch) (dC : Nat → ClassId) (dI : Nat → Nat → Nat) (a : Nat → Nat) (kA : Nat → ClassId) (t : Nat → Nat) (sz : Nat) (M : cM) (L : cL) (p1 : Int32) (Z : cM → Prop) (h : wp_X6_finish_0 M L p1 Z) : Met l yX6_finish (Cond.code yX6_finish cX6_finish 2 none :: uW) rm_X6_finish_0 (va_Pc (av_X6_finish_0 a t p1) (cpPre dC dI a kA t M L sz)) (qc_X6_finish_0 dC dI a kA sz M L Z) 0 0 (cpA a sz) := by
  refine cpenter (cc := cX6_finish) (n := 2) (ret := none) (by decide) rfl (Nat.le_of_ble_eq_true rfl) ?_
  intro p e s m below meth c ls hx hb hml hr hlocks hown hts hK hE hsz hI hl hmn
  have hu : ∀ w ∈ uW, w.before (av_X6_finish_0 a t p1).toArray s = true := fun w h => hts w (List.mem_cons_of_mem _ h)
  have hown : s.vm.findClass RX6 = some m.cls := hown
  have hl : lv_has ls 2 [(0, .ref (a 0)), (1, .int p1)] := hl
  unfold wp_X6_finish_0 at h
  refine lv_aload_n hx hb dX6_finish_0 rfl (lv_at hl 0 rfl) ?_
  refine va_get (D := (dC, dI)) (ci := 5) (v := .ref (a 1)) (C := RX6) (T := TX6) (N := 17) hx hb hu uX6 hown hK hI.1 0 rfl rfl 0 (by decide) (hu _ uww_213) (fun _ h9 => h9) rfl dX6_finish_1 ?_
  refine lv_iconst (v := (0 : Int32)) hx hb dX6_finish_4 (by decide) ?_
  refine cpputN (ci := 3) (C := RX4) (T := TX4) (N := 2) (ty := .int) hx hb hu uX4 tyX4 tyX4_ok nmX4 hown hK hI 1 rfl rfl 1 (by decide) (va_Nw.use rfl (hE.1 _ cpn_1)) (fun _ h9 => h9) rfl (by decide +kernel) rfl rfl (Nat.le_of_ble_eq_true rfl) (cpset_1_1 _ _ _ _ _) dX6_finish_5 (fun H locs M1 eM1 hI => ?_)
  have h := h M1 eM1
  refine lv_iload_n hx hb dX6_finish_8 rfl (lv_at hl 1 rfl) ?_
  refine lv_if_lt (tgt := 31) hx hb dX6_finish_9 (by decide) (fun c2 => ?_) (fun c2 => ?_)
  · have h := h.1 c2
    exact cpvret (Z := (fun M' L' => L' = L ∧ Z M')) hx hb hr hlocks hK hI dX6_finish_31 ⟨rfl, h⟩
  · have h := h.2 c2
    refine lv_iload_n hx hb dX6_finish_12 rfl (lv_at hl 1 rfl) ?_
    refine lv_aload_n hx hb dX6_finish_13 rfl (lv_at hl 0 rfl) ?_
    refine va_get (D := (dC, dI)) (ci := 5) (v := .ref (a 15)) (C := RX6) (T := TX6) (N := 17) hx hb hu uX6 hown hK hI.1 0 rfl rfl 8 (by decide) (hu _ uww_230) (fun _ h9 => h9) rfl dX6_finish_14 ?_
    refine va_alen (v := (11 : Int32)) hx hb hK hI.1 15 5 rfl rfl rfl dX6_finish_17 ?_
    refine lv_icmp_ge (tgt := 31) hx hb dX6_finish_18 (by decide) (fun c3 => ?_) (fun c3 => ?_)
    · have h := h.1 c3
      exact cpvret (Z := (fun M' L' => L' = L ∧ Z M')) hx hb hr hlocks hK hI dX6_finish_31 ⟨rfl, h⟩
    · have h := h.2 c3
      refine lv_aload_n hx hb dX6_finish_21 rfl (lv_at hl 0 rfl) ?_
      refine va_get (D := (dC, dI)) (ci := 5) (v := .ref (a 15)) (C := RX6) (T := TX6) (N := 17) hx hb hu uX6 hown hK hI.1 0 rfl rfl 8 (by decide) (hu _ uww_230) (fun _ h9 => h9) rfl dX6_finish_22 ?_
      refine lv_iload_n hx hb dX6_finish_25 rfl (lv_at hl 1 rfl) ?_
      refine lv_dup2_11 hx hb dX6_finish_26 rfl rfl ?_
      refine va_iald hx hb hK hI.1 15 5 rfl rfl h.1 dX6_finish_27 ?_
      have h := h.2
      refine lv_iconst (v := (1 : Int32)) hx hb dX6_finish_28 (by decide) ?_
      refine lv_iadd hx hb dX6_finish_29 ?_
      refine cpiast hx hb hK hI 15 5 rfl rfl h.1 (cpset_15 _ _ _ _ _ _) dX6_finish_30 (fun H locs M4 eM4 hI => ?_)
      have h := h.2 M4 eM4
      exact cpvret (Z := (fun M' L' => L' = L ∧ Z M')) hx hb hr hlocks hK hI dX6_finish_31 ⟨rfl, h⟩

abbrev rm_X6_four_0 : Room := { frames := 6, cells := 0, slots := 0, locals := 157 }
abbrev av_X6_four_0 (a t : Nat → Nat)  : List Value := [.ref (a 0)]
abbrev qc_X6_four_0 (dC : Nat → ClassId) (dI : Nat → Nat → Nat) (a : Nat → Nat) (kA : Nat → ClassId) (sz : Nat) (M : cM) (L : cL) (Z : Int32 → cM → cL → Prop) : Array Value → State → Outcome → State → Prop := va_Qi (fun r (u : cM × cL) => Z r u.1 u.2) (cpAt dC dI a kA (cpA a sz)) (cpA a sz)
set_option maxHeartbeats 4000000 in
set_option maxRecDepth 100000 in
theorem met_X6_four_0 (l : Launch) (dC : Nat → ClassId) (dI : Nat → Nat → Nat) (a : Nat → Nat) (kA : Nat → ClassId) (t : Nat → Nat) (sz : Nat) (M : cM) (L : cL)  (Z : Int32 → cM → cL → Prop) (h : wp_X6_four_0 M L  Z) : Met l yX6_four (Cond.code yX6_four cX6_four 2 (some .int) :: uW) rm_X6_four_0 (va_Pc (av_X6_four_0 a t ) (cpPre dC dI a kA t M L sz)) (qc_X6_four_0 dC dI a kA sz M L Z) 0 0 (cpA a sz) := by
  refine cpenter (cc := cX6_four) (n := 2) (ret := (some .int)) (by decide) rfl (Nat.le_of_ble_eq_true rfl) ?_
  intro p e s m below meth c ls hx hb hml hr hlocks hown hts hK hE hsz hI hl hmn
  have hu : ∀ w ∈ uW, w.before (av_X6_four_0 a t ).toArray s = true := fun w h => hts w (List.mem_cons_of_mem _ h)
  have hown : s.vm.findClass RX6 = some m.cls := hown
  have hl : lv_has ls 2 [(0, .ref (a 0))] := hl
  unfold wp_X6_four_0 at h
  refine lv_aload_n hx hb dX6_four_0 rfl (lv_at hl 0 rfl) ?_
  refine va_get (D := (dC, dI)) (ci := 5) (v := .ref (a 5)) (C := RX6) (T := TX6) (N := 17) hx hb hu uX6 hown hK hI.1 0 rfl rfl 2 (by decide) (hu _ uww_218) (fun _ h9 => h9) rfl dX6_four_1 ?_
  refine cpcallv_m hsz hI (va_runV (As := []) (rest := []) ⟨hx, hb, hml, hown, hu⟩ (met_X3_clear_5 l dC dI a kA t _ M L  _ h) (cwl_X6_125_X3 hu ⟨by decide, by decide⟩) (cppre (ci := 2) hK hE hsz hI rfl rfl) rfl rfl hl.1 rfl (lv_room (Nat.le_of_ble_eq_true rfl)) dX6_four_4 ⟨by decide, by decide⟩) (fun M1 H locs h hI => ?_)
  refine lv_aload_n hx hb dX6_four_7 rfl (lv_at hl 0 rfl) ?_
  refine lv_aload_n hx hb dX6_four_8 rfl (lv_at hl 0 rfl) ?_
  refine va_get (D := (dC, dI)) (ci := 5) (v := .ref (a 11)) (C := RX6) (T := TX6) (N := 17) hx hb hu uX6 hown hK hI.1 0 rfl rfl 4 (by decide) (hu _ uww_224) (fun _ h9 => h9) rfl dX6_four_9 ?_
  refine cpcalli hsz hI (va_runV (As := [.ref (a 11)]) (rest := []) ⟨hx, hb, hml, hown, hu⟩ (met_X6_verdictOnFour_0_11 l dC dI a kA t _ M1 L  _ h) (cwl_X6_128_X6 hu ⟨by decide, by decide⟩) (cppre (ci := 5) hK hE hsz hI rfl rfl) rfl rfl hl.1 rfl (lv_room (Nat.le_of_ble_eq_true rfl)) dX6_four_12 ⟨by decide, by decide⟩) (fun r2 M3 L4 H locs h hI => ?_)
  refine lv_istore_n (lv' := [(1, .int r2), (0, .ref (a 0))]) hx hb dX6_four_15 rfl hl (by decide) rfl (fun ls hl => ?_)
  refine lv_aload_n hx hb dX6_four_16 rfl (lv_at hl 1 rfl) ?_
  refine lv_iload_n hx hb dX6_four_17 rfl (lv_at hl 0 rfl) ?_
  refine cpcallv_m hsz hI (va_runV (As := [.int r2]) (rest := []) ⟨hx, hb, hml, hown, hu⟩ (met_X6_finish_0 l dC dI a kA t _ M3 L4 r2 _ h) (cwl_X6_132_X6 hu ⟨by decide, by decide⟩) (cppre (ci := 5) hK hE hsz hI rfl rfl) rfl rfl hl.1 rfl (lv_room (Nat.le_of_ble_eq_true rfl)) dX6_four_18 ⟨by decide, by decide⟩) (fun M5 H locs h hI => ?_)
  refine lv_iload_n hx hb dX6_four_21 rfl (lv_at hl 0 rfl) ?_
  exact cpiret (Z := (fun r M' L' => Z r M' L')) hx hb hr hlocks hK hI dX6_four_22 h

abbrev rm_X5_forgetHeaders_13 : Room := { frames := 0, cells := 0, slots := 0, locals := 0 }
abbrev av_X5_forgetHeaders_13 (a t : Nat → Nat)  : List Value := [.ref (a 13)]
abbrev qc_X5_forgetHeaders_13 (dC : Nat → ClassId) (dI : Nat → Nat → Nat) (a : Nat → Nat) (kA : Nat → ClassId) (sz : Nat) (M : cM) (L : cL) (Z : cM → Prop) : Array Value → State → Outcome → State → Prop := va_Qv (fun (u : cM × cL) => u.2 = L ∧ Z u.1) (cpAt dC dI a kA (cpA a sz)) (cpA a sz)
set_option maxHeartbeats 4000000 in
set_option maxRecDepth 100000 in
theorem met_X5_forgetHeaders_13 (l : Launch) (dC : Nat → ClassId) (dI : Nat → Nat → Nat) (a : Nat → Nat) (kA : Nat → ClassId) (t : Nat → Nat) (sz : Nat) (M : cM) (L : cL)  (Z : cM → Prop) (h : wp_X5_forgetHeaders_13 M L  Z) : Met l yX5_forgetHeaders (Cond.code yX5_forgetHeaders cX5_forgetHeaders 1 none :: uW) rm_X5_forgetHeaders_13 (va_Pc (av_X5_forgetHeaders_13 a t ) (cpPre dC dI a kA t M L sz)) (qc_X5_forgetHeaders_13 dC dI a kA sz M L Z) 0 0 (cpA a sz) := by
  refine cpenter (cc := cX5_forgetHeaders) (n := 1) (ret := none) (by decide) rfl (Nat.le_of_ble_eq_true rfl) ?_
  intro p e s m below meth c ls hx hb hml hr hlocks hown hts hK hE hsz hI hl hmn
  have hu : ∀ w ∈ uW, w.before (av_X5_forgetHeaders_13 a t ).toArray s = true := fun w h => hts w (List.mem_cons_of_mem _ h)
  have hown : s.vm.findClass RX5 = some m.cls := hown
  have hl : lv_has ls 1 [(0, .ref (a 13))] := hl
  unfold wp_X5_forgetHeaders_13 at h
  refine lv_aload_n hx hb dX5_forgetHeaders_0 rfl (lv_at hl 0 rfl) ?_
  refine lv_iconst (v := (0 : Int32)) hx hb dX5_forgetHeaders_1 (by decide) ?_
  refine cpput (ci := 4) (C := RX5) (T := TX5) (N := 16) (ty := .boolean) hx hb hu uX5 tyX5 tyX5_ok nmX5 hown hK hI 13 rfl rfl 14 (by decide) (hu _ uww_180) (fun _ h9 => h9) rfl (by decide +kernel) isB_0.1 isB_0.2 (Nat.le_of_ble_eq_true rfl) (cpset_13_14 _ _ _ _ _) dX5_forgetHeaders_2 (fun H locs M1 eM1 hI => ?_)
  have h := h M1 eM1
  refine lv_aload_n hx hb dX5_forgetHeaders_5 rfl (lv_at hl 0 rfl) ?_
  refine lv_iconst (v := (0 : Int32)) hx hb dX5_forgetHeaders_6 (by decide) ?_
  refine cpput (ci := 4) (C := RX5) (T := TX5) (N := 16) (ty := .boolean) hx hb hu uX5 tyX5 tyX5_ok nmX5 hown hK hI 13 rfl rfl 5 (by decide) (hu _ uww_149) (u_same (hu _ uww_150)) rfl (by decide +kernel) isB_0.1 isB_0.2 (Nat.le_of_ble_eq_true rfl) (cpset_13_5 _ _ _ _ _) dX5_forgetHeaders_7 (fun H locs M2 eM2 hI => ?_)
  have h := h M2 eM2
  refine lv_aload_n hx hb dX5_forgetHeaders_10 rfl (lv_at hl 0 rfl) ?_
  refine lv_iconst (v := (0 : Int32)) hx hb dX5_forgetHeaders_11 (by decide) ?_
  refine cpput (ci := 4) (C := RX5) (T := TX5) (N := 16) (ty := .int) hx hb hu uX5 tyX5 tyX5_ok nmX5 hown hK hI 13 rfl rfl 6 (by decide) (hu _ uww_178) (u_same (hu _ uww_179)) rfl (by decide +kernel) rfl rfl (Nat.le_of_ble_eq_true rfl) (cpset_13_6 _ _ _ _ _) dX5_forgetHeaders_12 (fun H locs M3 eM3 hI => ?_)
  have h := h M3 eM3
  refine lv_aload_n hx hb dX5_forgetHeaders_15 rfl (lv_at hl 0 rfl) ?_
  refine lv_iconst (v := (0 : Int32)) hx hb dX5_forgetHeaders_16 (by decide) ?_
  refine cpput (ci := 4) (C := RX5) (T := TX5) (N := 16) (ty := .int) hx hb hu uX5 tyX5 tyX5_ok nmX5 hown hK hI 13 rfl rfl 4 (by decide) (hu _ uww_188) (u_same (hu _ uww_189)) rfl (by decide +kernel) rfl rfl (Nat.le_of_ble_eq_true rfl) (cpset_13_4 _ _ _ _ _) dX5_forgetHeaders_17 (fun H locs M4 eM4 hI => ?_)
  have h := h M4 eM4
  refine lv_aload_n hx hb dX5_forgetHeaders_20 rfl (lv_at hl 0 rfl) ?_
  refine lv_iconst (v := (-1 : Int32)) hx hb dX5_forgetHeaders_21 (by decide) ?_
  refine cpput (ci := 4) (C := RX5) (T := TX5) (N := 16) (ty := .int) hx hb hu uX5 tyX5 tyX5_ok nmX5 hown hK hI 13 rfl rfl 15 (by decide) (hu _ uww_181) (fun _ h9 => h9) rfl (by decide +kernel) rfl rfl (Nat.le_of_ble_eq_true rfl) (cpset_13_15 _ _ _ _ _) dX5_forgetHeaders_22 (fun H locs M5 eM5 hI => ?_)
  have h := h M5 eM5
  exact cpvret (Z := (fun M' L' => L' = L ∧ Z M')) hx hb hr hlocks hK hI dX5_forgetHeaders_25 ⟨rfl, h⟩

abbrev rm_X5_isHeader : Room := { frames := 0, cells := 0, slots := 0, locals := 0 }
abbrev av_X5_isHeader (a t : Nat → Nat) (p0 : Int32) : List Value := [.int p0]
abbrev qc_X5_isHeader (dC : Nat → ClassId) (dI : Nat → Nat → Nat) (a : Nat → Nat) (kA : Nat → ClassId) (sz : Nat) (M : cM) (L : cL) (Z : Int32 → Prop) : Array Value → State → Outcome → State → Prop := va_Qi (fun r (u : cM × cL) => u.1 = M ∧ u.2 = L ∧ Z r) (cpAt dC dI a kA (cpA a sz)) (cpA a sz)
set_option maxHeartbeats 4000000 in
set_option maxRecDepth 100000 in
theorem met_X5_isHeader (l : Launch) (dC : Nat → ClassId) (dI : Nat → Nat → Nat) (a : Nat → Nat) (kA : Nat → ClassId) (t : Nat → Nat) (sz : Nat) (M : cM) (L : cL) (p0 : Int32) (Z : Int32 → Prop) (h : wp_X5_isHeader M L p0 Z) : Met l yX5_isHeader (Cond.code yX5_isHeader cX5_isHeader 1 (some .boolean) :: uW) rm_X5_isHeader (va_Pc (av_X5_isHeader a t p0) (cpPre dC dI a kA t M L sz)) (qc_X5_isHeader dC dI a kA sz M L Z) 0 0 (cpA a sz) := by
  refine cpenter (cc := cX5_isHeader) (n := 1) (ret := (some .boolean)) (by decide) rfl (Nat.le_of_ble_eq_true rfl) ?_
  intro p e s m below meth c ls hx hb hml hr hlocks hown hts hK hE hsz hI hl hmn
  have hu : ∀ w ∈ uW, w.before (av_X5_isHeader a t p0).toArray s = true := fun w h => hts w (List.mem_cons_of_mem _ h)
  have hown : s.vm.findClass RX5 = some m.cls := hown
  have hl : lv_has ls 1 [(0, .int p0)] := hl
  unfold wp_X5_isHeader at h
  refine lv_iload_n hx hb dX5_isHeader_0 rfl (lv_at hl 0 rfl) ?_
  refine lv_if_eq (tgt := 22) hx hb dX5_isHeader_1 (by decide) (fun c1 => ?_) (fun c1 => ?_)
  · have h := h.1 c1
    refine lv_iconst (v := (1 : Int32)) hx hb dX5_isHeader_22 (by decide) ?_
    refine lv_goto (tgt := 27) hx hb dX5_isHeader_23 (by decide) ?_
    exact cpzret (Z := (fun r M' L' => M' = M ∧ L' = L ∧ Z r)) hx hb hr hlocks hK hI dX5_isHeader_27 ⟨isB_1, ⟨rfl, rfl, h⟩⟩
  · have h := h.2 c1
    refine lv_iload_n hx hb dX5_isHeader_4 rfl (lv_at hl 0 rfl) ?_
    refine lv_bipush (v := (43 : Int32)) hx hb dX5_isHeader_5 (by decide) ?_
    refine lv_icmp_eq (tgt := 22) hx hb dX5_isHeader_7 (by decide) (fun c2 => ?_) (fun c2 => ?_)
    · have h := h.1 c2
      refine lv_iconst (v := (1 : Int32)) hx hb dX5_isHeader_22 (by decide) ?_
      refine lv_goto (tgt := 27) hx hb dX5_isHeader_23 (by decide) ?_
      exact cpzret (Z := (fun r M' L' => M' = M ∧ L' = L ∧ Z r)) hx hb hr hlocks hK hI dX5_isHeader_27 ⟨isB_1, ⟨rfl, rfl, h⟩⟩
    · have h := h.2 c2
      refine lv_iload_n hx hb dX5_isHeader_10 rfl (lv_at hl 0 rfl) ?_
      refine lv_bipush (v := (44 : Int32)) hx hb dX5_isHeader_11 (by decide) ?_
      refine lv_icmp_eq (tgt := 22) hx hb dX5_isHeader_13 (by decide) (fun c3 => ?_) (fun c3 => ?_)
      · have h := h.1 c3
        refine lv_iconst (v := (1 : Int32)) hx hb dX5_isHeader_22 (by decide) ?_
        refine lv_goto (tgt := 27) hx hb dX5_isHeader_23 (by decide) ?_
        exact cpzret (Z := (fun r M' L' => M' = M ∧ L' = L ∧ Z r)) hx hb hr hlocks hK hI dX5_isHeader_27 ⟨isB_1, ⟨rfl, rfl, h⟩⟩
      · have h := h.2 c3
        refine lv_iload_n hx hb dX5_isHeader_16 rfl (lv_at hl 0 rfl) ?_
        refine lv_bipush (v := (60 : Int32)) hx hb dX5_isHeader_17 (by decide) ?_
        refine lv_icmp_ne (tgt := 26) hx hb dX5_isHeader_19 (by decide) (fun c4 => ?_) (fun c4 => ?_)
        · have h := h.1 c4
          refine lv_iconst (v := (0 : Int32)) hx hb dX5_isHeader_26 (by decide) ?_
          exact cpzret (Z := (fun r M' L' => M' = M ∧ L' = L ∧ Z r)) hx hb hr hlocks hK hI dX5_isHeader_27 ⟨isB_0, ⟨rfl, rfl, h⟩⟩
        · have h := h.2 c4
          refine lv_iconst (v := (1 : Int32)) hx hb dX5_isHeader_22 (by decide) ?_
          refine lv_goto (tgt := 27) hx hb dX5_isHeader_23 (by decide) ?_
          exact cpzret (Z := (fun r M' L' => M' = M ∧ L' = L ∧ Z r)) hx hb hr hlocks hK hI dX5_isHeader_27 ⟨isB_1, ⟨rfl, rfl, h⟩⟩

abbrev rm_X5_readFragmentHeader_13_1 : Room := { frames := 1, cells := 0, slots := 0, locals := 21 }
abbrev av_X5_readFragmentHeader_13_1 (a t : Nat → Nat) (p2 : Int32) : List Value := [.ref (a 13), .ref (a 1), .int p2]
abbrev qc_X5_readFragmentHeader_13_1 (dC : Nat → ClassId) (dI : Nat → Nat → Nat) (a : Nat → Nat) (kA : Nat → ClassId) (sz : Nat) (M : cM) (L : cL) (Z : cM → Prop) : Array Value → State → Outcome → State → Prop := va_Qv (fun (u : cM × cL) => u.2 = L ∧ Z u.1) (cpAt dC dI a kA (cpA a sz)) (cpA a sz)
set_option maxHeartbeats 4000000 in
set_option maxRecDepth 100000 in
theorem met_X5_readFragmentHeader_13_1 (l : Launch) (dC : Nat → ClassId) (dI : Nat → Nat → Nat) (a : Nat → Nat) (kA : Nat → ClassId) (t : Nat → Nat) (sz : Nat) (M : cM) (L : cL) (p2 : Int32) (Z : cM → Prop) (h : wp_X5_readFragmentHeader_13_1 M L p2 Z) : Met l yX5_readFragmentHeader (Cond.code yX5_readFragmentHeader cX5_readFragmentHeader 4 none :: uW) rm_X5_readFragmentHeader_13_1 (va_Pc (av_X5_readFragmentHeader_13_1 a t p2) (cpPre dC dI a kA t M L sz)) (qc_X5_readFragmentHeader_13_1 dC dI a kA sz M L Z) 0 0 (cpA a sz) := by
  refine cpenter (cc := cX5_readFragmentHeader) (n := 4) (ret := none) (by decide) rfl (Nat.le_of_ble_eq_true rfl) ?_
  intro p e s m below meth c ls hx hb hml hr hlocks hown hts hK hE hsz hI hl hmn
  have hu : ∀ w ∈ uW, w.before (av_X5_readFragmentHeader_13_1 a t p2).toArray s = true := fun w h => hts w (List.mem_cons_of_mem _ h)
  have hown : s.vm.findClass RX5 = some m.cls := hown
  have hl : lv_has ls 4 [(0, .ref (a 13)), (1, .ref (a 1)), (2, .int p2)] := hl
  unfold wp_X5_readFragmentHeader_13_1 at h
  refine lv_aload_n hx hb dX5_readFragmentHeader_0 rfl (lv_at hl 0 rfl) ?_
  refine lv_iconst (v := (1 : Int32)) hx hb dX5_readFragmentHeader_1 (by decide) ?_
  refine cpput (ci := 4) (C := RX5) (T := TX5) (N := 16) (ty := .boolean) hx hb hu uX5 tyX5 tyX5_ok nmX5 hown hK hI 13 rfl rfl 14 (by decide) (hu _ uww_180) (fun _ h9 => h9) rfl (by decide +kernel) isB_1.1 isB_1.2 (Nat.le_of_ble_eq_true rfl) (cpset_13_14 _ _ _ _ _) dX5_readFragmentHeader_2 (fun H locs M1 eM1 hI => ?_)
  have h := h M1 eM1
  refine lv_aload_n hx hb dX5_readFragmentHeader_5 rfl (lv_at hl 1 rfl) ?_
  refine lv_iload_n hx hb dX5_readFragmentHeader_6 rfl (lv_at hl 2 rfl) ?_
  refine lv_iconst (v := (2 : Int32)) hx hb dX5_readFragmentHeader_7 (by decide) ?_
  refine lv_iadd hx hb dX5_readFragmentHeader_8 ?_
  refine cpcalli_p hsz hI (va_runV (As := [.int (p2 + (2 : Int32))]) (rest := []) ⟨hx, hb, hml, hown, hu⟩ (met_X4_word_1 l dC dI a kA t _ M1 L (p2 + (2 : Int32)) _ h) (cwl_X5_15_X4 hu ⟨by decide, by decide⟩) (cppre (ci := 3) hK hE hsz hI rfl rfl) rfl rfl hl.1 rfl (lv_room (Nat.le_of_ble_eq_true rfl)) dX5_readFragmentHeader_9 ⟨by decide, by decide⟩) (fun r2 H locs h hI => ?_)
  refine lv_istore_n (lv' := [(3, .int r2), (0, .ref (a 13)), (1, .ref (a 1)), (2, .int p2)]) hx hb dX5_readFragmentHeader_12 rfl hl (by decide) rfl (fun ls hl => ?_)
  refine lv_aload_n hx hb dX5_readFragmentHeader_13 rfl (lv_at hl 1 rfl) ?_
  refine lv_iload_n hx hb dX5_readFragmentHeader_14 rfl (lv_at hl 0 rfl) ?_
  refine lv_iconst (v := (3 : Int32)) hx hb dX5_readFragmentHeader_15 (by decide) ?_
  refine lv_ishr hx hb dX5_readFragmentHeader_16 ?_
  refine cpput (ci := 4) (C := RX5) (T := TX5) (N := 16) (ty := .int) hx hb hu uX5 tyX5 tyX5_ok nmX5 hown hK hI 13 rfl rfl 6 (by decide) (hu _ uww_178) (u_same (hu _ uww_179)) rfl (by decide +kernel) rfl rfl (Nat.le_of_ble_eq_true rfl) (cpset_13_6 _ _ _ _ _) dX5_readFragmentHeader_17 (fun H locs M3 eM3 hI => ?_)
  have h := h M3 eM3
  refine lv_aload_n hx hb dX5_readFragmentHeader_20 rfl (lv_at hl 1 rfl) ?_
  refine lv_iload_n hx hb dX5_readFragmentHeader_21 rfl (lv_at hl 0 rfl) ?_
  refine lv_iconst (v := (1 : Int32)) hx hb dX5_readFragmentHeader_22 (by decide) ?_
  refine lv_iand hx hb dX5_readFragmentHeader_23 ?_
  obtain ⟨K32, hK32, h⟩ := h
  have J32 : ∀ (v4 : Int32) (H : Heap) (locs : List Loc) (ls : Array Slot), K32 v4 → cpI dC dI a kA (cpA a sz) s M3 L H locs → lv_has ls 4 [(0, .ref (a 13)), (1, .ref (a 1)), (2, .int p2)] → W p l e rm_X5_readFragmentHeader_13_1 s m (av_X5_readFragmentHeader_13_1 a t p2).toArray below meth c H locs 0 0 (MQ below (qc_X5_readFragmentHeader_13_1 dC dI a kA sz M L Z) (av_X5_readFragmentHeader_13_1 a t p2).toArray s 0 0 (cpA a sz)) (F0 m 32 ls [.int v4, .ref (a 13)]) := by
    intro v4 H locs ls h hI hl
    have h := hK32 v4 h
    refine cpput (ci := 4) (C := RX5) (T := TX5) (N := 16) (ty := .boolean) hx hb hu uX5 tyX5 tyX5_ok nmX5 hown hK hI 13 rfl rfl 5 (by decide) (hu _ uww_149) (u_same (hu _ uww_150)) rfl (by decide +kernel) h.1.1 h.1.2 (Nat.le_of_ble_eq_true rfl) (cpset_13_5 _ _ _ _ _) dX5_readFragmentHeader_32 (fun H locs M5 eM5 hI => ?_)
    have h := h.2 M5 eM5
    refine lv_aload_n hx hb dX5_readFragmentHeader_35 rfl (lv_at hl 0 rfl) ?_
    refine lv_aload_n hx hb dX5_readFragmentHeader_36 rfl (lv_at hl 1 rfl) ?_
    refine lv_iload_n hx hb dX5_readFragmentHeader_37 rfl (lv_at hl 2 rfl) ?_
    refine lv_bipush (v := (6 : Int32)) hx hb dX5_readFragmentHeader_38 (by decide) ?_
    refine lv_iadd hx hb dX5_readFragmentHeader_40 ?_
    refine cpcalli_p hsz hI (va_runV (As := [.int (p2 + (6 : Int32))]) (rest := [.ref (a 13)]) ⟨hx, hb, hml, hown, hu⟩ (met_X4_word_1 l dC dI a kA t _ M5 L (p2 + (6 : Int32)) _ h) (cwl_X5_15_X4 hu ⟨by decide, by decide⟩) (cppre (ci := 3) hK hE hsz hI rfl rfl) rfl rfl hl.1 rfl (lv_room (Nat.le_of_ble_eq_true rfl)) dX5_readFragmentHeader_41 ⟨by decide, by decide⟩) (fun r6 H locs h hI => ?_)
    refine cpput (ci := 4) (C := RX5) (T := TX5) (N := 16) (ty := .int) hx hb hu uX5 tyX5 tyX5_ok nmX5 hown hK hI 13 rfl rfl 4 (by decide) (hu _ uww_188) (u_same (hu _ uww_189)) rfl (by decide +kernel) rfl rfl (Nat.le_of_ble_eq_true rfl) (cpset_13_4 _ _ _ _ _) dX5_readFragmentHeader_44 (fun H locs M7 eM7 hI => ?_)
    have h := h M7 eM7
    exact cpvret (Z := (fun M' L' => L' = L ∧ Z M')) hx hb hr hlocks hK hI dX5_readFragmentHeader_47 ⟨rfl, h⟩
  refine lv_if_eq (tgt := 31) hx hb dX5_readFragmentHeader_24 (by decide) (fun c8 => ?_) (fun c8 => ?_)
  · have h := h.1 c8
    refine lv_iconst (v := (0 : Int32)) hx hb dX5_readFragmentHeader_31 (by decide) ?_
    exact J32 (0 : Int32) _ _ _ h hI (lv_sub hl [1, 2, 3] rfl)
  · have h := h.2 c8
    refine lv_iconst (v := (1 : Int32)) hx hb dX5_readFragmentHeader_27 (by decide) ?_
    refine lv_goto (tgt := 32) hx hb dX5_readFragmentHeader_28 (by decide) ?_
    exact J32 (1 : Int32) _ _ _ h hI (lv_sub hl [1, 2, 3] rfl)

abbrev rm_X5_readHeaders_13_1 : Room := { frames := 2, cells := 0, slots := 0, locals := 44 }
abbrev av_X5_readHeaders_13_1 (a t : Nat → Nat) (p2 : Int32) : List Value := [.ref (a 13), .ref (a 1), .int p2]
abbrev qc_X5_readHeaders_13_1 (dC : Nat → ClassId) (dI : Nat → Nat → Nat) (a : Nat → Nat) (kA : Nat → ClassId) (sz : Nat) (M : cM) (L : cL) (Z : Int32 → cM → Prop) : Array Value → State → Outcome → State → Prop := va_Qi (fun r (u : cM × cL) => u.2 = L ∧ Z r u.1) (cpAt dC dI a kA (cpA a sz)) (cpA a sz)
set_option maxHeartbeats 4000000 in
set_option maxRecDepth 100000 in
theorem met_X5_readHeaders_13_1 (l : Launch) (dC : Nat → ClassId) (dI : Nat → Nat → Nat) (a : Nat → Nat) (kA : Nat → ClassId) (t : Nat → Nat) (sz : Nat) (M : cM) (L : cL) (p2 : Int32) (Z : Int32 → cM → Prop) (h : wp_X5_readHeaders_13_1 M L p2 Z) : Met l yX5_readHeaders (Cond.code yX5_readHeaders cX5_readHeaders 7 (some .boolean) :: uW) rm_X5_readHeaders_13_1 (va_Pc (av_X5_readHeaders_13_1 a t p2) (cpPre dC dI a kA t M L sz)) (qc_X5_readHeaders_13_1 dC dI a kA sz M L Z) 0 0 (cpA a sz) := by
  refine cpenter (cc := cX5_readHeaders) (n := 7) (ret := (some .boolean)) (by decide) rfl (Nat.le_of_ble_eq_true rfl) ?_
  intro p e s m below meth c ls hx hb hml hr hlocks hown hts hK hE hsz hI hl hmn
  have hu : ∀ w ∈ uW, w.before (av_X5_readHeaders_13_1 a t p2).toArray s = true := fun w h => hts w (List.mem_cons_of_mem _ h)
  have hown : s.vm.findClass RX5 = some m.cls := hown
  have hl : lv_has ls 7 [(0, .ref (a 13)), (1, .ref (a 1)), (2, .int p2)] := hl
  unfold wp_X5_readHeaders_13_1 at h
  refine lv_aload_n hx hb dX5_readHeaders_0 rfl (lv_at hl 1 rfl) ?_
  refine lv_aload_n hx hb dX5_readHeaders_1 rfl (lv_at hl 0 rfl) ?_
  refine va_get (D := (dC, dI)) (ci := 4) (v := .int (M 13 0)) (C := RX5) (T := TX5) (N := 16) hx hb hu uX5 hown hK hI.1 13 rfl rfl 0 (by decide) (hu _ uww_159) (u_same (hu _ uww_160)) rfl dX5_readHeaders_2 ?_
  refine lv_bipush (v := (6 : Int32)) hx hb dX5_readHeaders_5 (by decide) ?_
  refine lv_iadd hx hb dX5_readHeaders_7 ?_
  refine cpcalli_p hsz hI (va_runV (As := [.int ((M 13 0) + (6 : Int32))]) (rest := []) ⟨hx, hb, hml, hown, hu⟩ (met_X4_at_1 l dC dI a kA t _ M L ((M 13 0) + (6 : Int32)) _ h) (cwl_X5_34_X4 hu ⟨by decide, by decide⟩) (cppre (ci := 3) hK hE hsz hI rfl rfl) rfl rfl hl.1 rfl (lv_room (Nat.le_of_ble_eq_true rfl)) dX5_readHeaders_8 ⟨by decide, by decide⟩) (fun r1 H locs h hI => ?_)
  refine lv_istore_n (lv' := [(3, .int r1), (0, .ref (a 13)), (1, .ref (a 1)), (2, .int p2)]) hx hb dX5_readHeaders_11 rfl hl (by decide) rfl (fun ls hl => ?_)
  refine lv_aload_n hx hb dX5_readHeaders_12 rfl (lv_at hl 1 rfl) ?_
  refine va_get (D := (dC, dI)) (ci := 4) (v := .int (M 13 0)) (C := RX5) (T := TX5) (N := 16) hx hb hu uX5 hown hK hI.1 13 rfl rfl 0 (by decide) (hu _ uww_159) (u_same (hu _ uww_160)) rfl dX5_readHeaders_13 ?_
  refine lv_bipush (v := (40 : Int32)) hx hb dX5_readHeaders_16 (by decide) ?_
  refine lv_iadd hx hb dX5_readHeaders_18 ?_
  refine lv_topi (fun x2 ex2 => ?_)
  have h := h x2 ex2
  refine lv_istore (lv' := [(4, .int x2), (3, .int r1), (0, .ref (a 13)), (1, .ref (a 1)), (2, .int p2)]) hx hb dX5_readHeaders_19 hl (by decide) rfl (fun ls hl => ?_)
  refine lv_aload_n hx hb dX5_readHeaders_21 rfl (lv_at hl 2 rfl) ?_
  refine cpcallv_m hsz hI (va_runV (As := []) (rest := []) ⟨hx, hb, hml, hown, hu⟩ (met_X5_forgetHeaders_13 l dC dI a kA t _ M L  _ h) (cwl_X5_69_X5 hu ⟨by decide, by decide⟩) (cppre (ci := 4) hK hE hsz hI rfl rfl) rfl rfl hl.1 rfl (lv_room (Nat.le_of_ble_eq_true rfl)) dX5_readHeaders_22 ⟨by decide, by decide⟩) (fun M3 H locs h hI => ?_)
  refine lv_iconst (v := (0 : Int32)) hx hb dX5_readHeaders_25 (by decide) ?_
  refine lv_istore (lv' := [(5, .int (0 : Int32)), (4, .int x2), (3, .int r1), (0, .ref (a 13)), (1, .ref (a 1)), (2, .int p2)]) hx hb dX5_readHeaders_26 hl (by decide) rfl (fun ls hl => ?_)
  obtain ⟨I28, m28, h, hs28⟩ := h
  have P28 : ∀ (n28 : Nat) (x4 : Int32) (x5 : Int32) (x6 : Int32) (M7 : cM) (H : Heap) (locs : List Loc) (ls : Array Slot), I28 x4 x5 x6 M7 → m28 x4 x5 x6 M7 < n28 → cpI dC dI a kA (cpA a sz) s M7 L H locs → lv_has ls 7 [(0, .ref (a 13)), (1, .ref (a 1)), (2, .int p2), (3, .int x4), (4, .int x5), (5, .int x6)] → W p l e rm_X5_readHeaders_13_1 s m (av_X5_readHeaders_13_1 a t p2).toArray below meth c H locs 0 0 (MQ below (qc_X5_readHeaders_13_1 dC dI a kA sz M L Z) (av_X5_readHeaders_13_1 a t p2).toArray s 0 0 (cpA a sz)) (F0 m 28 ls []) := by
    intro n28
    induction n28 with
    | zero => intro x4 x5 x6 M7 H locs ls _ hn; exact absurd hn (Nat.not_lt_zero _)
    | succ n28 ih28 =>
      intro x4 x5 x6 M7 H locs ls h hn28 hI hl
      have h := hs28 x4 x5 x6 M7 h
      refine lv_iload hx hb dX5_readHeaders_28 (lv_at hl 5 rfl) ?_
      refine lv_sipush (v := (300 : Int32)) hx hb dX5_readHeaders_30 (by decide) ?_
      obtain ⟨K172, hK172, h⟩ := h
      have J172 : ∀  (H : Heap) (locs : List Loc) (ls : Array Slot), K172  → cpI dC dI a kA (cpA a sz) s M7 L H locs → lv_has ls 7 [(0, .ref (a 13)), (3, .int x4), (4, .int x5)] → W p l e rm_X5_readHeaders_13_1 s m (av_X5_readHeaders_13_1 a t p2).toArray below meth c H locs 0 0 (MQ below (qc_X5_readHeaders_13_1 dC dI a kA sz M L Z) (av_X5_readHeaders_13_1 a t p2).toArray s 0 0 (cpA a sz)) (F0 m 172 ls []) := by
        intro  H locs ls h hI hl
        have h := hK172  h
        refine lv_aload_n hx hb dX5_readHeaders_172 rfl (lv_at hl 0 rfl) ?_
        refine lv_iload_n hx hb dX5_readHeaders_173 rfl (lv_at hl 1 rfl) ?_
        refine cpput (ci := 4) (C := RX5) (T := TX5) (N := 16) (ty := .int) hx hb hu uX5 tyX5 tyX5_ok nmX5 hown hK hI 13 rfl rfl 3 (by decide) (hu _ uww_182) (u_same (hu _ uww_183)) rfl (by decide +kernel) rfl rfl (Nat.le_of_ble_eq_true rfl) (cpset_13_3 _ _ _ _ _) dX5_readHeaders_174 (fun H locs M8 eM8 hI => ?_)
        have h := h M8 eM8
        refine lv_aload_n hx hb dX5_readHeaders_177 rfl (lv_at hl 0 rfl) ?_
        refine lv_iload hx hb dX5_readHeaders_178 (lv_at hl 2 rfl) ?_
        refine cpput (ci := 4) (C := RX5) (T := TX5) (N := 16) (ty := .int) hx hb hu uX5 tyX5 tyX5_ok nmX5 hown hK hI 13 rfl rfl 7 (by decide) (hu _ uww_168) (u_same (hu _ uww_169)) rfl (by decide +kernel) rfl rfl (Nat.le_of_ble_eq_true rfl) (cpset_13_7 _ _ _ _ _) dX5_readHeaders_180 (fun H locs M9 eM9 hI => ?_)
        have h := h M9 eM9
        refine lv_iconst (v := (1 : Int32)) hx hb dX5_readHeaders_183 (by decide) ?_
        exact cpzret (Z := (fun r M' L' => L' = L ∧ Z r M')) hx hb hr hlocks hK hI dX5_readHeaders_184 ⟨isB_1, ⟨rfl, h⟩⟩
      refine lv_icmp_ge (tgt := 172) hx hb dX5_readHeaders_33 (by decide) (fun c10 => ?_) (fun c10 => ?_)
      · have h := h.1 c10
        exact J172  _ _ _ h hI (lv_sub hl [0, 3, 4] rfl)
      · have h := h.2 c10
        refine lv_iload_n hx hb dX5_readHeaders_36 rfl (lv_at hl 3 rfl) ?_
        refine cpcalli_p hsz hI (va_runS (As := [.int x4]) (rest := []) ⟨hx, hb, hml, hown, hu⟩ (met_X5_isHeader l dC dI a kA t _ M7 L x4 _ h) (cwl_X5_72_S hu ⟨by decide, by decide⟩) (cppreS hK hE hsz hI) rfl rfl hl.1 rfl (lv_room (Nat.le_of_ble_eq_true rfl)) dX5_readHeaders_37 ⟨by decide, by decide⟩) (fun r11 H locs h hI => ?_)
        refine lv_if_eq (tgt := 172) hx hb dX5_readHeaders_40 (by decide) (fun c12 => ?_) (fun c12 => ?_)
        · have h := h.1 c12
          exact J172  _ _ _ h hI (lv_sub hl [0, 3, 4] rfl)
        · have h := h.2 c12
          refine lv_aload_n hx hb dX5_readHeaders_43 rfl (lv_at hl 0 rfl) ?_
          refine va_get (D := (dC, dI)) (ci := 4) (v := .int (M7 13 6)) (C := RX5) (T := TX5) (N := 16) hx hb hu uX5 hown hK hI.1 13 rfl rfl 6 (by decide) (hu _ uww_178) (u_same (hu _ uww_179)) rfl dX5_readHeaders_44 ?_
          refine lv_if_ne (tgt := 172) hx hb dX5_readHeaders_47 (by decide) (fun c13 => ?_) (fun c13 => ?_)
          · have h := h.1 c13
            exact J172  _ _ _ h hI (lv_sub hl [0, 3, 4] rfl)
          · have h := h.2 c13
            refine lv_iload_n hx hb dX5_readHeaders_50 rfl (lv_at hl 3 rfl) ?_
            refine lv_bipush (v := (44 : Int32)) hx hb dX5_readHeaders_51 (by decide) ?_
            obtain ⟨K75, hK75, h⟩ := h
            have J75 : ∀ (v14 : Int32) (H : Heap) (locs : List Loc) (ls : Array Slot), K75 v14 → cpI dC dI a kA (cpA a sz) s M7 L H locs → lv_has ls 7 [(0, .ref (a 13)), (1, .ref (a 1)), (2, .int p2), (3, .int x4), (4, .int x5), (5, .int x6)] → W p l e rm_X5_readHeaders_13_1 s m (av_X5_readHeaders_13_1 a t p2).toArray below meth c H locs 0 0 (MQ below (qc_X5_readHeaders_13_1 dC dI a kA sz M L Z) (av_X5_readHeaders_13_1 a t p2).toArray s 0 0 (cpA a sz)) (F0 m 75 ls [.int v14]) := by
              intro v14 H locs ls h hI hl
              have h := hK75 v14 h
              refine lv_istore (lv' := [(6, .int v14), (0, .ref (a 13)), (1, .ref (a 1)), (2, .int p2), (3, .int x4), (4, .int x5), (5, .int x6)]) hx hb dX5_readHeaders_75 hl (by decide) rfl (fun ls hl => ?_)
              refine lv_iload hx hb dX5_readHeaders_77 (lv_at hl 5 rfl) ?_
              refine lv_iload hx hb dX5_readHeaders_79 (lv_at hl 0 rfl) ?_
              refine lv_iadd hx hb dX5_readHeaders_81 ?_
              refine lv_iload_n hx hb dX5_readHeaders_82 rfl (lv_at hl 3 rfl) ?_
              refine lv_icmp_gt (tgt := 99) hx hb dX5_readHeaders_83 (by decide) (fun c15 => ?_) (fun c15 => ?_)
              · have h := h.1 c15
                refine lv_iconst (v := (0 : Int32)) hx hb dX5_readHeaders_99 (by decide) ?_
                exact cpzret (Z := (fun r M' L' => L' = L ∧ Z r M')) hx hb hr hlocks hK hI dX5_readHeaders_100 ⟨isB_0, ⟨rfl, h⟩⟩
              · have h := h.2 c15
                refine lv_iload_n hx hb dX5_readHeaders_86 rfl (lv_at hl 4 rfl) ?_
                refine lv_bipush (v := (44 : Int32)) hx hb dX5_readHeaders_87 (by decide) ?_
                obtain ⟨K101, hK101, h⟩ := h
                have J101 : ∀  (H : Heap) (locs : List Loc) (ls : Array Slot), K101  → cpI dC dI a kA (cpA a sz) s M7 L H locs → lv_has ls 7 [(0, .ref (a 13)), (1, .ref (a 1)), (2, .int p2), (3, .int x4), (4, .int x5), (5, .int x6), (6, .int v14)] → W p l e rm_X5_readHeaders_13_1 s m (av_X5_readHeaders_13_1 a t p2).toArray below meth c H locs 0 0 (MQ below (qc_X5_readHeaders_13_1 dC dI a kA sz M L Z) (av_X5_readHeaders_13_1 a t p2).toArray s 0 0 (cpA a sz)) (F0 m 101 ls []) := by
                  intro  H locs ls h hI hl
                  have h := hK101  h
                  refine lv_iload_n hx hb dX5_readHeaders_101 rfl (lv_at hl 3 rfl) ?_
                  refine lv_bipush (v := (44 : Int32)) hx hb dX5_readHeaders_102 (by decide) ?_
                  obtain ⟨K114, hK114, h⟩ := h
                  have J114 : ∀ (M16 : cM) (H : Heap) (locs : List Loc) (ls : Array Slot), K114 M16 → cpI dC dI a kA (cpA a sz) s M16 L H locs → lv_has ls 7 [(0, .ref (a 13)), (1, .ref (a 1)), (2, .int p2), (3, .int x4), (4, .int x5), (5, .int x6), (6, .int v14)] → W p l e rm_X5_readHeaders_13_1 s m (av_X5_readHeaders_13_1 a t p2).toArray below meth c H locs 0 0 (MQ below (qc_X5_readHeaders_13_1 dC dI a kA sz M L Z) (av_X5_readHeaders_13_1 a t p2).toArray s 0 0 (cpA a sz)) (F0 m 114 ls []) := by
                    intro M16 H locs ls h hI hl
                    have h := hK114 M16 h
                    refine lv_iload_n hx hb dX5_readHeaders_114 rfl (lv_at hl 3 rfl) ?_
                    refine lv_bipush (v := (43 : Int32)) hx hb dX5_readHeaders_115 (by decide) ?_
                    obtain ⟨K152, hK152, h⟩ := h
                    have J152 : ∀ (M17 : cM) (H : Heap) (locs : List Loc) (ls : Array Slot), K152 M17 → cpI dC dI a kA (cpA a sz) s M17 L H locs → lv_has ls 7 [(0, .ref (a 13)), (1, .ref (a 1)), (2, .int p2), (4, .int x5), (5, .int x6), (6, .int v14)] → W p l e rm_X5_readHeaders_13_1 s m (av_X5_readHeaders_13_1 a t p2).toArray below meth c H locs 0 0 (MQ below (qc_X5_readHeaders_13_1 dC dI a kA sz M L Z) (av_X5_readHeaders_13_1 a t p2).toArray s 0 0 (cpA a sz)) (F0 m 152 ls []) := by
                      intro M17 H locs ls h hI hl
                      have h := hK152 M17 h
                      refine lv_aload_n hx hb dX5_readHeaders_152 rfl (lv_at hl 1 rfl) ?_
                      refine lv_iload hx hb dX5_readHeaders_153 (lv_at hl 3 rfl) ?_
                      refine cpcalli_p hsz hI (va_runV (As := [.int x5]) (rest := []) ⟨hx, hb, hml, hown, hu⟩ (met_X4_at_1 l dC dI a kA t _ M17 L x5 _ h) (cwl_X5_34_X4 hu ⟨by decide, by decide⟩) (cppre (ci := 3) hK hE hsz hI rfl rfl) rfl rfl hl.1 rfl (lv_room (Nat.le_of_ble_eq_true rfl)) dX5_readHeaders_155 ⟨by decide, by decide⟩) (fun r18 H locs h hI => ?_)
                      refine lv_istore_n (lv' := [(3, .int r18), (0, .ref (a 13)), (1, .ref (a 1)), (2, .int p2), (4, .int x5), (5, .int x6), (6, .int v14)]) hx hb dX5_readHeaders_158 rfl hl (by decide) rfl (fun ls hl => ?_)
                      refine lv_iload hx hb dX5_readHeaders_159 (lv_at hl 4 rfl) ?_
                      refine lv_iload hx hb dX5_readHeaders_161 (lv_at hl 6 rfl) ?_
                      refine lv_iadd hx hb dX5_readHeaders_163 ?_
                      refine lv_topi (fun x19 ex19 => ?_)
                      have h := h x19 ex19
                      refine lv_istore (lv' := [(4, .int x19), (3, .int r18), (0, .ref (a 13)), (1, .ref (a 1)), (2, .int p2), (5, .int x6), (6, .int v14)]) hx hb dX5_readHeaders_164 hl (by decide) rfl (fun ls hl => ?_)
                      obtain ⟨x20, ex20⟩ : ∃ y : Int32, y = (x6 + (1 : Int32)) := ⟨_, rfl⟩
                      have h := h x20 ex20
                      refine lv_iinc (v := x20) (lv' := [(5, .int x20), (4, .int x19), (3, .int r18), (0, .ref (a 13)), (1, .ref (a 1)), (2, .int p2), (6, .int v14)]) hx hb dX5_readHeaders_166 hl (k := 5) rfl (by rw [ex20]; rfl) (by decide) rfl (fun ls hl => ?_)
                      refine lv_goto (tgt := 28) hx hb dX5_readHeaders_169 (by decide) ?_
                      exact ih28 r18 x19 x20 M17 _ _ _ h.1 (Nat.lt_of_lt_of_le h.2 (Nat.le_of_lt_succ hn28)) hI (lv_sub hl [3, 4, 5, 2, 1, 0] rfl)
                    refine lv_icmp_ne (tgt := 152) hx hb dX5_readHeaders_117 (by decide) (fun c21 => ?_) (fun c21 => ?_)
                    · have h := h.1 c21
                      exact J152 M16 _ _ _ h hI (lv_sub hl [0, 1, 2, 4, 5, 6] rfl)
                    · have h := h.2 c21
                      refine lv_aload_n hx hb dX5_readHeaders_120 rfl (lv_at hl 0 rfl) ?_
                      refine va_get (D := (dC, dI)) (ci := 4) (v := .int (M16 13 15)) (C := RX5) (T := TX5) (N := 16) hx hb hu uX5 hown hK hI.1 13 rfl rfl 15 (by decide) (hu _ uww_181) (fun _ h9 => h9) rfl dX5_readHeaders_121 ?_
                      refine lv_iconst (v := (-1 : Int32)) hx hb dX5_readHeaders_124 (by decide) ?_
                      refine lv_icmp_ne (tgt := 152) hx hb dX5_readHeaders_125 (by decide) (fun c22 => ?_) (fun c22 => ?_)
                      · have h := h.1 c22
                        exact J152 M16 _ _ _ h hI (lv_sub hl [0, 1, 2, 4, 5, 6] rfl)
                      · have h := h.2 c22
                        refine lv_aload_n hx hb dX5_readHeaders_128 rfl (lv_at hl 1 rfl) ?_
                        refine lv_iload hx hb dX5_readHeaders_129 (lv_at hl 4 rfl) ?_
                        refine lv_iconst (v := (3 : Int32)) hx hb dX5_readHeaders_131 (by decide) ?_
                        refine lv_iadd hx hb dX5_readHeaders_132 ?_
                        refine cpcalli_p hsz hI (va_runV (As := [.int (x5 + (3 : Int32))]) (rest := []) ⟨hx, hb, hml, hown, hu⟩ (met_X4_at_1 l dC dI a kA t _ M16 L (x5 + (3 : Int32)) _ h) (cwl_X5_34_X4 hu ⟨by decide, by decide⟩) (cppre (ci := 3) hK hE hsz hI rfl rfl) rfl rfl hl.1 rfl (lv_room (Nat.le_of_ble_eq_true rfl)) dX5_readHeaders_133 ⟨by decide, by decide⟩) (fun r23 H locs h hI => ?_)
                        refine lv_if_eq (tgt := 152) hx hb dX5_readHeaders_136 (by decide) (fun c24 => ?_) (fun c24 => ?_)
                        · have h := h.1 c24
                          exact J152 M16 _ _ _ h hI (lv_sub hl [0, 1, 2, 4, 5, 6] rfl)
                        · have h := h.2 c24
                          refine lv_aload_n hx hb dX5_readHeaders_139 rfl (lv_at hl 0 rfl) ?_
                          refine lv_iload hx hb dX5_readHeaders_140 (lv_at hl 4 rfl) ?_
                          refine lv_iconst (v := (3 : Int32)) hx hb dX5_readHeaders_142 (by decide) ?_
                          refine lv_iadd hx hb dX5_readHeaders_143 ?_
                          refine lv_aload_n hx hb dX5_readHeaders_144 rfl (lv_at hl 0 rfl) ?_
                          refine va_get (D := (dC, dI)) (ci := 4) (v := .int (M16 13 0)) (C := RX5) (T := TX5) (N := 16) hx hb hu uX5 hown hK hI.1 13 rfl rfl 0 (by decide) (hu _ uww_159) (u_same (hu _ uww_160)) rfl dX5_readHeaders_145 ?_
                          refine lv_isub hx hb dX5_readHeaders_148 ?_
                          refine cpput (ci := 4) (C := RX5) (T := TX5) (N := 16) (ty := .int) hx hb hu uX5 tyX5 tyX5_ok nmX5 hown hK hI 13 rfl rfl 15 (by decide) (hu _ uww_181) (fun _ h9 => h9) rfl (by decide +kernel) rfl rfl (Nat.le_of_ble_eq_true rfl) (cpset_13_15 _ _ _ _ _) dX5_readHeaders_149 (fun H locs M25 eM25 hI => ?_)
                          have h := h M25 eM25
                          exact J152 M25 _ _ _ h hI (lv_sub hl [0, 1, 2, 4, 5, 6] rfl)
                  refine lv_icmp_ne (tgt := 114) hx hb dX5_readHeaders_104 (by decide) (fun c26 => ?_) (fun c26 => ?_)
                  · have h := h.1 c26
                    exact J114 M7 _ _ _ h hI (lv_sub hl [0, 1, 2, 3, 4, 5, 6] rfl)
                  · have h := h.2 c26
                    refine lv_aload_n hx hb dX5_readHeaders_107 rfl (lv_at hl 0 rfl) ?_
                    refine lv_aload_n hx hb dX5_readHeaders_108 rfl (lv_at hl 1 rfl) ?_
                    refine lv_iload hx hb dX5_readHeaders_109 (lv_at hl 4 rfl) ?_
                    refine cpcallv_m hsz hI (va_runV (As := [.ref (a 1), .int x5]) (rest := []) ⟨hx, hb, hml, hown, hu⟩ (met_X5_readFragmentHeader_13_1 l dC dI a kA t _ M7 L x5 _ h) (cwl_X5_82_X5 hu ⟨by decide, by decide⟩) (cppre (ci := 4) hK hE hsz hI rfl rfl) rfl rfl hl.1 rfl (lv_room (Nat.le_of_ble_eq_true rfl)) dX5_readHeaders_111 ⟨by decide, by decide⟩) (fun M27 H locs h hI => ?_)
                    exact J114 M27 _ _ _ h hI (lv_sub hl [0, 1, 2, 3, 4, 5, 6] rfl)
                refine lv_icmp_ne (tgt := 101) hx hb dX5_readHeaders_89 (by decide) (fun c28 => ?_) (fun c28 => ?_)
                · have h := h.1 c28
                  exact J101  _ _ _ h hI (lv_sub hl [1, 2, 3, 4, 5, 6, 0] rfl)
                · have h := h.2 c28
                  refine lv_aload_n hx hb dX5_readHeaders_92 rfl (lv_at hl 1 rfl) ?_
                  refine va_get (D := (dC, dI)) (ci := 4) (v := .int (M7 13 14)) (C := RX5) (T := TX5) (N := 16) hx hb hu uX5 hown hK hI.1 13 rfl rfl 14 (by decide) (hu _ uww_180) (fun _ h9 => h9) rfl dX5_readHeaders_93 ?_
                  refine lv_if_eq (tgt := 101) hx hb dX5_readHeaders_96 (by decide) (fun c29 => ?_) (fun c29 => ?_)
                  · have h := h.1 c29
                    exact J101  _ _ _ h hI (lv_sub hl [1, 2, 3, 4, 5, 6, 0] rfl)
                  · have h := h.2 c29
                    refine lv_iconst (v := (0 : Int32)) hx hb dX5_readHeaders_99 (by decide) ?_
                    exact cpzret (Z := (fun r M' L' => L' = L ∧ Z r M')) hx hb hr hlocks hK hI dX5_readHeaders_100 ⟨isB_0, ⟨rfl, h⟩⟩
            refine lv_icmp_ne (tgt := 61) hx hb dX5_readHeaders_53 (by decide) (fun c30 => ?_) (fun c30 => ?_)
            · have h := h.1 c30
              refine lv_bipush (v := (8 : Int32)) hx hb dX5_readHeaders_61 (by decide) ?_
              refine lv_bipush (v := (8 : Int32)) hx hb dX5_readHeaders_63 (by decide) ?_
              refine lv_aload_n hx hb dX5_readHeaders_65 rfl (lv_at hl 1 rfl) ?_
              refine lv_iload hx hb dX5_readHeaders_66 (lv_at hl 4 rfl) ?_
              refine lv_iconst (v := (1 : Int32)) hx hb dX5_readHeaders_68 (by decide) ?_
              refine lv_iadd hx hb dX5_readHeaders_69 ?_
              refine cpcalli_p hsz hI (va_runV (As := [.int (x5 + (1 : Int32))]) (rest := [.int (8 : Int32), .int (8 : Int32)]) ⟨hx, hb, hml, hown, hu⟩ (met_X4_at_1 l dC dI a kA t _ M7 L (x5 + (1 : Int32)) _ h) (cwl_X5_34_X4 hu ⟨by decide, by decide⟩) (cppre (ci := 3) hK hE hsz hI rfl rfl) rfl rfl hl.1 rfl (lv_room (Nat.le_of_ble_eq_true rfl)) dX5_readHeaders_70 ⟨by decide, by decide⟩) (fun r31 H locs h hI => ?_)
              refine lv_imul hx hb dX5_readHeaders_73 ?_
              refine lv_iadd hx hb dX5_readHeaders_74 ?_
              exact J75 ((8 : Int32) + ((8 : Int32) * r31)) _ _ _ h hI (lv_sub hl [0, 1, 2, 3, 4, 5] rfl)
            · have h := h.2 c30
              refine lv_bipush (v := (8 : Int32)) hx hb dX5_readHeaders_56 (by decide) ?_
              refine lv_goto (tgt := 75) hx hb dX5_readHeaders_58 (by decide) ?_
              exact J75 (8 : Int32) _ _ _ h hI (lv_sub hl [0, 1, 2, 3, 4, 5] rfl)
  exact P28 (m28 r1 x2 (0 : Int32) M3 + 1) r1 x2 (0 : Int32) M3 _ _ _ h (Nat.lt_succ_self _) hI (lv_sub hl [3, 4, 5, 2, 1, 0] rfl)

abbrev rm_X5_read_13_1 : Room := { frames := 3, cells := 0, slots := 0, locals := 70 }
abbrev av_X5_read_13_1 (a t : Nat → Nat) (p2 : Int32) (p3 : Int32) : List Value := [.ref (a 13), .ref (a 1), .int p2, .int p3]
abbrev qc_X5_read_13_1 (dC : Nat → ClassId) (dI : Nat → Nat → Nat) (a : Nat → Nat) (kA : Nat → ClassId) (sz : Nat) (M : cM) (L : cL) (Z : Int32 → cM → cL → Prop) : Array Value → State → Outcome → State → Prop := va_Qi (fun r (u : cM × cL) => Z r u.1 u.2) (cpAt dC dI a kA (cpA a sz)) (cpA a sz)
set_option maxHeartbeats 4000000 in
set_option maxRecDepth 100000 in
theorem met_X5_read_13_1 (l : Launch) (dC : Nat → ClassId) (dI : Nat → Nat → Nat) (a : Nat → Nat) (kA : Nat → ClassId) (t : Nat → Nat) (sz : Nat) (M : cM) (L : cL) (p2 : Int32) (p3 : Int32) (Z : Int32 → cM → cL → Prop) (h : wp_X5_read_13_1 M L p2 p3 Z) : Met l yX5_read (Cond.code yX5_read cX5_read 6 (some .boolean) :: uW) rm_X5_read_13_1 (va_Pc (av_X5_read_13_1 a t p2 p3) (cpPre dC dI a kA t M L sz)) (qc_X5_read_13_1 dC dI a kA sz M L Z) 0 0 (cpA a sz) := by
  refine cpenter (cc := cX5_read) (n := 6) (ret := (some .boolean)) (by decide) rfl (Nat.le_of_ble_eq_true rfl) ?_
  intro p e s m below meth c ls hx hb hml hr hlocks hown hts hK hE hsz hI hl hmn
  have hu : ∀ w ∈ uW, w.before (av_X5_read_13_1 a t p2 p3).toArray s = true := fun w h => hts w (List.mem_cons_of_mem _ h)
  have hown : s.vm.findClass RX5 = some m.cls := hown
  have hl : lv_has ls 6 [(0, .ref (a 13)), (1, .ref (a 1)), (2, .int p2), (3, .int p3)] := hl
  unfold wp_X5_read_13_1 at h
  refine lv_iload_n hx hb dX5_read_0 rfl (lv_at hl 3 rfl) ?_
  refine lv_iload_n hx hb dX5_read_1 rfl (lv_at hl 2 rfl) ?_
  refine lv_isub hx hb dX5_read_2 ?_
  refine lv_bipush (v := (40 : Int32)) hx hb dX5_read_3 (by decide) ?_
  refine lv_icmp_lt (tgt := 20) hx hb dX5_read_5 (by decide) (fun c1 => ?_) (fun c1 => ?_)
  · have h := h.1 c1
    refine lv_iconst (v := (0 : Int32)) hx hb dX5_read_20 (by decide) ?_
    exact cpzret (Z := (fun r M' L' => Z r M' L')) hx hb hr hlocks hK hI dX5_read_21 ⟨isB_0, h⟩
  · have h := h.2 c1
    refine lv_aload_n hx hb dX5_read_8 rfl (lv_at hl 1 rfl) ?_
    refine lv_iload_n hx hb dX5_read_9 rfl (lv_at hl 2 rfl) ?_
    refine cpcalli_p hsz hI (va_runV (As := [.int p2]) (rest := []) ⟨hx, hb, hml, hown, hu⟩ (met_X4_at_1 l dC dI a kA t _ M L p2 _ h) (cwl_X5_34_X4 hu ⟨by decide, by decide⟩) (cppre (ci := 3) hK hE hsz hI rfl rfl) rfl rfl hl.1 rfl (lv_room (Nat.le_of_ble_eq_true rfl)) dX5_read_10 ⟨by decide, by decide⟩) (fun r2 H locs h hI => ?_)
    refine lv_iconst (v := (4 : Int32)) hx hb dX5_read_13 (by decide) ?_
    refine lv_ishr hx hb dX5_read_14 ?_
    refine lv_bipush (v := (6 : Int32)) hx hb dX5_read_15 (by decide) ?_
    refine lv_icmp_eq (tgt := 22) hx hb dX5_read_17 (by decide) (fun c3 => ?_) (fun c3 => ?_)
    · have h := h.1 c3
      refine lv_aload_n hx hb dX5_read_22 rfl (lv_at hl 0 rfl) ?_
      refine lv_iload_n hx hb dX5_read_23 rfl (lv_at hl 2 rfl) ?_
      refine cpput (ci := 4) (C := RX5) (T := TX5) (N := 16) (ty := .int) hx hb hu uX5 tyX5 tyX5_ok nmX5 hown hK hI 13 rfl rfl 0 (by decide) (hu _ uww_159) (u_same (hu _ uww_160)) rfl (by decide +kernel) rfl rfl (Nat.le_of_ble_eq_true rfl) (cpset_13_0 _ _ _ _ _) dX5_read_24 (fun H locs M4 eM4 hI => ?_)
      have h := h M4 eM4
      refine lv_aload_n hx hb dX5_read_27 rfl (lv_at hl 0 rfl) ?_
      refine lv_aload_n hx hb dX5_read_28 rfl (lv_at hl 1 rfl) ?_
      refine lv_iload_n hx hb dX5_read_29 rfl (lv_at hl 2 rfl) ?_
      refine cpcalli_p hsz hI (va_runV (As := [.int p2]) (rest := [.ref (a 13)]) ⟨hx, hb, hml, hown, hu⟩ (met_X4_word_1 l dC dI a kA t _ M4 L p2 _ h) (cwl_X5_15_X4 hu ⟨by decide, by decide⟩) (cppre (ci := 3) hK hE hsz hI rfl rfl) rfl rfl hl.1 rfl (lv_room (Nat.le_of_ble_eq_true rfl)) dX5_read_30 ⟨by decide, by decide⟩) (fun r5 H locs h hI => ?_)
      refine lv_iconst (v := (4 : Int32)) hx hb dX5_read_33 (by decide) ?_
      refine lv_ishr hx hb dX5_read_34 ?_
      refine lv_sipush (v := (255 : Int32)) hx hb dX5_read_35 (by decide) ?_
      refine lv_iand hx hb dX5_read_38 ?_
      refine cpput (ci := 4) (C := RX5) (T := TX5) (N := 16) (ty := .int) hx hb hu uX5 tyX5 tyX5_ok nmX5 hown hK hI 13 rfl rfl 1 (by decide) (hu _ uww_161) (u_same (hu _ uww_162)) rfl (by decide +kernel) rfl rfl (Nat.le_of_ble_eq_true rfl) (cpset_13_1 _ _ _ _ _) dX5_read_39 (fun H locs M6 eM6 hI => ?_)
      have h := h M6 eM6
      refine lv_aload_n hx hb dX5_read_42 rfl (lv_at hl 0 rfl) ?_
      refine lv_aload_n hx hb dX5_read_43 rfl (lv_at hl 1 rfl) ?_
      refine lv_iload_n hx hb dX5_read_44 rfl (lv_at hl 2 rfl) ?_
      refine lv_bipush (v := (7 : Int32)) hx hb dX5_read_45 (by decide) ?_
      refine lv_iadd hx hb dX5_read_47 ?_
      refine cpcalli_p hsz hI (va_runV (As := [.int (p2 + (7 : Int32))]) (rest := [.ref (a 13)]) ⟨hx, hb, hml, hown, hu⟩ (met_X4_at_1 l dC dI a kA t _ M6 L (p2 + (7 : Int32)) _ h) (cwl_X5_34_X4 hu ⟨by decide, by decide⟩) (cppre (ci := 3) hK hE hsz hI rfl rfl) rfl rfl hl.1 rfl (lv_room (Nat.le_of_ble_eq_true rfl)) dX5_read_48 ⟨by decide, by decide⟩) (fun r7 H locs h hI => ?_)
      refine cpput (ci := 4) (C := RX5) (T := TX5) (N := 16) (ty := .int) hx hb hu uX5 tyX5 tyX5_ok nmX5 hown hK hI 13 rfl rfl 2 (by decide) (hu _ uww_163) (u_same (hu _ uww_164)) rfl (by decide +kernel) rfl rfl (Nat.le_of_ble_eq_true rfl) (cpset_13_2 _ _ _ _ _) dX5_read_51 (fun H locs M8 eM8 hI => ?_)
      have h := h M8 eM8
      refine lv_aload_n hx hb dX5_read_54 rfl (lv_at hl 0 rfl) ?_
      refine lv_aload_n hx hb dX5_read_55 rfl (lv_at hl 1 rfl) ?_
      refine lv_iload_n hx hb dX5_read_56 rfl (lv_at hl 2 rfl) ?_
      refine lv_bipush (v := (8 : Int32)) hx hb dX5_read_57 (by decide) ?_
      refine lv_iadd hx hb dX5_read_59 ?_
      refine lv_iload_n hx hb dX5_read_60 rfl (lv_at hl 2 rfl) ?_
      refine lv_bipush (v := (40 : Int32)) hx hb dX5_read_61 (by decide) ?_
      refine lv_iadd hx hb dX5_read_63 ?_
      refine cpcalll_p hsz hI (va_runV (As := [.int (p2 + (8 : Int32)), .int (p2 + (40 : Int32))]) (rest := [.ref (a 13)]) ⟨hx, hb, hml, hown, hu⟩ (met_X4_sum_1 l dC dI a kA t _ M8 L (p2 + (8 : Int32)) (p2 + (40 : Int32)) _ h) (cwl_X5_45_X4 hu ⟨by decide, by decide⟩) (cppre (ci := 3) hK hE hsz hI rfl rfl) rfl rfl hl.1 rfl (lv_room (Nat.le_of_ble_eq_true rfl)) dX5_read_64 ⟨by decide, by decide⟩) (fun r9 H locs h hI => ?_)
      refine cpputl (ci := 4) (C := RX5) (T := TX5) (N := 16) (ty := .long) hx hb hu uX5 tyX5 tyX5_ok nmX5 hown hK hI 13 rfl rfl 13 (by decide) (hu _ uww_165) (u_same (hu _ uww_166)) rfl (by decide +kernel) rfl rfl (Nat.le_of_ble_eq_true rfl) (cpset_13_13 _ _ _ _ _) dX5_read_67 (fun H locs L10 eL10 hI => ?_)
      have h := h L10 eL10
      refine lv_iload_n hx hb dX5_read_70 rfl (lv_at hl 2 rfl) ?_
      refine lv_bipush (v := (40 : Int32)) hx hb dX5_read_71 (by decide) ?_
      refine lv_iadd hx hb dX5_read_73 ?_
      refine lv_aload_n hx hb dX5_read_74 rfl (lv_at hl 1 rfl) ?_
      refine lv_iload_n hx hb dX5_read_75 rfl (lv_at hl 2 rfl) ?_
      refine lv_iconst (v := (4 : Int32)) hx hb dX5_read_76 (by decide) ?_
      refine lv_iadd hx hb dX5_read_77 ?_
      refine cpcalli_p hsz hI (va_runV (As := [.int (p2 + (4 : Int32))]) (rest := [.int (p2 + (40 : Int32))]) ⟨hx, hb, hml, hown, hu⟩ (met_X4_word_1 l dC dI a kA t _ M8 L10 (p2 + (4 : Int32)) _ h) (cwl_X5_15_X4 hu ⟨by decide, by decide⟩) (cppre (ci := 3) hK hE hsz hI rfl rfl) rfl rfl hl.1 rfl (lv_room (Nat.le_of_ble_eq_true rfl)) dX5_read_78 ⟨by decide, by decide⟩) (fun r11 H locs h hI => ?_)
      refine lv_iadd hx hb dX5_read_81 ?_
      refine lv_topi (fun x12 ex12 => ?_)
      have h := h x12 ex12
      refine lv_istore (lv' := [(4, .int x12), (0, .ref (a 13)), (1, .ref (a 1)), (2, .int p2), (3, .int p3)]) hx hb dX5_read_82 hl (by decide) rfl (fun ls hl => ?_)
      refine lv_iload_n hx hb dX5_read_84 rfl (lv_at hl 4 rfl) ?_
      refine lv_iload hx hb dX5_read_85 (lv_at hl 0 rfl) ?_
      refine va_mmin hx hb (hml.trans hl.1.symm) hown (hu _ uww_167) (hu _ uww_42) (hu _ uww_43) (hu _ uww_44) (Nat.le_of_ble_eq_true rfl) (Nat.le_of_ble_eq_true rfl) (Nat.le_of_ble_eq_true rfl) (Nat.le_of_ble_eq_true rfl) dX5_read_87 ?_
      refine lv_topi (fun x13 ex13 => ?_)
      have h := h x13 ex13
      refine lv_istore (lv' := [(5, .int x13), (4, .int x12), (0, .ref (a 13)), (1, .ref (a 1)), (2, .int p2), (3, .int p3)]) hx hb dX5_read_90 hl (by decide) rfl (fun ls hl => ?_)
      refine lv_aload_n hx hb dX5_read_92 rfl (lv_at hl 2 rfl) ?_
      refine lv_aload_n hx hb dX5_read_93 rfl (lv_at hl 3 rfl) ?_
      refine lv_iload hx hb dX5_read_94 (lv_at hl 0 rfl) ?_
      refine cpcalli_m hsz hI (va_runV (As := [.ref (a 1), .int x13]) (rest := []) ⟨hx, hb, hml, hown, hu⟩ (met_X5_readHeaders_13_1 l dC dI a kA t _ M8 L10 x13 _ h) (cwl_X5_59_X5 hu ⟨by decide, by decide⟩) (cppre (ci := 4) hK hE hsz hI rfl rfl) rfl rfl hl.1 rfl (lv_room (Nat.le_of_ble_eq_true rfl)) dX5_read_96 ⟨by decide, by decide⟩) (fun r14 M15 H locs h hI => ?_)
      refine lv_if_ne (tgt := 104) hx hb dX5_read_99 (by decide) (fun c16 => ?_) (fun c16 => ?_)
      · have h := h.1 c16
        refine lv_aload_n hx hb dX5_read_104 rfl (lv_at hl 2 rfl) ?_
        refine lv_iload hx hb dX5_read_105 (lv_at hl 1 rfl) ?_
        refine lv_aload_n hx hb dX5_read_107 rfl (lv_at hl 2 rfl) ?_
        refine va_get (D := (dC, dI)) (ci := 4) (v := .int (M15 13 7)) (C := RX5) (T := TX5) (N := 16) hx hb hu uX5 hown hK hI.1 13 rfl rfl 7 (by decide) (hu _ uww_168) (u_same (hu _ uww_169)) rfl dX5_read_108 ?_
        refine lv_isub hx hb dX5_read_111 ?_
        refine cpput (ci := 4) (C := RX5) (T := TX5) (N := 16) (ty := .int) hx hb hu uX5 tyX5 tyX5_ok nmX5 hown hK hI 13 rfl rfl 8 (by decide) (hu _ uww_151) (u_same (hu _ uww_152)) rfl (by decide +kernel) rfl rfl (Nat.le_of_ble_eq_true rfl) (cpset_13_8 _ _ _ _ _) dX5_read_112 (fun H locs M17 eM17 hI => ?_)
        have h := h M17 eM17
        refine lv_aload_n hx hb dX5_read_115 rfl (lv_at hl 2 rfl) ?_
        refine lv_iload hx hb dX5_read_116 (lv_at hl 0 rfl) ?_
        refine lv_aload_n hx hb dX5_read_118 rfl (lv_at hl 2 rfl) ?_
        refine va_get (D := (dC, dI)) (ci := 4) (v := .int (M17 13 7)) (C := RX5) (T := TX5) (N := 16) hx hb hu uX5 hown hK hI.1 13 rfl rfl 7 (by decide) (hu _ uww_168) (u_same (hu _ uww_169)) rfl dX5_read_119 ?_
        refine lv_isub hx hb dX5_read_122 ?_
        refine cpput (ci := 4) (C := RX5) (T := TX5) (N := 16) (ty := .int) hx hb hu uX5 tyX5 tyX5_ok nmX5 hown hK hI 13 rfl rfl 9 (by decide) (hu _ uww_170) (u_same (hu _ uww_171)) rfl (by decide +kernel) rfl rfl (Nat.le_of_ble_eq_true rfl) (cpset_13_9 _ _ _ _ _) dX5_read_123 (fun H locs M18 eM18 hI => ?_)
        have h := h M18 eM18
        refine lv_iconst (v := (1 : Int32)) hx hb dX5_read_126 (by decide) ?_
        exact cpzret (Z := (fun r M' L' => Z r M' L')) hx hb hr hlocks hK hI dX5_read_127 ⟨isB_1, h⟩
      · have h := h.2 c16
        refine lv_iconst (v := (0 : Int32)) hx hb dX5_read_102 (by decide) ?_
        exact cpzret (Z := (fun r M' L' => Z r M' L')) hx hb hr hlocks hK hI dX5_read_103 ⟨isB_0, h⟩
    · have h := h.2 c3
      refine lv_iconst (v := (0 : Int32)) hx hb dX5_read_20 (by decide) ?_
      exact cpzret (Z := (fun r M' L' => Z r M' L')) hx hb hr hlocks hK hI dX5_read_21 ⟨isB_0, h⟩

abbrev rm_X2_fragment_13 : Room := { frames := 0, cells := 0, slots := 0, locals := 0 }
abbrev av_X2_fragment_13 (a t : Nat → Nat)  : List Value := [.ref (a 13)]
abbrev qc_X2_fragment_13 (dC : Nat → ClassId) (dI : Nat → Nat → Nat) (a : Nat → Nat) (kA : Nat → ClassId) (sz : Nat) (M : cM) (L : cL) (Z : Int32 → Prop) : Array Value → State → Outcome → State → Prop := va_Qi (fun r (u : cM × cL) => u.1 = M ∧ u.2 = L ∧ Z r) (cpAt dC dI a kA (cpA a sz)) (cpA a sz)
set_option maxHeartbeats 4000000 in
set_option maxRecDepth 100000 in
theorem met_X2_fragment_13 (l : Launch) (dC : Nat → ClassId) (dI : Nat → Nat → Nat) (a : Nat → Nat) (kA : Nat → ClassId) (t : Nat → Nat) (sz : Nat) (M : cM) (L : cL)  (Z : Int32 → Prop) (h : wp_X2_fragment_13 M L  Z) : Met l yX2_fragment (Cond.code yX2_fragment cX2_fragment 1 (some .boolean) :: uW) rm_X2_fragment_13 (va_Pc (av_X2_fragment_13 a t ) (cpPre dC dI a kA t M L sz)) (qc_X2_fragment_13 dC dI a kA sz M L Z) 0 0 (cpA a sz) := by
  refine cpenter (cc := cX2_fragment) (n := 1) (ret := (some .boolean)) (by decide) rfl (Nat.le_of_ble_eq_true rfl) ?_
  intro p e s m below meth c ls hx hb hml hr hlocks hown hts hK hE hsz hI hl hmn
  have hu : ∀ w ∈ uW, w.before (av_X2_fragment_13 a t ).toArray s = true := fun w h => hts w (List.mem_cons_of_mem _ h)
  have hown : s.vm.findClass RX2 = some m.cls := hown
  have hl : lv_has ls 1 [(0, .ref (a 13))] := hl
  unfold wp_X2_fragment_13 at h
  refine lv_aload_n hx hb dX2_fragment_0 rfl (lv_at hl 0 rfl) ?_
  refine va_get (D := (dC, dI)) (ci := 4) (v := .int (M 13 5)) (C := RX5) (T := TX5) (N := 16) hx hb hu uX5 hown hK hI.1 13 rfl rfl 5 (by decide) (hu _ uww_88) (fun _ h9 => h9) rfl dX2_fragment_1 ?_
  refine lv_if_ne (tgt := 14) hx hb dX2_fragment_4 (by decide) (fun c1 => ?_) (fun c1 => ?_)
  · have h := h.1 c1
    refine lv_iconst (v := (1 : Int32)) hx hb dX2_fragment_14 (by decide) ?_
    refine lv_goto (tgt := 19) hx hb dX2_fragment_15 (by decide) ?_
    exact cpzret (Z := (fun r M' L' => M' = M ∧ L' = L ∧ Z r)) hx hb hr hlocks hK hI dX2_fragment_19 ⟨isB_1, ⟨rfl, rfl, h⟩⟩
  · have h := h.2 c1
    refine lv_aload_n hx hb dX2_fragment_7 rfl (lv_at hl 0 rfl) ?_
    refine va_get (D := (dC, dI)) (ci := 4) (v := .int (M 13 6)) (C := RX5) (T := TX5) (N := 16) hx hb hu uX5 hown hK hI.1 13 rfl rfl 6 (by decide) (hu _ uww_80) (fun _ h9 => h9) rfl dX2_fragment_8 ?_
    refine lv_if_eq (tgt := 18) hx hb dX2_fragment_11 (by decide) (fun c2 => ?_) (fun c2 => ?_)
    · have h := h.1 c2
      refine lv_iconst (v := (0 : Int32)) hx hb dX2_fragment_18 (by decide) ?_
      exact cpzret (Z := (fun r M' L' => M' = M ∧ L' = L ∧ Z r)) hx hb hr hlocks hK hI dX2_fragment_19 ⟨isB_0, ⟨rfl, rfl, h⟩⟩
    · have h := h.2 c2
      refine lv_iconst (v := (1 : Int32)) hx hb dX2_fragment_14 (by decide) ?_
      refine lv_goto (tgt := 19) hx hb dX2_fragment_15 (by decide) ?_
      exact cpzret (Z := (fun r M' L' => M' = M ∧ L' = L ∧ Z r)) hx hb hr hlocks hK hI dX2_fragment_19 ⟨isB_1, ⟨rfl, rfl, h⟩⟩

abbrev rm_X2_endsTooFar_13 : Room := { frames := 1, cells := 0, slots := 0, locals := 20 }
abbrev av_X2_endsTooFar_13 (a t : Nat → Nat)  : List Value := [.ref (a 13)]
abbrev qc_X2_endsTooFar_13 (dC : Nat → ClassId) (dI : Nat → Nat → Nat) (a : Nat → Nat) (kA : Nat → ClassId) (sz : Nat) (M : cM) (L : cL) (Z : Int32 → Prop) : Array Value → State → Outcome → State → Prop := va_Qi (fun r (u : cM × cL) => u.1 = M ∧ u.2 = L ∧ Z r) (cpAt dC dI a kA (cpA a sz)) (cpA a sz)
set_option maxHeartbeats 4000000 in
set_option maxRecDepth 100000 in
theorem met_X2_endsTooFar_13 (l : Launch) (dC : Nat → ClassId) (dI : Nat → Nat → Nat) (a : Nat → Nat) (kA : Nat → ClassId) (t : Nat → Nat) (sz : Nat) (M : cM) (L : cL)  (Z : Int32 → Prop) (h : wp_X2_endsTooFar_13 M L  Z) : Met l yX2_endsTooFar (Cond.code yX2_endsTooFar cX2_endsTooFar 1 (some .boolean) :: uW) rm_X2_endsTooFar_13 (va_Pc (av_X2_endsTooFar_13 a t ) (cpPre dC dI a kA t M L sz)) (qc_X2_endsTooFar_13 dC dI a kA sz M L Z) 0 0 (cpA a sz) := by
  refine cpenter (cc := cX2_endsTooFar) (n := 1) (ret := (some .boolean)) (by decide) rfl (Nat.le_of_ble_eq_true rfl) ?_
  intro p e s m below meth c ls hx hb hml hr hlocks hown hts hK hE hsz hI hl hmn
  have hu : ∀ w ∈ uW, w.before (av_X2_endsTooFar_13 a t ).toArray s = true := fun w h => hts w (List.mem_cons_of_mem _ h)
  have hown : s.vm.findClass RX2 = some m.cls := hown
  have hl : lv_has ls 1 [(0, .ref (a 13))] := hl
  unfold wp_X2_endsTooFar_13 at h
  refine lv_aload_n hx hb dX2_endsTooFar_0 rfl (lv_at hl 0 rfl) ?_
  refine cpcalli_p hsz hI (va_runU (As := []) (rest := []) ⟨hx, hb, hml, hown, hu⟩ (met_X2_fragment_13 l dC dI a kA t _ M L  _ h) (cwl_X2_19_X5 hu ⟨by decide, by decide⟩) (cppre (ci := 4) hK hE hsz hI rfl rfl) rfl rfl hl.1 rfl (lv_room (Nat.le_of_ble_eq_true rfl)) dX2_endsTooFar_1 ⟨by decide, by decide⟩) (fun r1 H locs h hI => ?_)
  refine lv_if_eq (tgt := 28) hx hb dX2_endsTooFar_4 (by decide) (fun c2 => ?_) (fun c2 => ?_)
  · have h := h.1 c2
    refine lv_iconst (v := (0 : Int32)) hx hb dX2_endsTooFar_28 (by decide) ?_
    exact cpzret (Z := (fun r M' L' => M' = M ∧ L' = L ∧ Z r)) hx hb hr hlocks hK hI dX2_endsTooFar_29 ⟨isB_0, ⟨rfl, rfl, h⟩⟩
  · have h := h.2 c2
    refine lv_aload_n hx hb dX2_endsTooFar_7 rfl (lv_at hl 0 rfl) ?_
    refine va_get (D := (dC, dI)) (ci := 4) (v := .int (M 13 6)) (C := RX5) (T := TX5) (N := 16) hx hb hu uX5 hown hK hI.1 13 rfl rfl 6 (by decide) (hu _ uww_80) (fun _ h9 => h9) rfl dX2_endsTooFar_8 ?_
    refine lv_bipush (v := (8 : Int32)) hx hb dX2_endsTooFar_11 (by decide) ?_
    refine lv_imul hx hb dX2_endsTooFar_13 ?_
    refine lv_aload_n hx hb dX2_endsTooFar_14 rfl (lv_at hl 0 rfl) ?_
    refine va_get (D := (dC, dI)) (ci := 4) (v := .int (M 13 8)) (C := RX5) (T := TX5) (N := 16) hx hb hu uX5 hown hK hI.1 13 rfl rfl 8 (by decide) (hu _ uww_81) (fun _ h9 => h9) rfl dX2_endsTooFar_15 ?_
    refine lv_iadd hx hb dX2_endsTooFar_18 ?_
    refine lv_ldc (own := RX2) (v := (65535 : Int32)) hx hb hown (hu _ uww_82) dX2_endsTooFar_19 ?_
    refine lv_icmp_le (tgt := 28) hx hb dX2_endsTooFar_21 (by decide) (fun c3 => ?_) (fun c3 => ?_)
    · have h := h.1 c3
      refine lv_iconst (v := (0 : Int32)) hx hb dX2_endsTooFar_28 (by decide) ?_
      exact cpzret (Z := (fun r M' L' => M' = M ∧ L' = L ∧ Z r)) hx hb hr hlocks hK hI dX2_endsTooFar_29 ⟨isB_0, ⟨rfl, rfl, h⟩⟩
    · have h := h.2 c3
      refine lv_iconst (v := (1 : Int32)) hx hb dX2_endsTooFar_24 (by decide) ?_
      refine lv_goto (tgt := 29) hx hb dX2_endsTooFar_25 (by decide) ?_
      exact cpzret (Z := (fun r M' L' => M' = M ∧ L' = L ∧ Z r)) hx hb hr hlocks hK hI dX2_endsTooFar_29 ⟨isB_1, ⟨rfl, rfl, h⟩⟩

abbrev rm_X5_readWhole_13_1 : Room := { frames := 4, cells := 0, slots := 0, locals := 95 }
abbrev av_X5_readWhole_13_1 (a t : Nat → Nat)  : List Value := [.ref (a 13), .ref (a 1)]
abbrev qc_X5_readWhole_13_1 (dC : Nat → ClassId) (dI : Nat → Nat → Nat) (a : Nat → Nat) (kA : Nat → ClassId) (sz : Nat) (M : cM) (L : cL) (Z : Int32 → cM → cL → Prop) : Array Value → State → Outcome → State → Prop := va_Qi (fun r (u : cM × cL) => Z r u.1 u.2) (cpAt dC dI a kA (cpA a sz)) (cpA a sz)
set_option maxHeartbeats 4000000 in
set_option maxRecDepth 100000 in
theorem met_X5_readWhole_13_1 (l : Launch) (dC : Nat → ClassId) (dI : Nat → Nat → Nat) (a : Nat → Nat) (kA : Nat → ClassId) (t : Nat → Nat) (sz : Nat) (M : cM) (L : cL)  (Z : Int32 → cM → cL → Prop) (h : wp_X5_readWhole_13_1 M L  Z) : Met l yX5_readWhole (Cond.code yX5_readWhole cX5_readWhole 2 (some .boolean) :: uW) rm_X5_readWhole_13_1 (va_Pc (av_X5_readWhole_13_1 a t ) (cpPre dC dI a kA t M L sz)) (qc_X5_readWhole_13_1 dC dI a kA sz M L Z) 0 0 (cpA a sz) := by
  refine cpenter (cc := cX5_readWhole) (n := 2) (ret := (some .boolean)) (by decide) rfl (Nat.le_of_ble_eq_true rfl) ?_
  intro p e s m below meth c ls hx hb hml hr hlocks hown hts hK hE hsz hI hl hmn
  have hu : ∀ w ∈ uW, w.before (av_X5_readWhole_13_1 a t ).toArray s = true := fun w h => hts w (List.mem_cons_of_mem _ h)
  have hown : s.vm.findClass RX5 = some m.cls := hown
  have hl : lv_has ls 2 [(0, .ref (a 13)), (1, .ref (a 1))] := hl
  unfold wp_X5_readWhole_13_1 at h
  refine lv_aload_n hx hb dX5_readWhole_0 rfl (lv_at hl 1 rfl) ?_
  refine va_getN (D := (dC, dI)) (ci := 3) (v := .int (M 1 1)) (C := RX4) (T := TX4) (N := 2) hx hb hu uX4 hown hK hI.1 1 rfl rfl 1 (by decide) (va_Nw.use rfl (hE.1 _ cpn_0)) (fun _ h9 => h9) rfl dX5_readWhole_1 ?_
  refine lv_bipush (v := (40 : Int32)) hx hb dX5_readWhole_4 (by decide) ?_
  refine lv_icmp_lt (tgt := 37) hx hb dX5_readWhole_6 (by decide) (fun c1 => ?_) (fun c1 => ?_)
  · have h := h.1 c1
    refine lv_iconst (v := (0 : Int32)) hx hb dX5_readWhole_37 (by decide) ?_
    exact cpzret (Z := (fun r M' L' => Z r M' L')) hx hb hr hlocks hK hI dX5_readWhole_38 ⟨isB_0, h⟩
  · have h := h.2 c1
    refine lv_bipush (v := (40 : Int32)) hx hb dX5_readWhole_9 (by decide) ?_
    refine lv_aload_n hx hb dX5_readWhole_11 rfl (lv_at hl 1 rfl) ?_
    refine lv_iconst (v := (4 : Int32)) hx hb dX5_readWhole_12 (by decide) ?_
    refine cpcalli_p hsz hI (va_runV (As := [.int (4 : Int32)]) (rest := [.int (40 : Int32)]) ⟨hx, hb, hml, hown, hu⟩ (met_X4_word_1 l dC dI a kA t _ M L (4 : Int32) _ h) (cwl_X5_15_X4 hu ⟨by decide, by decide⟩) (cppre (ci := 3) hK hE hsz hI rfl rfl) rfl rfl hl.1 rfl (lv_room (Nat.le_of_ble_eq_true rfl)) dX5_readWhole_13 ⟨by decide, by decide⟩) (fun r2 H locs h hI => ?_)
    refine lv_iadd hx hb dX5_readWhole_16 ?_
    refine lv_aload_n hx hb dX5_readWhole_17 rfl (lv_at hl 1 rfl) ?_
    refine va_getN (D := (dC, dI)) (ci := 3) (v := .int (M 1 1)) (C := RX4) (T := TX4) (N := 2) hx hb hu uX4 hown hK hI.1 1 rfl rfl 1 (by decide) (va_Nw.use rfl (hE.1 _ cpn_0)) (fun _ h9 => h9) rfl dX5_readWhole_18 ?_
    refine lv_icmp_gt (tgt := 37) hx hb dX5_readWhole_21 (by decide) (fun c3 => ?_) (fun c3 => ?_)
    · have h := h.1 c3
      refine lv_iconst (v := (0 : Int32)) hx hb dX5_readWhole_37 (by decide) ?_
      exact cpzret (Z := (fun r M' L' => Z r M' L')) hx hb hr hlocks hK hI dX5_readWhole_38 ⟨isB_0, h⟩
    · have h := h.2 c3
      refine lv_aload_n hx hb dX5_readWhole_24 rfl (lv_at hl 0 rfl) ?_
      refine lv_aload_n hx hb dX5_readWhole_25 rfl (lv_at hl 1 rfl) ?_
      refine lv_iconst (v := (0 : Int32)) hx hb dX5_readWhole_26 (by decide) ?_
      refine lv_aload_n hx hb dX5_readWhole_27 rfl (lv_at hl 1 rfl) ?_
      refine va_getN (D := (dC, dI)) (ci := 3) (v := .int (M 1 1)) (C := RX4) (T := TX4) (N := 2) hx hb hu uX4 hown hK hI.1 1 rfl rfl 1 (by decide) (va_Nw.use rfl (hE.1 _ cpn_0)) (fun _ h9 => h9) rfl dX5_readWhole_28 ?_
      refine cpcalli hsz hI (va_runV (As := [.ref (a 1), .int (0 : Int32), .int (M 1 1)]) (rest := []) ⟨hx, hb, hml, hown, hu⟩ (met_X5_read_13_1 l dC dI a kA t _ M L (0 : Int32) (M 1 1) _ h) (cwl_X5_19_X5 hu ⟨by decide, by decide⟩) (cppre (ci := 4) hK hE hsz hI rfl rfl) rfl rfl hl.1 rfl (lv_room (Nat.le_of_ble_eq_true rfl)) dX5_readWhole_31 ⟨by decide, by decide⟩) (fun r4 M5 L6 H locs h hI => ?_)
      refine lv_if_ne (tgt := 39) hx hb dX5_readWhole_34 (by decide) (fun c7 => ?_) (fun c7 => ?_)
      · have h := h.1 c7
        refine lv_aload_n hx hb dX5_readWhole_39 rfl (lv_at hl 0 rfl) ?_
        refine va_get (D := (dC, dI)) (ci := 4) (v := .int (M5 13 5)) (C := RX5) (T := TX5) (N := 16) hx hb hu uX5 hown hK hI.1 13 rfl rfl 5 (by decide) (hu _ uww_149) (u_same (hu _ uww_150)) rfl dX5_readWhole_40 ?_
        obtain ⟨K56, hK56, h⟩ := h
        have J56 : ∀  (H : Heap) (locs : List Loc) (ls : Array Slot), K56  → cpI dC dI a kA (cpA a sz) s M5 L6 H locs → lv_has ls 2 [(0, .ref (a 13))] → W p l e rm_X5_readWhole_13_1 s m (av_X5_readWhole_13_1 a t ).toArray below meth c H locs 0 0 (MQ below (qc_X5_readWhole_13_1 dC dI a kA sz M L Z) (av_X5_readWhole_13_1 a t ).toArray s 0 0 (cpA a sz)) (F0 m 56 ls []) := by
          intro  H locs ls h hI hl
          have h := hK56  h
          refine lv_aload_n hx hb dX5_readWhole_56 rfl (lv_at hl 0 rfl) ?_
          refine cpcalli_p hsz hI (va_runU (As := []) (rest := []) ⟨hx, hb, hml, hown, hu⟩ (met_X2_endsTooFar_13 l dC dI a kA t _ M5 L6  _ h) (cwl_X5_30_X5 hu ⟨by decide, by decide⟩) (cppre (ci := 4) hK hE hsz hI rfl rfl) rfl rfl hl.1 rfl (lv_room (Nat.le_of_ble_eq_true rfl)) dX5_readWhole_57 ⟨by decide, by decide⟩) (fun r8 H locs h hI => ?_)
          refine lv_if_ne (tgt := 67) hx hb dX5_readWhole_60 (by decide) (fun c9 => ?_) (fun c9 => ?_)
          · have h := h.1 c9
            refine lv_iconst (v := (0 : Int32)) hx hb dX5_readWhole_67 (by decide) ?_
            exact cpzret (Z := (fun r M' L' => Z r M' L')) hx hb hr hlocks hK hI dX5_readWhole_68 ⟨isB_0, h⟩
          · have h := h.2 c9
            refine lv_iconst (v := (1 : Int32)) hx hb dX5_readWhole_63 (by decide) ?_
            refine lv_goto (tgt := 68) hx hb dX5_readWhole_64 (by decide) ?_
            exact cpzret (Z := (fun r M' L' => Z r M' L')) hx hb hr hlocks hK hI dX5_readWhole_68 ⟨isB_1, h⟩
        refine lv_if_eq (tgt := 56) hx hb dX5_readWhole_43 (by decide) (fun c10 => ?_) (fun c10 => ?_)
        · have h := h.1 c10
          exact J56  _ _ _ h hI (lv_sub hl [0] rfl)
        · have h := h.2 c10
          refine lv_aload_n hx hb dX5_readWhole_46 rfl (lv_at hl 0 rfl) ?_
          refine va_get (D := (dC, dI)) (ci := 4) (v := .int (M5 13 8)) (C := RX5) (T := TX5) (N := 16) hx hb hu uX5 hown hK hI.1 13 rfl rfl 8 (by decide) (hu _ uww_151) (u_same (hu _ uww_152)) rfl dX5_readWhole_47 ?_
          refine lv_bipush (v := (8 : Int32)) hx hb dX5_readWhole_50 (by decide) ?_
          refine lv_irem hx hb dX5_readWhole_52 (by decide) ?_
          refine lv_if_ne (tgt := 67) hx hb dX5_readWhole_53 (by decide) (fun c11 => ?_) (fun c11 => ?_)
          · have h := h.1 c11
            refine lv_iconst (v := (0 : Int32)) hx hb dX5_readWhole_67 (by decide) ?_
            exact cpzret (Z := (fun r M' L' => Z r M' L')) hx hb hr hlocks hK hI dX5_readWhole_68 ⟨isB_0, h⟩
          · have h := h.2 c11
            exact J56  _ _ _ h hI (lv_sub hl [0] rfl)
      · have h := h.2 c7
        refine lv_iconst (v := (0 : Int32)) hx hb dX5_readWhole_37 (by decide) ?_
        exact cpzret (Z := (fun r M' L' => Z r M' L')) hx hb hr hlocks hK hI dX5_readWhole_38 ⟨isB_0, h⟩

abbrev rm_X1_fourOf_10 : Room := { frames := 2, cells := 0, slots := 0, locals := 45 }
abbrev av_X1_fourOf_10 (a t : Nat → Nat) (p1 : Int64) (p3 : Int64) : List Value := [.ref (a 10), .long p1, .long p3]
abbrev qc_X1_fourOf_10 (dC : Nat → ClassId) (dI : Nat → Nat → Nat) (a : Nat → Nat) (kA : Nat → ClassId) (sz : Nat) (M : cM) (L : cL) (Z : Int64 → Prop) : Array Value → State → Outcome → State → Prop := va_Ql (fun r (u : cM × cL) => u.1 = M ∧ u.2 = L ∧ Z r) (cpAt dC dI a kA (cpA a sz)) (cpA a sz)
set_option maxHeartbeats 4000000 in
set_option maxRecDepth 100000 in
theorem met_X1_fourOf_10 (l : Launch) (dC : Nat → ClassId) (dI : Nat → Nat → Nat) (a : Nat → Nat) (kA : Nat → ClassId) (t : Nat → Nat) (sz : Nat) (M : cM) (L : cL) (p1 : Int64) (p3 : Int64) (Z : Int64 → Prop) (h : wp_X1_fourOf_10 M L p1 p3 Z) : Met l yX1_fourOf (Cond.code yX1_fourOf cX1_fourOf 9 (some .long) :: uW) rm_X1_fourOf_10 (va_Pc (av_X1_fourOf_10 a t p1 p3) (cpPre dC dI a kA t M L sz)) (qc_X1_fourOf_10 dC dI a kA sz M L Z) 0 0 (cpA a sz) := by
  refine cpenter (cc := cX1_fourOf) (n := 9) (ret := (some .long)) (by decide) rfl (Nat.le_of_ble_eq_true rfl) ?_
  intro p e s m below meth c ls hx hb hml hr hlocks hown hts hK hE hsz hI hl hmn
  have hu : ∀ w ∈ uW, w.before (av_X1_fourOf_10 a t p1 p3).toArray s = true := fun w h => hts w (List.mem_cons_of_mem _ h)
  have hown : s.vm.findClass RX1 = some m.cls := hown
  have hl : lv_has ls 9 [(0, .ref (a 10)), (1, .long p1), (3, .long p3)] := hl
  unfold wp_X1_fourOf_10 at h
  refine lv_aload_n hx hb dX1_fourOf_0 rfl (lv_at hl 0 rfl) ?_
  refine va_get (D := (dC, dI)) (ci := 1) (v := .int (M 10 2)) (C := RX1) (T := TX1) (N := 3) hx hb hu uX1 hown hK hI.1 10 rfl rfl 2 (by decide) (hu _ uww_99) (fun _ h9 => h9) rfl dX1_fourOf_1 ?_
  refine lv_bipush (v := (96 : Int32)) hx hb dX1_fourOf_4 (by decide) ?_
  obtain ⟨K29, hK29, h⟩ := h
  have J29 : ∀ (v1 : Int64) (H : Heap) (locs : List Loc) (ls : Array Slot), K29 v1 → cpI dC dI a kA (cpA a sz) s M L H locs → lv_has ls 9 [(0, .ref (a 10)), (1, .long p1), (3, .long p3)] → W p l e rm_X1_fourOf_10 s m (av_X1_fourOf_10 a t p1 p3).toArray below meth c H locs 0 0 (MQ below (qc_X1_fourOf_10 dC dI a kA sz M L Z) (av_X1_fourOf_10 a t p1 p3).toArray s 0 0 (cpA a sz)) (F0 m 29 ls [.long v1]) := by
    intro v1 H locs ls h hI hl
    have h := hK29 v1 h
    refine lv_lstore (lv' := [(5, .long v1), (0, .ref (a 10)), (1, .long p1), (3, .long p3)]) hx hb dX1_fourOf_29 hl (by decide) rfl (fun ls hl => ?_)
    refine lv_lload hx hb dX1_fourOf_31 (lv_at hl 0 rfl) ?_
    refine lv_l2i hx hb dX1_fourOf_33 rfl ?_
    refine lv_topi (fun x2 ex2 => ?_)
    have h := h x2 ex2
    refine lv_istore (lv' := [(7, .int x2), (5, .long v1), (0, .ref (a 10)), (1, .long p1), (3, .long p3)]) hx hb dX1_fourOf_34 hl (by decide) rfl (fun ls hl => ?_)
    refine lv_aload_n hx hb dX1_fourOf_36 rfl (lv_at hl 2 rfl) ?_
    refine lv_iload hx hb dX1_fourOf_37 (lv_at hl 0 rfl) ?_
    refine cpcalll_p hsz hI (va_runV (As := [.int x2]) (rest := []) ⟨hx, hb, hml, hown, hu⟩ (met_X1_upperOf_10 l dC dI a kA t _ M L x2 _ h) (cwl_X1_32_X1 hu ⟨by decide, by decide⟩) (cppre (ci := 1) hK hE hsz hI rfl rfl) rfl rfl hl.1 rfl (lv_room (Nat.le_of_ble_eq_true rfl)) dX1_fourOf_39 ⟨by decide, by decide⟩) (fun r3 H locs h hI => ?_)
    refine lv_lload_n hx hb dX1_fourOf_42 rfl (lv_at hl 3 rfl) ?_
    refine W.lcmp hx hb dX1_fourOf_43 ?_
    obtain ⟨K63, hK63, h⟩ := h
    have J63 : ∀ (v4 : Int32) (H : Heap) (locs : List Loc) (ls : Array Slot), K63 v4 → cpI dC dI a kA (cpA a sz) s M L H locs → lv_has ls 9 [(0, .ref (a 10)), (7, .int x2)] → W p l e rm_X1_fourOf_10 s m (av_X1_fourOf_10 a t p1 p3).toArray below meth c H locs 0 0 (MQ below (qc_X1_fourOf_10 dC dI a kA sz M L Z) (av_X1_fourOf_10 a t p1 p3).toArray s 0 0 (cpA a sz)) (F0 m 63 ls [.int v4]) := by
      intro v4 H locs ls h hI hl
      have h := hK63 v4 h
      refine lv_istore (lv' := [(8, .int v4), (0, .ref (a 10)), (7, .int x2)]) hx hb dX1_fourOf_63 hl (by decide) rfl (fun ls hl => ?_)
      refine lv_iload hx hb dX1_fourOf_65 (lv_at hl 0 rfl) ?_
      refine lv_if_eq (tgt := 89) hx hb dX1_fourOf_67 (by decide) (fun c5 => ?_) (fun c5 => ?_)
      · have h := h.1 c5
        refine lv_ldc2 (own := RX1) (v := (-1 : Int64)) hx hb hown (hu _ uww_113) dX1_fourOf_89 ?_
        exact cplret (Z := (fun r M' L' => M' = M ∧ L' = L ∧ Z r)) hx hb hr hlocks hK hI dX1_fourOf_92 ⟨rfl, rfl, h⟩
      · have h := h.2 c5
        refine lv_aload_n hx hb dX1_fourOf_70 rfl (lv_at hl 1 rfl) ?_
        refine lv_iload hx hb dX1_fourOf_71 (lv_at hl 2 rfl) ?_
        refine cpcalli_p hsz hI (va_runV (As := [.int x2]) (rest := []) ⟨hx, hb, hml, hown, hu⟩ (met_X1_mappable_10 l dC dI a kA t _ M L x2 _ h) (cwl_X1_39_X1 hu ⟨by decide, by decide⟩) (cppre (ci := 1) hK hE hsz hI rfl rfl) rfl rfl hl.1 rfl (lv_room (Nat.le_of_ble_eq_true rfl)) dX1_fourOf_73 ⟨by decide, by decide⟩) (fun r6 H locs h hI => ?_)
        refine lv_if_eq (tgt := 89) hx hb dX1_fourOf_76 (by decide) (fun c7 => ?_) (fun c7 => ?_)
        · have h := h.1 c7
          refine lv_ldc2 (own := RX1) (v := (-1 : Int64)) hx hb hown (hu _ uww_113) dX1_fourOf_89 ?_
          exact cplret (Z := (fun r M' L' => M' = M ∧ L' = L ∧ Z r)) hx hb hr hlocks hK hI dX1_fourOf_92 ⟨rfl, rfl, h⟩
        · have h := h.2 c7
          refine lv_iload hx hb dX1_fourOf_79 (lv_at hl 2 rfl) ?_
          refine lv_i2l hx hb dX1_fourOf_81 rfl ?_
          refine lv_ldc2 (own := RX1) (v := (4294967295 : Int64)) hx hb hown (hu _ uww_101) dX1_fourOf_82 ?_
          refine lv_land hx hb dX1_fourOf_85 ?_
          refine lv_goto (tgt := 92) hx hb dX1_fourOf_86 (by decide) ?_
          exact cplret (Z := (fun r M' L' => M' = M ∧ L' = L ∧ Z r)) hx hb hr hlocks hK hI dX1_fourOf_92 ⟨rfl, rfl, h⟩
    obtain ⟨K62, hK62, h⟩ := h
    have J62 : ∀  (H : Heap) (locs : List Loc) (ls : Array Slot), K62  → cpI dC dI a kA (cpA a sz) s M L H locs → lv_has ls 9 [(0, .ref (a 10)), (7, .int x2)] → W p l e rm_X1_fourOf_10 s m (av_X1_fourOf_10 a t p1 p3).toArray below meth c H locs 0 0 (MQ below (qc_X1_fourOf_10 dC dI a kA sz M L Z) (av_X1_fourOf_10 a t p1 p3).toArray s 0 0 (cpA a sz)) (F0 m 62 ls []) := by
      intro  H locs ls h hI hl
      have h := hK62  h
      refine lv_iconst (v := (0 : Int32)) hx hb dX1_fourOf_62 (by decide) ?_
      exact J63 (0 : Int32) _ _ _ h hI (lv_sub hl [0, 1] rfl)
    refine lv_if_ne (tgt := 62) hx hb dX1_fourOf_44 (by decide) (fun c8 => ?_) (fun c8 => ?_)
    · have h := h.1 c8
      exact J62  _ _ _ h hI (lv_sub hl [2, 0] rfl)
    · have h := h.2 c8
      refine lv_aload_n hx hb dX1_fourOf_47 rfl (lv_at hl 2 rfl) ?_
      refine lv_iload hx hb dX1_fourOf_48 (lv_at hl 0 rfl) ?_
      refine cpcalll_p hsz hI (va_runV (As := [.int x2]) (rest := []) ⟨hx, hb, hml, hown, hu⟩ (met_X1_lowerOf_10 l dC dI a kA t _ M L x2 _ h) (cwl_X1_36_X1 hu ⟨by decide, by decide⟩) (cppre (ci := 1) hK hE hsz hI rfl rfl) rfl rfl hl.1 rfl (lv_room (Nat.le_of_ble_eq_true rfl)) dX1_fourOf_50 ⟨by decide, by decide⟩) (fun r9 H locs h hI => ?_)
      refine lv_lload_n hx hb dX1_fourOf_53 rfl (lv_at hl 4 rfl) ?_
      refine W.lcmp hx hb dX1_fourOf_54 ?_
      refine lv_if_ne (tgt := 62) hx hb dX1_fourOf_55 (by decide) (fun c10 => ?_) (fun c10 => ?_)
      · have h := h.1 c10
        exact J62  _ _ _ h hI (lv_sub hl [2, 0] rfl)
      · have h := h.2 c10
        refine lv_iconst (v := (1 : Int32)) hx hb dX1_fourOf_58 (by decide) ?_
        refine lv_goto (tgt := 63) hx hb dX1_fourOf_59 (by decide) ?_
        exact J63 (1 : Int32) _ _ _ h hI (lv_sub hl [2, 0] rfl)
  refine lv_icmp_ne (tgt := 13) hx hb dX1_fourOf_6 (by decide) (fun c11 => ?_) (fun c11 => ?_)
  · have h := h.1 c11
    refine lv_lload_n hx hb dX1_fourOf_13 rfl (lv_at hl 1 rfl) ?_
    refine lv_aload_n hx hb dX1_fourOf_14 rfl (lv_at hl 0 rfl) ?_
    refine cpcalli_p hsz hI (va_runV (As := []) (rest := [.long p1]) ⟨hx, hb, hml, hown, hu⟩ (met_X1_bitsBehind_10 l dC dI a kA t _ M L  _ h) (cwl_X1_28_X1 hu ⟨by decide, by decide⟩) (cppre (ci := 1) hK hE hsz hI rfl rfl) rfl rfl hl.1 rfl (lv_room (Nat.le_of_ble_eq_true rfl)) dX1_fourOf_15 ⟨by decide, by decide⟩) (fun r12 H locs h hI => ?_)
    refine lv_lshl hx hb dX1_fourOf_18 rfl ?_
    refine lv_lload_n hx hb dX1_fourOf_19 rfl (lv_at hl 2 rfl) ?_
    refine lv_bipush (v := (56 : Int32)) hx hb dX1_fourOf_20 (by decide) ?_
    refine lv_aload_n hx hb dX1_fourOf_22 rfl (lv_at hl 0 rfl) ?_
    refine cpcalli_p hsz hI (va_runV (As := []) (rest := [.int (56 : Int32), .long p3, .long (p1 <<< (r12.toInt64 &&& 63))]) ⟨hx, hb, hml, hown, hu⟩ (met_X1_bitsBehind_10 l dC dI a kA t _ M L  _ h) (cwl_X1_28_X1 hu ⟨by decide, by decide⟩) (cppre (ci := 1) hK hE hsz hI rfl rfl) rfl rfl hl.1 rfl (lv_room (Nat.le_of_ble_eq_true rfl)) dX1_fourOf_23 ⟨by decide, by decide⟩) (fun r13 H locs h hI => ?_)
    refine lv_isub hx hb dX1_fourOf_26 ?_
    refine lv_lushr hx hb dX1_fourOf_27 rfl ?_
    refine lv_lor hx hb dX1_fourOf_28 ?_
    exact J29 ((p1 <<< (r12.toInt64 &&& 63)) ||| ((p3.toUInt64 >>> (((56 : Int32) - r13).toInt64.toUInt64 &&& Int64.toUInt64 63)).toInt64)) _ _ _ h hI (lv_sub hl [0, 1, 2] rfl)
  · have h := h.2 c11
    refine lv_lload_n hx hb dX1_fourOf_9 rfl (lv_at hl 2 rfl) ?_
    refine lv_goto (tgt := 29) hx hb dX1_fourOf_10 (by decide) ?_
    exact J29 p3 _ _ _ h hI (lv_sub hl [0, 1, 2] rfl)

abbrev rm_X5_setFour_13 : Room := { frames := 1, cells := 0, slots := 0, locals := 21 }
abbrev av_X5_setFour_13 (a t : Nat → Nat) (p1 : Int64) (p3 : Int64) : List Value := [.ref (a 13), .long p1, .long p3]
abbrev qc_X5_setFour_13 (dC : Nat → ClassId) (dI : Nat → Nat → Nat) (a : Nat → Nat) (kA : Nat → ClassId) (sz : Nat) (M : cM) (L : cL) (Z : cM → cL → Prop) : Array Value → State → Outcome → State → Prop := va_Qv (fun (u : cM × cL) => Z u.1 u.2) (cpAt dC dI a kA (cpA a sz)) (cpA a sz)
set_option maxHeartbeats 4000000 in
set_option maxRecDepth 100000 in
theorem met_X5_setFour_13 (l : Launch) (dC : Nat → ClassId) (dI : Nat → Nat → Nat) (a : Nat → Nat) (kA : Nat → ClassId) (t : Nat → Nat) (sz : Nat) (M : cM) (L : cL) (p1 : Int64) (p3 : Int64) (Z : cM → cL → Prop) (h : wp_X5_setFour_13 M L p1 p3 Z) : Met l yX5_setFour (Cond.code yX5_setFour cX5_setFour 5 none :: uW) rm_X5_setFour_13 (va_Pc (av_X5_setFour_13 a t p1 p3) (cpPre dC dI a kA t M L sz)) (qc_X5_setFour_13 dC dI a kA sz M L Z) 0 0 (cpA a sz) := by
  refine cpenter (cc := cX5_setFour) (n := 5) (ret := none) (by decide) rfl (Nat.le_of_ble_eq_true rfl) ?_
  intro p e s m below meth c ls hx hb hml hr hlocks hown hts hK hE hsz hI hl hmn
  have hu : ∀ w ∈ uW, w.before (av_X5_setFour_13 a t p1 p3).toArray s = true := fun w h => hts w (List.mem_cons_of_mem _ h)
  have hown : s.vm.findClass RX5 = some m.cls := hown
  have hl : lv_has ls 5 [(0, .ref (a 13)), (1, .long p1), (3, .long p3)] := hl
  unfold wp_X5_setFour_13 at h
  refine lv_aload_n hx hb dX5_setFour_0 rfl (lv_at hl 0 rfl) ?_
  refine lv_lload_n hx hb dX5_setFour_1 rfl (lv_at hl 1 rfl) ?_
  refine lv_l2i hx hb dX5_setFour_2 rfl ?_
  refine cpput (ci := 4) (C := RX5) (T := TX5) (N := 16) (ty := .int) hx hb hu uX5 tyX5 tyX5_ok nmX5 hown hK hI 13 rfl rfl 10 (by decide) (hu _ uww_201) (u_same (hu _ uww_202)) rfl (by decide +kernel) rfl rfl (Nat.le_of_ble_eq_true rfl) (cpset_13_10 _ _ _ _ _) dX5_setFour_3 (fun H locs M1 eM1 hI => ?_)
  have h := h M1 eM1
  refine lv_aload_n hx hb dX5_setFour_6 rfl (lv_at hl 0 rfl) ?_
  refine lv_lload_n hx hb dX5_setFour_7 rfl (lv_at hl 2 rfl) ?_
  refine lv_l2i hx hb dX5_setFour_8 rfl ?_
  refine cpput (ci := 4) (C := RX5) (T := TX5) (N := 16) (ty := .int) hx hb hu uX5 tyX5 tyX5_ok nmX5 hown hK hI 13 rfl rfl 11 (by decide) (hu _ uww_203) (u_same (hu _ uww_204)) rfl (by decide +kernel) rfl rfl (Nat.le_of_ble_eq_true rfl) (cpset_13_11 _ _ _ _ _) dX5_setFour_9 (fun H locs M2 eM2 hI => ?_)
  have h := h M2 eM2
  refine lv_aload_n hx hb dX5_setFour_12 rfl (lv_at hl 0 rfl) ?_
  refine lv_lload_n hx hb dX5_setFour_13 rfl (lv_at hl 1 rfl) ?_
  refine lv_bipush (v := (32 : Int32)) hx hb dX5_setFour_14 (by decide) ?_
  refine lv_lshl hx hb dX5_setFour_16 rfl ?_
  refine lv_lload_n hx hb dX5_setFour_17 rfl (lv_at hl 2 rfl) ?_
  refine lv_lor hx hb dX5_setFour_18 ?_
  refine cpcalll_p hsz hI (va_runSN (As := [.long ((p1 <<< ((32 : Int32).toInt64 &&& 63)) ||| p3)]) (rest := [.ref (a 13)]) ⟨hx, hb, hml, hown, hu⟩ (met_X6_wordsOf l dC dI a kA t _ M2 L ((p1 <<< ((32 : Int32).toInt64 &&& 63)) ||| p3) _ h) (cwl_X5_101_S hu ⟨by decide, by decide⟩ (hE.1 _ cpn_22)) (cppreS hK hE hsz hI) rfl rfl hl.1 rfl (lv_room (Nat.le_of_ble_eq_true rfl)) dX5_setFour_19 ⟨by decide, by decide⟩) (fun r3 H locs h hI => ?_)
  refine cpputl (ci := 4) (C := RX5) (T := TX5) (N := 16) (ty := .long) hx hb hu uX5 tyX5 tyX5_ok nmX5 hown hK hI 13 rfl rfl 12 (by decide) (hu _ uww_205) (u_same (hu _ uww_206)) rfl (by decide +kernel) rfl rfl (Nat.le_of_ble_eq_true rfl) (cpset_13_12 _ _ _ _ _) dX5_setFour_22 (fun H locs L4 eL4 hI => ?_)
  have h := h L4 eL4
  exact cpvret (Z := (fun M' L' => Z M' L')) hx hb hr hlocks hK hI dX5_setFour_25 h

abbrev rm_X6_neverFromSix : Room := { frames := 1, cells := 0, slots := 0, locals := 20 }
abbrev av_X6_neverFromSix (a t : Nat → Nat) (p0 : Int32) : List Value := [.int p0]
abbrev qc_X6_neverFromSix (dC : Nat → ClassId) (dI : Nat → Nat → Nat) (a : Nat → Nat) (kA : Nat → ClassId) (sz : Nat) (M : cM) (L : cL) (Z : Int32 → Prop) : Array Value → State → Outcome → State → Prop := va_Qi (fun r (u : cM × cL) => u.1 = M ∧ u.2 = L ∧ Z r) (cpAt dC dI a kA (cpA a sz)) (cpA a sz)
set_option maxHeartbeats 4000000 in
set_option maxRecDepth 100000 in
theorem met_X6_neverFromSix (l : Launch) (dC : Nat → ClassId) (dI : Nat → Nat → Nat) (a : Nat → Nat) (kA : Nat → ClassId) (t : Nat → Nat) (sz : Nat) (M : cM) (L : cL) (p0 : Int32) (Z : Int32 → Prop) (h : wp_X6_neverFromSix M L p0 Z) : Met l yX6_neverFromSix (Cond.code yX6_neverFromSix cX6_neverFromSix 1 (some .boolean) :: uW) rm_X6_neverFromSix (va_Pc (av_X6_neverFromSix a t p0) (cpPre dC dI a kA t M L sz)) (qc_X6_neverFromSix dC dI a kA sz M L Z) 0 0 (cpA a sz) := by
  refine cpenter (cc := cX6_neverFromSix) (n := 1) (ret := (some .boolean)) (by decide) rfl (Nat.le_of_ble_eq_true rfl) ?_
  intro p e s m below meth c ls hx hb hml hr hlocks hown hts hK hE hsz hI hl hmn
  have hu : ∀ w ∈ uW, w.before (av_X6_neverFromSix a t p0).toArray s = true := fun w h => hts w (List.mem_cons_of_mem _ h)
  have hown : s.vm.findClass RX6 = some m.cls := hown
  have hl : lv_has ls 1 [(0, .int p0)] := hl
  unfold wp_X6_neverFromSix at h
  refine lv_iload_n hx hb dX6_neverFromSix_0 rfl (lv_at hl 0 rfl) ?_
  refine cpcalli_p hsz hI (va_runS (As := [.int p0]) (rest := []) ⟨hx, hb, hml, hown, hu⟩ (met_X6_neverFromEither l dC dI a kA t _ M L p0 _ h) (cwl_X6_260_S hu ⟨by decide, by decide⟩) (cppreS hK hE hsz hI) rfl rfl hl.1 rfl (lv_room (Nat.le_of_ble_eq_true rfl)) dX6_neverFromSix_1 ⟨by decide, by decide⟩) (fun r1 H locs h hI => ?_)
  refine lv_if_ne (tgt := 12) hx hb dX6_neverFromSix_4 (by decide) (fun c2 => ?_) (fun c2 => ?_)
  · have h := h.1 c2
    refine lv_iconst (v := (1 : Int32)) hx hb dX6_neverFromSix_12 (by decide) ?_
    refine lv_goto (tgt := 17) hx hb dX6_neverFromSix_13 (by decide) ?_
    exact cpzret (Z := (fun r M' L' => M' = M ∧ L' = L ∧ Z r)) hx hb hr hlocks hK hI dX6_neverFromSix_17 ⟨isB_1, ⟨rfl, rfl, h⟩⟩
  · have h := h.2 c2
    refine lv_iload_n hx hb dX6_neverFromSix_7 rfl (lv_at hl 0 rfl) ?_
    refine lv_iconst (v := (1 : Int32)) hx hb dX6_neverFromSix_8 (by decide) ?_
    refine lv_icmp_ne (tgt := 16) hx hb dX6_neverFromSix_9 (by decide) (fun c3 => ?_) (fun c3 => ?_)
    · have h := h.1 c3
      refine lv_iconst (v := (0 : Int32)) hx hb dX6_neverFromSix_16 (by decide) ?_
      exact cpzret (Z := (fun r M' L' => M' = M ∧ L' = L ∧ Z r)) hx hb hr hlocks hK hI dX6_neverFromSix_17 ⟨isB_0, ⟨rfl, rfl, h⟩⟩
    · have h := h.2 c3
      refine lv_iconst (v := (1 : Int32)) hx hb dX6_neverFromSix_12 (by decide) ?_
      refine lv_goto (tgt := 17) hx hb dX6_neverFromSix_13 (by decide) ?_
      exact cpzret (Z := (fun r M' L' => M' = M ∧ L' = L ∧ Z r)) hx hb hr hlocks hK hI dX6_neverFromSix_17 ⟨isB_1, ⟨rfl, rfl, h⟩⟩
