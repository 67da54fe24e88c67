abbrev rm_X7_isFormed4_0 : Room := { frames := 3, cells := 0, slots := 0, locals := 63 }
abbrev av_X7_isFormed4_0 (a t : Nat → Nat) (p1 : Int32) : List Value := [.ref (a 0), .int p1]
abbrev qc_X7_isFormed4_0 (dC : Nat → ClassId) (dI : Nat → Nat → Nat) (a : Nat → Nat) (kA : Nat → ClassId) (sz : Nat) (M : cM) (L : cL) (Z : Int32 → cM → cL → Prop) : Array Value → State → Outcome → State → Prop := va_Qi (fun r (u : cM × cL) => Z r u.1 u.2) (rpAt dC dI a kA (rpA a sz)) (rpA a sz)
set_option maxHeartbeats 4000000 in
set_option maxRecDepth 100000 in
theorem met_X7_isFormed4_0 (l : Launch) (dC : Nat → ClassId) (dI : Nat → Nat → Nat) (a : Nat → Nat) (kA : Nat → ClassId) (t : Nat → Nat) (sz : Nat) (M : cM) (L : cL) (p1 : Int32) (Z : Int32 → cM → cL → Prop) (h : wp_X7_isFormed4_0 M L p1 Z) : Met l yX7_isFormed4 (Cond.code yX7_isFormed4 cX7_isFormed4 2 (some .boolean) :: uW) rm_X7_isFormed4_0 (va_Pc (av_X7_isFormed4_0 a t p1) (rpPre dC dI a kA t M L sz)) (qc_X7_isFormed4_0 dC dI a kA sz M L Z) 0 0 (rpA a sz) := by
  refine rpenter (cc := cX7_isFormed4) (n := 2) (ret := (some .boolean)) (by decide) rfl (Nat.le_of_ble_eq_true rfl) ?_
  intro p e s m below meth c ls hx hb hml hr hlocks hown hts hK hE hsz hI hl hmn
  have hu : ∀ w ∈ uW, w.before (av_X7_isFormed4_0 a t p1).toArray s = true := fun w h => hts w (List.mem_cons_of_mem _ h)
  have hown : s.vm.findClass RX7 = some m.cls := hown
  have hl : lv_has ls 2 [(0, .ref (a 0)), (1, .int p1)] := hl
  unfold wp_X7_isFormed4_0 at h
  refine lv_iload_n hx hb dX7_isFormed4_0 rfl (lv_at hl 1 rfl) ?_
  refine lv_bipush (v := (20 : Int32)) hx hb dX7_isFormed4_1 (by decide) ?_
  refine lv_icmp_lt (tgt := 20) hx hb dX7_isFormed4_3 (by decide) (fun c1 => ?_) (fun c1 => ?_)
  · have h := h.1 c1
    refine lv_iconst (v := (0 : Int32)) hx hb dX7_isFormed4_20 (by decide) ?_
    exact rpzret (Z := (fun r M' L' => Z r M' L')) hx hb hr hlocks hK hI dX7_isFormed4_21 ⟨isB_0, h⟩
  · have h := h.2 c1
    refine lv_aload_n hx hb dX7_isFormed4_6 rfl (lv_at hl 0 rfl) ?_
    refine va_get (D := (dC, dI)) (ci := 6) (v := .ref (a 1)) (C := RX7) (T := TX7) (N := 44) hx hb hu uX7 hown hK hI.1 0 rfl rfl 1 (by decide) (hu _ uww_538) (fun _ h9 => h9) rfl dX7_isFormed4_7 ?_
    refine lv_iconst (v := (0 : Int32)) hx hb dX7_isFormed4_10 (by decide) ?_
    refine rpcalli_p hsz hI (va_runS (As := [.ref (a 1), .int (0 : Int32)]) (rest := []) ⟨hx, hb, hml, hown, hu⟩ (met_X7_octetAt_1 l dC dI a kA t _ M L (0 : Int32) _ h) (cwl_X7_111_S hu ⟨by decide, by decide⟩) (rppreS hK hE hsz hI) rfl rfl hl.1 rfl (lv_room (Nat.le_of_ble_eq_true rfl)) dX7_isFormed4_11 ⟨by decide, by decide⟩) (fun r2 H locs h hI => ?_)
    refine lv_iconst (v := (4 : Int32)) hx hb dX7_isFormed4_14 (by decide) ?_
    refine lv_ishr hx hb dX7_isFormed4_15 ?_
    refine lv_iconst (v := (4 : Int32)) hx hb dX7_isFormed4_16 (by decide) ?_
    refine lv_icmp_eq (tgt := 22) hx hb dX7_isFormed4_17 (by decide) (fun c3 => ?_) (fun c3 => ?_)
    · have h := h.1 c3
      refine lv_aload_n hx hb dX7_isFormed4_22 rfl (lv_at hl 0 rfl) ?_
      refine lv_iconst (v := (0 : Int32)) hx hb dX7_isFormed4_23 (by decide) ?_
      refine rpcallv_m hsz hI (va_runV (As := [.int (0 : Int32)]) (rest := []) ⟨hx, hb, hml, hown, hu⟩ (met_X7_header4_0 l dC dI a kA t _ M L (0 : Int32) _ h) (cwl_X7_203_X7 hu ⟨by decide, by decide⟩) (rppre (ci := 6) hK hE hsz hI rfl rfl) rfl rfl hl.1 rfl (lv_room (Nat.le_of_ble_eq_true rfl)) dX7_isFormed4_24 ⟨by decide, by decide⟩) (fun M4 H locs h hI => ?_)
      refine lv_aload_n hx hb dX7_isFormed4_27 rfl (lv_at hl 0 rfl) ?_
      refine va_get (D := (dC, dI)) (ci := 6) (v := .int (M4 0 31)) (C := RX7) (T := TX7) (N := 44) hx hb hu uX7 hown hK hI.1 0 rfl rfl 31 (by decide) (hu _ uww_667) (fun _ h9 => h9) rfl dX7_isFormed4_28 ?_
      refine lv_bipush (v := (20 : Int32)) hx hb dX7_isFormed4_31 (by decide) ?_
      refine lv_icmp_lt (tgt := 63) hx hb dX7_isFormed4_33 (by decide) (fun c5 => ?_) (fun c5 => ?_)
      · have h := h.1 c5
        refine lv_iconst (v := (0 : Int32)) hx hb dX7_isFormed4_63 (by decide) ?_
        exact rpzret (Z := (fun r M' L' => Z r M' L')) hx hb hr hlocks hK hI dX7_isFormed4_64 ⟨isB_0, h⟩
      · have h := h.2 c5
        refine lv_aload_n hx hb dX7_isFormed4_36 rfl (lv_at hl 0 rfl) ?_
        refine va_get (D := (dC, dI)) (ci := 6) (v := .int (M4 0 31)) (C := RX7) (T := TX7) (N := 44) hx hb hu uX7 hown hK hI.1 0 rfl rfl 31 (by decide) (hu _ uww_667) (fun _ h9 => h9) rfl dX7_isFormed4_37 ?_
        refine lv_iload_n hx hb dX7_isFormed4_40 rfl (lv_at hl 1 rfl) ?_
        refine lv_icmp_gt (tgt := 63) hx hb dX7_isFormed4_41 (by decide) (fun c6 => ?_) (fun c6 => ?_)
        · have h := h.1 c6
          refine lv_iconst (v := (0 : Int32)) hx hb dX7_isFormed4_63 (by decide) ?_
          exact rpzret (Z := (fun r M' L' => Z r M' L')) hx hb hr hlocks hK hI dX7_isFormed4_64 ⟨isB_0, h⟩
        · have h := h.2 c6
          refine lv_aload_n hx hb dX7_isFormed4_44 rfl (lv_at hl 0 rfl) ?_
          refine va_get (D := (dC, dI)) (ci := 6) (v := .int (M4 0 32)) (C := RX7) (T := TX7) (N := 44) hx hb hu uX7 hown hK hI.1 0 rfl rfl 32 (by decide) (hu _ uww_668) (fun _ h9 => h9) rfl dX7_isFormed4_45 ?_
          refine lv_aload_n hx hb dX7_isFormed4_48 rfl (lv_at hl 0 rfl) ?_
          refine va_get (D := (dC, dI)) (ci := 6) (v := .int (M4 0 31)) (C := RX7) (T := TX7) (N := 44) hx hb hu uX7 hown hK hI.1 0 rfl rfl 31 (by decide) (hu _ uww_667) (fun _ h9 => h9) rfl dX7_isFormed4_49 ?_
          refine lv_icmp_lt (tgt := 63) hx hb dX7_isFormed4_52 (by decide) (fun c7 => ?_) (fun c7 => ?_)
          · have h := h.1 c7
            refine lv_iconst (v := (0 : Int32)) hx hb dX7_isFormed4_63 (by decide) ?_
            exact rpzret (Z := (fun r M' L' => Z r M' L')) hx hb hr hlocks hK hI dX7_isFormed4_64 ⟨isB_0, h⟩
          · have h := h.2 c7
            refine lv_aload_n hx hb dX7_isFormed4_55 rfl (lv_at hl 0 rfl) ?_
            refine va_get (D := (dC, dI)) (ci := 6) (v := .int (M4 0 32)) (C := RX7) (T := TX7) (N := 44) hx hb hu uX7 hown hK hI.1 0 rfl rfl 32 (by decide) (hu _ uww_668) (fun _ h9 => h9) rfl dX7_isFormed4_56 ?_
            refine lv_iload_n hx hb dX7_isFormed4_59 rfl (lv_at hl 1 rfl) ?_
            refine lv_icmp_le (tgt := 65) hx hb dX7_isFormed4_60 (by decide) (fun c8 => ?_) (fun c8 => ?_)
            · have h := h.1 c8
              refine lv_aload_n hx hb dX7_isFormed4_65 rfl (lv_at hl 0 rfl) ?_
              refine lv_lconst (v := (0 : Int64)) hx hb dX7_isFormed4_66 (by decide) ?_
              refine rpputl (ci := 6) (C := RX7) (T := TX7) (N := 44) (ty := .long) hx hb hu uX7 tyX7 tyX7_ok nmX7 hown hK hI 0 rfl rfl 18 (by decide) (hu _ uww_593) (fun _ h9 => h9) rfl (by decide +kernel) rfl rfl (Nat.le_of_ble_eq_true rfl) (rpset_0_18 _ _ _ _ _) dX7_isFormed4_67 (fun H locs L9 eL9 hI => ?_)
              have h := h L9 eL9
              refine lv_aload_n hx hb dX7_isFormed4_70 rfl (lv_at hl 0 rfl) ?_
              refine lv_aload_n hx hb dX7_isFormed4_71 rfl (lv_at hl 0 rfl) ?_
              refine va_get (D := (dC, dI)) (ci := 6) (v := .ref (a 1)) (C := RX7) (T := TX7) (N := 44) hx hb hu uX7 hown hK hI.1 0 rfl rfl 1 (by decide) (hu _ uww_538) (fun _ h9 => h9) rfl dX7_isFormed4_72 ?_
              refine lv_iconst (v := (0 : Int32)) hx hb dX7_isFormed4_75 (by decide) ?_
              refine lv_aload_n hx hb dX7_isFormed4_76 rfl (lv_at hl 0 rfl) ?_
              refine va_get (D := (dC, dI)) (ci := 6) (v := .int (M4 0 31)) (C := RX7) (T := TX7) (N := 44) hx hb hu uX7 hown hK hI.1 0 rfl rfl 31 (by decide) (hu _ uww_667) (fun _ h9 => h9) rfl dX7_isFormed4_77 ?_
              refine rpcallv_l hsz hI (va_runV (As := [.ref (a 1), .int (0 : Int32), .int (M4 0 31)]) (rest := []) ⟨hx, hb, hml, hown, hu⟩ (met_X7_words_0_1 l dC dI a kA t _ M4 L9 (0 : Int32) (M4 0 31) _ h) (cwl_X7_206_X7 hu ⟨by decide, by decide⟩) (rppre (ci := 6) hK hE hsz hI rfl rfl) rfl rfl hl.1 rfl (lv_room (Nat.le_of_ble_eq_true rfl)) dX7_isFormed4_80 ⟨by decide, by decide⟩) (fun L10 H locs h hI => ?_)
              refine lv_aload_n hx hb dX7_isFormed4_83 rfl (lv_at hl 0 rfl) ?_
              refine va_get (D := (dC, dI)) (ci := 6) (v := .long (L10 0 18)) (C := RX7) (T := TX7) (N := 44) hx hb hu uX7 hown hK hI.1 0 rfl rfl 18 (by decide) (hu _ uww_593) (fun _ h9 => h9) rfl dX7_isFormed4_84 ?_
              refine lv_ldc2 (own := RX7) (v := (65535 : Int64)) hx hb hown (hu _ uww_594) dX7_isFormed4_87 ?_
              refine W.lcmp hx hb dX7_isFormed4_90 ?_
              refine lv_if_ne (tgt := 124) hx hb dX7_isFormed4_91 (by decide) (fun c11 => ?_) (fun c11 => ?_)
              · have h := h.1 c11
                refine lv_iconst (v := (0 : Int32)) hx hb dX7_isFormed4_124 (by decide) ?_
                exact rpzret (Z := (fun r M' L' => Z r M' L')) hx hb hr hlocks hK hI dX7_isFormed4_125 ⟨isB_0, h⟩
              · have h := h.2 c11
                refine lv_aload_n hx hb dX7_isFormed4_94 rfl (lv_at hl 0 rfl) ?_
                refine rpcalli_m hsz hI (va_runV (As := []) (rest := []) ⟨hx, hb, hml, hown, hu⟩ (met_X7_optionsAreGood_0 l dC dI a kA t _ M4 L10  _ h) (cwl_X7_209_X7 hu ⟨by decide, by decide⟩) (rppre (ci := 6) hK hE hsz hI rfl rfl) rfl rfl hl.1 rfl (lv_room (Nat.le_of_ble_eq_true rfl)) dX7_isFormed4_95 ⟨by decide, by decide⟩) (fun r12 M13 H locs h hI => ?_)
                refine lv_if_eq (tgt := 124) hx hb dX7_isFormed4_98 (by decide) (fun c14 => ?_) (fun c14 => ?_)
                · have h := h.1 c14
                  refine lv_iconst (v := (0 : Int32)) hx hb dX7_isFormed4_124 (by decide) ?_
                  exact rpzret (Z := (fun r M' L' => Z r M' L')) hx hb hr hlocks hK hI dX7_isFormed4_125 ⟨isB_0, h⟩
                · have h := h.2 c14
                  refine lv_aload_n hx hb dX7_isFormed4_101 rfl (lv_at hl 0 rfl) ?_
                  refine va_get (D := (dC, dI)) (ci := 6) (v := .int (M13 0 33)) (C := RX7) (T := TX7) (N := 44) hx hb hu uX7 hown hK hI.1 0 rfl rfl 33 (by decide) (hu _ uww_669) (fun _ h9 => h9) rfl dX7_isFormed4_102 ?_
                  refine lv_aload_n hx hb dX7_isFormed4_105 rfl (lv_at hl 0 rfl) ?_
                  refine va_get (D := (dC, dI)) (ci := 6) (v := .int (M13 0 32)) (C := RX7) (T := TX7) (N := 44) hx hb hu uX7 hown hK hI.1 0 rfl rfl 32 (by decide) (hu _ uww_668) (fun _ h9 => h9) rfl dX7_isFormed4_106 ?_
                  refine lv_iadd hx hb dX7_isFormed4_109 ?_
                  refine lv_aload_n hx hb dX7_isFormed4_110 rfl (lv_at hl 0 rfl) ?_
                  refine va_get (D := (dC, dI)) (ci := 6) (v := .int (M13 0 31)) (C := RX7) (T := TX7) (N := 44) hx hb hu uX7 hown hK hI.1 0 rfl rfl 31 (by decide) (hu _ uww_667) (fun _ h9 => h9) rfl dX7_isFormed4_111 ?_
                  refine lv_isub hx hb dX7_isFormed4_114 ?_
                  refine lv_ldc (own := RX7) (v := (65535 : Int32)) hx hb hown (hu _ uww_596) dX7_isFormed4_115 ?_
                  refine lv_icmp_gt (tgt := 124) hx hb dX7_isFormed4_117 (by decide) (fun c15 => ?_) (fun c15 => ?_)
                  · have h := h.1 c15
                    refine lv_iconst (v := (0 : Int32)) hx hb dX7_isFormed4_124 (by decide) ?_
                    exact rpzret (Z := (fun r M' L' => Z r M' L')) hx hb hr hlocks hK hI dX7_isFormed4_125 ⟨isB_0, h⟩
                  · have h := h.2 c15
                    refine lv_iconst (v := (1 : Int32)) hx hb dX7_isFormed4_120 (by decide) ?_
                    refine lv_goto (tgt := 125) hx hb dX7_isFormed4_121 (by decide) ?_
                    exact rpzret (Z := (fun r M' L' => Z r M' L')) hx hb hr hlocks hK hI dX7_isFormed4_125 ⟨isB_1, h⟩
            · have h := h.2 c8
              refine lv_iconst (v := (0 : Int32)) hx hb dX7_isFormed4_63 (by decide) ?_
              exact rpzret (Z := (fun r M' L' => Z r M' L')) hx hb hr hlocks hK hI dX7_isFormed4_64 ⟨isB_0, h⟩
    · have h := h.2 c3
      refine lv_iconst (v := (0 : Int32)) hx hb dX7_isFormed4_20 (by decide) ?_
      exact rpzret (Z := (fun r M' L' => Z r M' L')) hx hb hr hlocks hK hI dX7_isFormed4_21 ⟨isB_0, h⟩

abbrev rm_X7_intAt_1 : Room := { frames := 2, cells := 0, slots := 0, locals := 42 }
abbrev av_X7_intAt_1 (a t : Nat → Nat) (p1 : Int32) : List Value := [.ref (a 1), .int p1]
abbrev qc_X7_intAt_1 (dC : Nat → ClassId) (dI : Nat → Nat → Nat) (a : Nat → Nat) (kA : Nat → ClassId) (sz : Nat) (M : cM) (L : cL) (Z : Int32 → Prop) : Array Value → State → Outcome → State → Prop := va_Qi (fun r (u : cM × cL) => u.1 = M ∧ u.2 = L ∧ Z r) (rpAt dC dI a kA (rpA a sz)) (rpA a sz)
set_option maxHeartbeats 4000000 in
set_option maxRecDepth 100000 in
theorem met_X7_intAt_1 (l : Launch) (dC : Nat → ClassId) (dI : Nat → Nat → Nat) (a : Nat → Nat) (kA : Nat → ClassId) (t : Nat → Nat) (sz : Nat) (M : cM) (L : cL) (p1 : Int32) (Z : Int32 → Prop) (h : wp_X7_intAt_1 M L p1 Z) : Met l yX7_intAt (Cond.code yX7_intAt cX7_intAt 2 (some .int) :: uW) rm_X7_intAt_1 (va_Pc (av_X7_intAt_1 a t p1) (rpPre dC dI a kA t M L sz)) (qc_X7_intAt_1 dC dI a kA sz M L Z) 0 0 (rpA a sz) := by
  refine rpenter (cc := cX7_intAt) (n := 2) (ret := (some .int)) (by decide) rfl (Nat.le_of_ble_eq_true rfl) ?_
  intro p e s m below meth c ls hx hb hml hr hlocks hown hts hK hE hsz hI hl hmn
  have hu : ∀ w ∈ uW, w.before (av_X7_intAt_1 a t p1).toArray s = true := fun w h => hts w (List.mem_cons_of_mem _ h)
  have hown : s.vm.findClass RX7 = some m.cls := hown
  have hl : lv_has ls 2 [(0, .ref (a 1)), (1, .int p1)] := hl
  unfold wp_X7_intAt_1 at h
  refine lv_aload_n hx hb dX7_intAt_0 rfl (lv_at hl 0 rfl) ?_
  refine lv_iload_n hx hb dX7_intAt_1 rfl (lv_at hl 1 rfl) ?_
  refine rpcalli_p hsz hI (va_runS (As := [.ref (a 1), .int p1]) (rest := []) ⟨hx, hb, hml, hown, hu⟩ (met_X7_twoAt_1 l dC dI a kA t _ M L p1 _ h) (cwl_X7_115_S hu ⟨by decide, by decide⟩) (rppreS hK hE hsz hI) rfl rfl hl.1 rfl (lv_room (Nat.le_of_ble_eq_true rfl)) dX7_intAt_2 ⟨by decide, by decide⟩) (fun r1 H locs h hI => ?_)
  refine lv_bipush (v := (16 : Int32)) hx hb dX7_intAt_5 (by decide) ?_
  refine lv_ishl hx hb dX7_intAt_7 ?_
  refine lv_aload_n hx hb dX7_intAt_8 rfl (lv_at hl 0 rfl) ?_
  refine lv_iload_n hx hb dX7_intAt_9 rfl (lv_at hl 1 rfl) ?_
  refine lv_iconst (v := (2 : Int32)) hx hb dX7_intAt_10 (by decide) ?_
  refine lv_iadd hx hb dX7_intAt_11 ?_
  refine rpcalli_p hsz hI (va_runS (As := [.ref (a 1), .int (p1 + (2 : Int32))]) (rest := [.int (r1 <<< ((16 : Int32) &&& 31))]) ⟨hx, hb, hml, hown, hu⟩ (met_X7_twoAt_1 l dC dI a kA t _ M L (p1 + (2 : Int32)) _ h) (cwl_X7_115_S hu ⟨by decide, by decide⟩) (rppreS hK hE hsz hI) rfl rfl hl.1 rfl (lv_room (Nat.le_of_ble_eq_true rfl)) dX7_intAt_12 ⟨by decide, by decide⟩) (fun r2 H locs h hI => ?_)
  refine lv_ior hx hb dX7_intAt_15 ?_
  exact rpiret (Z := (fun r M' L' => M' = M ∧ L' = L ∧ Z r)) hx hb hr hlocks hK hI dX7_intAt_16 ⟨rfl, rfl, h⟩

abbrev rm_X7_imagesOf_0 : Room := { frames := 1, cells := 0, slots := 0, locals := 25 }
abbrev av_X7_imagesOf_0 (a t : Nat → Nat) (p1 : Int32) (p2 : Int32) : List Value := [.ref (a 0), .int p1, .int p2]
abbrev qc_X7_imagesOf_0 (dC : Nat → ClassId) (dI : Nat → Nat → Nat) (a : Nat → Nat) (kA : Nat → ClassId) (sz : Nat) (M : cM) (L : cL) (Z : Int32 → cM → cL → Prop) : Array Value → State → Outcome → State → Prop := va_Qi (fun r (u : cM × cL) => Z r u.1 u.2) (rpAt dC dI a kA (rpA a sz)) (rpA a sz)
set_option maxHeartbeats 4000000 in
set_option maxRecDepth 100000 in
theorem met_X7_imagesOf_0 (l : Launch) (dC : Nat → ClassId) (dI : Nat → Nat → Nat) (a : Nat → Nat) (kA : Nat → ClassId) (t : Nat → Nat) (sz : Nat) (M : cM) (L : cL) (p1 : Int32) (p2 : Int32) (Z : Int32 → cM → cL → Prop) (h : wp_X7_imagesOf_0 M L p1 p2 Z) : Met l yX7_imagesOf (Cond.code yX7_imagesOf cX7_imagesOf 3 (some .boolean) :: uW) rm_X7_imagesOf_0 (va_Pc (av_X7_imagesOf_0 a t p1 p2) (rpPre dC dI a kA t M L sz)) (qc_X7_imagesOf_0 dC dI a kA sz M L Z) 0 0 (rpA a sz) := by
  refine rpenter (cc := cX7_imagesOf) (n := 3) (ret := (some .boolean)) (by decide) rfl (Nat.le_of_ble_eq_true rfl) ?_
  intro p e s m below meth c ls hx hb hml hr hlocks hown hts hK hE hsz hI hl hmn
  have hu : ∀ w ∈ uW, w.before (av_X7_imagesOf_0 a t p1 p2).toArray s = true := fun w h => hts w (List.mem_cons_of_mem _ h)
  have hown : s.vm.findClass RX7 = some m.cls := hown
  have hl : lv_has ls 3 [(0, .ref (a 0)), (1, .int p1), (2, .int p2)] := hl
  unfold wp_X7_imagesOf_0 at h
  refine lv_aload_n hx hb dX7_imagesOf_0 rfl (lv_at hl 0 rfl) ?_
  refine lv_iload_n hx hb dX7_imagesOf_1 rfl (lv_at hl 1 rfl) ?_
  refine rpput (ci := 6) (C := RX7) (T := TX7) (N := 44) (ty := .int) hx hb hu uX7 tyX7 tyX7_ok nmX7 hown hK hI 0 rfl rfl 25 (by decide) (hu _ uww_628) (fun _ h9 => h9) rfl (by decide +kernel) rfl rfl (Nat.le_of_ble_eq_true rfl) (rpset_0_25 _ _ _ _ _) dX7_imagesOf_2 (fun H locs M1 eM1 hI => ?_)
  have h := h M1 eM1
  refine lv_aload_n hx hb dX7_imagesOf_5 rfl (lv_at hl 0 rfl) ?_
  refine lv_iload_n hx hb dX7_imagesOf_6 rfl (lv_at hl 2 rfl) ?_
  refine rpput (ci := 6) (C := RX7) (T := TX7) (N := 44) (ty := .int) hx hb hu uX7 tyX7 tyX7_ok nmX7 hown hK hI 0 rfl rfl 26 (by decide) (hu _ uww_629) (fun _ h9 => h9) rfl (by decide +kernel) rfl rfl (Nat.le_of_ble_eq_true rfl) (rpset_0_26 _ _ _ _ _) dX7_imagesOf_7 (fun H locs M2 eM2 hI => ?_)
  have h := h M2 eM2
  refine lv_aload_n hx hb dX7_imagesOf_10 rfl (lv_at hl 0 rfl) ?_
  refine lv_iload_n hx hb dX7_imagesOf_11 rfl (lv_at hl 1 rfl) ?_
  refine rpcallv_l hsz hI (va_runV (As := [.int p1]) (rest := []) ⟨hx, hb, hml, hown, hu⟩ (met_X7_makeImage_0 l dC dI a kA t _ M2 L p1 _ h) (cwl_X7_87_X7 hu ⟨by decide, by decide⟩) (rppre (ci := 6) hK hE hsz hI rfl rfl) rfl rfl hl.1 rfl (lv_room (Nat.le_of_ble_eq_true rfl)) dX7_imagesOf_12 ⟨by decide, by decide⟩) (fun L3 H locs h hI => ?_)
  refine lv_aload_n hx hb dX7_imagesOf_15 rfl (lv_at hl 0 rfl) ?_
  refine lv_aload_n hx hb dX7_imagesOf_16 rfl (lv_at hl 0 rfl) ?_
  refine va_get (D := (dC, dI)) (ci := 6) (v := .long (L3 0 15)) (C := RX7) (T := TX7) (N := 44) hx hb hu uX7 hown hK hI.1 0 rfl rfl 15 (by decide) (hu _ uww_575) (fun _ h9 => h9) rfl dX7_imagesOf_17 ?_
  refine rpputl (ci := 6) (C := RX7) (T := TX7) (N := 44) (ty := .long) hx hb hu uX7 tyX7 tyX7_ok nmX7 hown hK hI 0 rfl rfl 27 (by decide) (hu _ uww_630) (fun _ h9 => h9) rfl (by decide +kernel) rfl rfl (Nat.le_of_ble_eq_true rfl) (rpset_0_27 _ _ _ _ _) dX7_imagesOf_20 (fun H locs L4 eL4 hI => ?_)
  have h := h L4 eL4
  refine lv_aload_n hx hb dX7_imagesOf_23 rfl (lv_at hl 0 rfl) ?_
  refine lv_aload_n hx hb dX7_imagesOf_24 rfl (lv_at hl 0 rfl) ?_
  refine va_get (D := (dC, dI)) (ci := 6) (v := .long (L4 0 16)) (C := RX7) (T := TX7) (N := 44) hx hb hu uX7 hown hK hI.1 0 rfl rfl 16 (by decide) (hu _ uww_576) (fun _ h9 => h9) rfl dX7_imagesOf_25 ?_
  refine rpputl (ci := 6) (C := RX7) (T := TX7) (N := 44) (ty := .long) hx hb hu uX7 tyX7 tyX7_ok nmX7 hown hK hI 0 rfl rfl 28 (by decide) (hu _ uww_631) (fun _ h9 => h9) rfl (by decide +kernel) rfl rfl (Nat.le_of_ble_eq_true rfl) (rpset_0_28 _ _ _ _ _) dX7_imagesOf_28 (fun H locs L5 eL5 hI => ?_)
  have h := h L5 eL5
  refine lv_aload_n hx hb dX7_imagesOf_31 rfl (lv_at hl 0 rfl) ?_
  refine lv_iload_n hx hb dX7_imagesOf_32 rfl (lv_at hl 2 rfl) ?_
  refine rpcallv_l hsz hI (va_runV (As := [.int p2]) (rest := []) ⟨hx, hb, hml, hown, hu⟩ (met_X7_makeImage_0 l dC dI a kA t _ M2 L5 p2 _ h) (cwl_X7_87_X7 hu ⟨by decide, by decide⟩) (rppre (ci := 6) hK hE hsz hI rfl rfl) rfl rfl hl.1 rfl (lv_room (Nat.le_of_ble_eq_true rfl)) dX7_imagesOf_33 ⟨by decide, by decide⟩) (fun L6 H locs h hI => ?_)
  refine lv_aload_n hx hb dX7_imagesOf_36 rfl (lv_at hl 0 rfl) ?_
  refine lv_aload_n hx hb dX7_imagesOf_37 rfl (lv_at hl 0 rfl) ?_
  refine va_get (D := (dC, dI)) (ci := 6) (v := .long (L6 0 15)) (C := RX7) (T := TX7) (N := 44) hx hb hu uX7 hown hK hI.1 0 rfl rfl 15 (by decide) (hu _ uww_575) (fun _ h9 => h9) rfl dX7_imagesOf_38 ?_
  refine rpputl (ci := 6) (C := RX7) (T := TX7) (N := 44) (ty := .long) hx hb hu uX7 tyX7 tyX7_ok nmX7 hown hK hI 0 rfl rfl 29 (by decide) (hu _ uww_632) (fun _ h9 => h9) rfl (by decide +kernel) rfl rfl (Nat.le_of_ble_eq_true rfl) (rpset_0_29 _ _ _ _ _) dX7_imagesOf_41 (fun H locs L7 eL7 hI => ?_)
  have h := h L7 eL7
  refine lv_aload_n hx hb dX7_imagesOf_44 rfl (lv_at hl 0 rfl) ?_
  refine lv_aload_n hx hb dX7_imagesOf_45 rfl (lv_at hl 0 rfl) ?_
  refine va_get (D := (dC, dI)) (ci := 6) (v := .long (L7 0 16)) (C := RX7) (T := TX7) (N := 44) hx hb hu uX7 hown hK hI.1 0 rfl rfl 16 (by decide) (hu _ uww_576) (fun _ h9 => h9) rfl dX7_imagesOf_46 ?_
  refine rpputl (ci := 6) (C := RX7) (T := TX7) (N := 44) (ty := .long) hx hb hu uX7 tyX7 tyX7_ok nmX7 hown hK hI 0 rfl rfl 30 (by decide) (hu _ uww_633) (fun _ h9 => h9) rfl (by decide +kernel) rfl rfl (Nat.le_of_ble_eq_true rfl) (rpset_0_30 _ _ _ _ _) dX7_imagesOf_49 (fun H locs L8 eL8 hI => ?_)
  have h := h L8 eL8
  refine lv_aload_n hx hb dX7_imagesOf_52 rfl (lv_at hl 0 rfl) ?_
  refine lv_iload_n hx hb dX7_imagesOf_53 rfl (lv_at hl 1 rfl) ?_
  refine rpcalli_p hsz hI (va_runV (As := [.int p1]) (rest := []) ⟨hx, hb, hml, hown, hu⟩ (met_X7_isMappable_0 l dC dI a kA t _ M2 L8 p1 _ h) (cwl_X7_90_X7 hu ⟨by decide, by decide⟩) (rppre (ci := 6) hK hE hsz hI rfl rfl) rfl rfl hl.1 rfl (lv_room (Nat.le_of_ble_eq_true rfl)) dX7_imagesOf_54 ⟨by decide, by decide⟩) (fun r9 H locs h hI => ?_)
  refine lv_if_eq (tgt := 72) hx hb dX7_imagesOf_57 (by decide) (fun c10 => ?_) (fun c10 => ?_)
  · have h := h.1 c10
    refine lv_iconst (v := (0 : Int32)) hx hb dX7_imagesOf_72 (by decide) ?_
    exact rpzret (Z := (fun r M' L' => Z r M' L')) hx hb hr hlocks hK hI dX7_imagesOf_73 ⟨isB_0, h⟩
  · have h := h.2 c10
    refine lv_aload_n hx hb dX7_imagesOf_60 rfl (lv_at hl 0 rfl) ?_
    refine lv_iload_n hx hb dX7_imagesOf_61 rfl (lv_at hl 2 rfl) ?_
    refine rpcalli_p hsz hI (va_runV (As := [.int p2]) (rest := []) ⟨hx, hb, hml, hown, hu⟩ (met_X7_isMappable_0 l dC dI a kA t _ M2 L8 p2 _ h) (cwl_X7_90_X7 hu ⟨by decide, by decide⟩) (rppre (ci := 6) hK hE hsz hI rfl rfl) rfl rfl hl.1 rfl (lv_room (Nat.le_of_ble_eq_true rfl)) dX7_imagesOf_62 ⟨by decide, by decide⟩) (fun r11 H locs h hI => ?_)
    refine lv_if_eq (tgt := 72) hx hb dX7_imagesOf_65 (by decide) (fun c12 => ?_) (fun c12 => ?_)
    · have h := h.1 c12
      refine lv_iconst (v := (0 : Int32)) hx hb dX7_imagesOf_72 (by decide) ?_
      exact rpzret (Z := (fun r M' L' => Z r M' L')) hx hb hr hlocks hK hI dX7_imagesOf_73 ⟨isB_0, h⟩
    · have h := h.2 c12
      refine lv_iconst (v := (1 : Int32)) hx hb dX7_imagesOf_68 (by decide) ?_
      refine lv_goto (tgt := 73) hx hb dX7_imagesOf_69 (by decide) ?_
      exact rpzret (Z := (fun r M' L' => Z r M' L')) hx hb hr hlocks hK hI dX7_imagesOf_73 ⟨isB_1, h⟩

abbrev rm_X7_isBarred4 : Room := { frames := 0, cells := 0, slots := 0, locals := 0 }
abbrev av_X7_isBarred4 (a t : Nat → Nat) (p0 : Int32) : List Value := [.int p0]
abbrev qc_X7_isBarred4 (dC : Nat → ClassId) (dI : Nat → Nat → Nat) (a : Nat → Nat) (kA : Nat → ClassId) (sz : Nat) (M : cM) (L : cL) (Z : Int32 → Prop) : Array Value → State → Outcome → State → Prop := va_Qi (fun r (u : cM × cL) => u.1 = M ∧ u.2 = L ∧ Z r) (rpAt dC dI a kA (rpA a sz)) (rpA a sz)
set_option maxHeartbeats 4000000 in
set_option maxRecDepth 100000 in
theorem met_X7_isBarred4 (l : Launch) (dC : Nat → ClassId) (dI : Nat → Nat → Nat) (a : Nat → Nat) (kA : Nat → ClassId) (t : Nat → Nat) (sz : Nat) (M : cM) (L : cL) (p0 : Int32) (Z : Int32 → Prop) (h : wp_X7_isBarred4 M L p0 Z) : Met l yX7_isBarred4 (Cond.code yX7_isBarred4 cX7_isBarred4 1 (some .boolean) :: uW) rm_X7_isBarred4 (va_Pc (av_X7_isBarred4 a t p0) (rpPre dC dI a kA t M L sz)) (qc_X7_isBarred4 dC dI a kA sz M L Z) 0 0 (rpA a sz) := by
  refine rpenter (cc := cX7_isBarred4) (n := 1) (ret := (some .boolean)) (by decide) rfl (Nat.le_of_ble_eq_true rfl) ?_
  intro p e s m below meth c ls hx hb hml hr hlocks hown hts hK hE hsz hI hl hmn
  have hu : ∀ w ∈ uW, w.before (av_X7_isBarred4 a t p0).toArray s = true := fun w h => hts w (List.mem_cons_of_mem _ h)
  have hown : s.vm.findClass RX7 = some m.cls := hown
  have hl : lv_has ls 1 [(0, .int p0)] := hl
  unfold wp_X7_isBarred4 at h
  refine lv_iload_n hx hb dX7_isBarred4_0 rfl (lv_at hl 0 rfl) ?_
  refine lv_if_eq (tgt := 39) hx hb dX7_isBarred4_1 (by decide) (fun c1 => ?_) (fun c1 => ?_)
  · have h := h.1 c1
    refine lv_iconst (v := (1 : Int32)) hx hb dX7_isBarred4_39 (by decide) ?_
    refine lv_goto (tgt := 44) hx hb dX7_isBarred4_40 (by decide) ?_
    exact rpzret (Z := (fun r M' L' => M' = M ∧ L' = L ∧ Z r)) hx hb hr hlocks hK hI dX7_isBarred4_44 ⟨isB_1, ⟨rfl, rfl, h⟩⟩
  · have h := h.2 c1
    refine lv_iload_n hx hb dX7_isBarred4_4 rfl (lv_at hl 0 rfl) ?_
    refine lv_iconst (v := (2 : Int32)) hx hb dX7_isBarred4_5 (by decide) ?_
    refine lv_icmp_eq (tgt := 39) hx hb dX7_isBarred4_6 (by decide) (fun c2 => ?_) (fun c2 => ?_)
    · have h := h.1 c2
      refine lv_iconst (v := (1 : Int32)) hx hb dX7_isBarred4_39 (by decide) ?_
      refine lv_goto (tgt := 44) hx hb dX7_isBarred4_40 (by decide) ?_
      exact rpzret (Z := (fun r M' L' => M' = M ∧ L' = L ∧ Z r)) hx hb hr hlocks hK hI dX7_isBarred4_44 ⟨isB_1, ⟨rfl, rfl, h⟩⟩
    · have h := h.2 c2
      refine lv_iload_n hx hb dX7_isBarred4_9 rfl (lv_at hl 0 rfl) ?_
      refine lv_bipush (v := (43 : Int32)) hx hb dX7_isBarred4_10 (by decide) ?_
      refine lv_icmp_eq (tgt := 39) hx hb dX7_isBarred4_12 (by decide) (fun c3 => ?_) (fun c3 => ?_)
      · have h := h.1 c3
        refine lv_iconst (v := (1 : Int32)) hx hb dX7_isBarred4_39 (by decide) ?_
        refine lv_goto (tgt := 44) hx hb dX7_isBarred4_40 (by decide) ?_
        exact rpzret (Z := (fun r M' L' => M' = M ∧ L' = L ∧ Z r)) hx hb hr hlocks hK hI dX7_isBarred4_44 ⟨isB_1, ⟨rfl, rfl, h⟩⟩
      · have h := h.2 c3
        refine lv_iload_n hx hb dX7_isBarred4_15 rfl (lv_at hl 0 rfl) ?_
        refine lv_bipush (v := (44 : Int32)) hx hb dX7_isBarred4_16 (by decide) ?_
        refine lv_icmp_eq (tgt := 39) hx hb dX7_isBarred4_18 (by decide) (fun c4 => ?_) (fun c4 => ?_)
        · have h := h.1 c4
          refine lv_iconst (v := (1 : Int32)) hx hb dX7_isBarred4_39 (by decide) ?_
          refine lv_goto (tgt := 44) hx hb dX7_isBarred4_40 (by decide) ?_
          exact rpzret (Z := (fun r M' L' => M' = M ∧ L' = L ∧ Z r)) hx hb hr hlocks hK hI dX7_isBarred4_44 ⟨isB_1, ⟨rfl, rfl, h⟩⟩
        · have h := h.2 c4
          refine lv_iload_n hx hb dX7_isBarred4_21 rfl (lv_at hl 0 rfl) ?_
          refine lv_bipush (v := (58 : Int32)) hx hb dX7_isBarred4_22 (by decide) ?_
          refine lv_icmp_eq (tgt := 39) hx hb dX7_isBarred4_24 (by decide) (fun c5 => ?_) (fun c5 => ?_)
          · have h := h.1 c5
            refine lv_iconst (v := (1 : Int32)) hx hb dX7_isBarred4_39 (by decide) ?_
            refine lv_goto (tgt := 44) hx hb dX7_isBarred4_40 (by decide) ?_
            exact rpzret (Z := (fun r M' L' => M' = M ∧ L' = L ∧ Z r)) hx hb hr hlocks hK hI dX7_isBarred4_44 ⟨isB_1, ⟨rfl, rfl, h⟩⟩
          · have h := h.2 c5
            refine lv_iload_n hx hb dX7_isBarred4_27 rfl (lv_at hl 0 rfl) ?_
            refine lv_bipush (v := (59 : Int32)) hx hb dX7_isBarred4_28 (by decide) ?_
            refine lv_icmp_eq (tgt := 39) hx hb dX7_isBarred4_30 (by decide) (fun c6 => ?_) (fun c6 => ?_)
            · have h := h.1 c6
              refine lv_iconst (v := (1 : Int32)) hx hb dX7_isBarred4_39 (by decide) ?_
              refine lv_goto (tgt := 44) hx hb dX7_isBarred4_40 (by decide) ?_
              exact rpzret (Z := (fun r M' L' => M' = M ∧ L' = L ∧ Z r)) hx hb hr hlocks hK hI dX7_isBarred4_44 ⟨isB_1, ⟨rfl, rfl, h⟩⟩
            · have h := h.2 c6
              refine lv_iload_n hx hb dX7_isBarred4_33 rfl (lv_at hl 0 rfl) ?_
              refine lv_bipush (v := (60 : Int32)) hx hb dX7_isBarred4_34 (by decide) ?_
              refine lv_icmp_ne (tgt := 43) hx hb dX7_isBarred4_36 (by decide) (fun c7 => ?_) (fun c7 => ?_)
              · have h := h.1 c7
                refine lv_iconst (v := (0 : Int32)) hx hb dX7_isBarred4_43 (by decide) ?_
                exact rpzret (Z := (fun r M' L' => M' = M ∧ L' = L ∧ Z r)) hx hb hr hlocks hK hI dX7_isBarred4_44 ⟨isB_0, ⟨rfl, rfl, h⟩⟩
              · have h := h.2 c7
                refine lv_iconst (v := (1 : Int32)) hx hb dX7_isBarred4_39 (by decide) ?_
                refine lv_goto (tgt := 44) hx hb dX7_isBarred4_40 (by decide) ?_
                exact rpzret (Z := (fun r M' L' => M' = M ∧ L' = L ∧ Z r)) hx hb hr hlocks hK hI dX7_isBarred4_44 ⟨isB_1, ⟨rfl, rfl, h⟩⟩

abbrev rm_X7_carry_0_1 : Room := { frames := 0, cells := 0, slots := 0, locals := 0 }
abbrev av_X7_carry_0_1 (a t : Nat → Nat) (p2 : Int32) (p3 : Int32) : List Value := [.ref (a 0), .ref (a 1), .int p2, .int p3]
abbrev qc_X7_carry_0_1 (dC : Nat → ClassId) (dI : Nat → Nat → Nat) (a : Nat → Nat) (kA : Nat → ClassId) (sz : Nat) (M : cM) (L : cL) (Z : cM → Prop) : Array Value → State → Outcome → State → Prop := va_Qv (fun (u : cM × cL) => u.2 = L ∧ Z u.1) (rpAt dC dI a kA (rpA a sz)) (rpA a sz)
set_option maxHeartbeats 4000000 in
set_option maxRecDepth 100000 in
theorem met_X7_carry_0_1 (l : Launch) (dC : Nat → ClassId) (dI : Nat → Nat → Nat) (a : Nat → Nat) (kA : Nat → ClassId) (t : Nat → Nat) (sz : Nat) (M : cM) (L : cL) (p2 : Int32) (p3 : Int32) (Z : cM → Prop) (h : wp_X7_carry_0_1 M L p2 p3 Z) : Met l yX7_carry (Cond.code yX7_carry cX7_carry 5 none :: uW) rm_X7_carry_0_1 (va_Pc (av_X7_carry_0_1 a t p2 p3) (rpPre dC dI a kA t M L sz)) (qc_X7_carry_0_1 dC dI a kA sz M L Z) 0 0 (rpA a sz) := by
  refine rpenter (cc := cX7_carry) (n := 5) (ret := none) (by decide) rfl (Nat.le_of_ble_eq_true rfl) ?_
  intro p e s m below meth c ls hx hb hml hr hlocks hown hts hK hE hsz hI hl hmn
  have hu : ∀ w ∈ uW, w.before (av_X7_carry_0_1 a t p2 p3).toArray s = true := fun w h => hts w (List.mem_cons_of_mem _ h)
  have hown : s.vm.findClass RX7 = some m.cls := hown
  have hl : lv_has ls 5 [(0, .ref (a 0)), (1, .ref (a 1)), (2, .int p2), (3, .int p3)] := hl
  unfold wp_X7_carry_0_1 at h
  refine lv_iconst (v := (0 : Int32)) hx hb dX7_carry_0 (by decide) ?_
  refine lv_istore (lv' := [(4, .int (0 : Int32)), (0, .ref (a 0)), (1, .ref (a 1)), (2, .int p2), (3, .int p3)]) hx hb dX7_carry_1 hl (by decide) rfl (fun ls hl => ?_)
  obtain ⟨I3, m3, h, hs3⟩ := h
  have P3 : ∀ (n3 : Nat) (x1 : Int32) (M2 : cM) (H : Heap) (locs : List Loc) (ls : Array Slot), I3 x1 M2 → m3 x1 M2 < n3 → rpI dC dI a kA (rpA a sz) s M2 L H locs → lv_has ls 5 [(0, .ref (a 0)), (1, .ref (a 1)), (2, .int p2), (3, .int p3), (4, .int x1)] → W p l e rm_X7_carry_0_1 s m (av_X7_carry_0_1 a t p2 p3).toArray below meth c H locs 0 0 (MQ below (qc_X7_carry_0_1 dC dI a kA sz M L Z) (av_X7_carry_0_1 a t p2 p3).toArray s 0 0 (rpA a sz)) (F0 m 3 ls []) := by
    intro n3
    induction n3 with
    | zero => intro x1 M2 H locs ls _ hn; exact absurd hn (Nat.not_lt_zero _)
    | succ n3 ih3 =>
      intro x1 M2 H locs ls h hn3 hI hl
      have h := hs3 x1 M2 h
      refine lv_iload hx hb dX7_carry_3 (lv_at hl 4 rfl) ?_
      refine lv_iload_n hx hb dX7_carry_5 rfl (lv_at hl 3 rfl) ?_
      refine lv_icmp_ge (tgt := 28) hx hb dX7_carry_6 (by decide) (fun c3 => ?_) (fun c3 => ?_)
      · have h := h.1 c3
        refine lv_aload_n hx hb dX7_carry_28 rfl (lv_at hl 0 rfl) ?_
        refine lv_iload_n hx hb dX7_carry_29 rfl (lv_at hl 3 rfl) ?_
        refine rpput (ci := 6) (C := RX7) (T := TX7) (N := 44) (ty := .int) hx hb hu uX7 tyX7 tyX7_ok nmX7 hown hK hI 0 rfl rfl 24 (by decide) (hu _ uww_626) (fun _ h9 => h9) rfl (by decide +kernel) rfl rfl (Nat.le_of_ble_eq_true rfl) (rpset_0_24 _ _ _ _ _) dX7_carry_30 (fun H locs M4 eM4 hI => ?_)
        have h := h M4 eM4
        exact rpvret (Z := (fun M' L' => L' = L ∧ Z M')) hx hb hr hlocks hK hI dX7_carry_33 ⟨rfl, h⟩
      · have h := h.2 c3
        refine lv_aload_n hx hb dX7_carry_9 rfl (lv_at hl 0 rfl) ?_
        refine va_get (D := (dC, dI)) (ci := 6) (v := .ref (a 5)) (C := RX7) (T := TX7) (N := 44) hx hb hu uX7 hown hK hI.1 0 rfl rfl 23 (by decide) (hu _ uww_554) (fun _ h9 => h9) rfl dX7_carry_10 ?_
        refine lv_iload hx hb dX7_carry_13 (lv_at hl 4 rfl) ?_
        refine lv_aload_n hx hb dX7_carry_15 rfl (lv_at hl 1 rfl) ?_
        refine lv_iload_n hx hb dX7_carry_16 rfl (lv_at hl 2 rfl) ?_
        refine lv_iload hx hb dX7_carry_17 (lv_at hl 4 rfl) ?_
        refine lv_iadd hx hb dX7_carry_19 ?_
        refine va_bald hx hb hK hI.1 1 0 rfl rfl h.1 dX7_carry_20 ?_
        have h := h.2
        refine rpbast hx hb hK hI 5 4 rfl rfl h.1 (rpset_5 _ _ _ _ _ _) dX7_carry_21 (fun H locs M5 eM5 hI => ?_)
        have h := h.2 M5 eM5
        obtain ⟨x6, ex6⟩ : ∃ y : Int32, y = (x1 + (1 : Int32)) := ⟨_, rfl⟩
        have h := h x6 ex6
        refine lv_iinc (v := x6) (lv' := [(4, .int x6), (0, .ref (a 0)), (1, .ref (a 1)), (2, .int p2), (3, .int p3)]) hx hb dX7_carry_22 hl (k := 4) rfl (by rw [ex6]; rfl) (by decide) rfl (fun ls hl => ?_)
        refine lv_goto (tgt := 3) hx hb dX7_carry_25 (by decide) ?_
        exact ih3 x6 M5 _ _ _ h.1 (Nat.lt_of_lt_of_le h.2 (Nat.le_of_lt_succ hn3)) hI (lv_sub hl [1, 2, 3, 4, 0] rfl)
  exact P3 (m3 (0 : Int32) M + 1) (0 : Int32) M _ _ _ h (Nat.lt_succ_self _) hI (lv_sub hl [1, 2, 3, 4, 0] rfl)

abbrev rm_X7_more_0 : Room := { frames := 0, cells := 0, slots := 0, locals := 0 }
abbrev av_X7_more_0 (a t : Nat → Nat) (p1 : Int32) : List Value := [.ref (a 0), .int p1]
abbrev qc_X7_more_0 (dC : Nat → ClassId) (dI : Nat → Nat → Nat) (a : Nat → Nat) (kA : Nat → ClassId) (sz : Nat) (M : cM) (L : cL) (Z : Int32 → cM → Prop) : Array Value → State → Outcome → State → Prop := va_Qi (fun r (u : cM × cL) => u.2 = L ∧ Z r u.1) (rpAt dC dI a kA (rpA a sz)) (rpA a sz)
set_option maxHeartbeats 4000000 in
set_option maxRecDepth 100000 in
theorem met_X7_more_0 (l : Launch) (dC : Nat → ClassId) (dI : Nat → Nat → Nat) (a : Nat → Nat) (kA : Nat → ClassId) (t : Nat → Nat) (sz : Nat) (M : cM) (L : cL) (p1 : Int32) (Z : Int32 → cM → Prop) (h : wp_X7_more_0 M L p1 Z) : Met l yX7_more (Cond.code yX7_more cX7_more 4 (some .int) :: uW) rm_X7_more_0 (va_Pc (av_X7_more_0 a t p1) (rpPre dC dI a kA t M L sz)) (qc_X7_more_0 dC dI a kA sz M L Z) 0 0 (rpA a sz) := by
  refine rpenter (cc := cX7_more) (n := 4) (ret := (some .int)) (by decide) rfl (Nat.le_of_ble_eq_true rfl) ?_
  intro p e s m below meth c ls hx hb hml hr hlocks hown hts hK hE hsz hI hl hmn
  have hu : ∀ w ∈ uW, w.before (av_X7_more_0 a t p1).toArray s = true := fun w h => hts w (List.mem_cons_of_mem _ h)
  have hown : s.vm.findClass RX7 = some m.cls := hown
  have hl : lv_has ls 4 [(0, .ref (a 0)), (1, .int p1)] := hl
  unfold wp_X7_more_0 at h
  refine lv_aload_n hx hb dX7_more_0 rfl (lv_at hl 0 rfl) ?_
  refine va_get (D := (dC, dI)) (ci := 6) (v := .int (M 0 20)) (C := RX7) (T := TX7) (N := 44) hx hb hu uX7 hown hK hI.1 0 rfl rfl 20 (by decide) (hu _ uww_622) (fun _ h9 => h9) rfl dX7_more_1 ?_
  refine lv_topi (fun x1 ex1 => ?_)
  have h := h x1 ex1
  refine lv_istore_n (lv' := [(2, .int x1), (0, .ref (a 0)), (1, .int p1)]) hx hb dX7_more_4 rfl hl (by decide) rfl (fun ls hl => ?_)
  refine lv_iconst (v := (0 : Int32)) hx hb dX7_more_5 (by decide) ?_
  refine lv_istore_n (lv' := [(3, .int (0 : Int32)), (2, .int x1), (0, .ref (a 0)), (1, .int p1)]) hx hb dX7_more_6 rfl hl (by decide) rfl (fun ls hl => ?_)
  obtain ⟨I7, m7, h, hs7⟩ := h
  have P7 : ∀ (n7 : Nat) (x2 : Int32) (M3 : cM) (H : Heap) (locs : List Loc) (ls : Array Slot), I7 x2 M3 → m7 x2 M3 < n7 → rpI dC dI a kA (rpA a sz) s M3 L H locs → lv_has ls 4 [(0, .ref (a 0)), (1, .int p1), (2, .int x1), (3, .int x2)] → W p l e rm_X7_more_0 s m (av_X7_more_0 a t p1).toArray below meth c H locs 0 0 (MQ below (qc_X7_more_0 dC dI a kA sz M L Z) (av_X7_more_0 a t p1).toArray s 0 0 (rpA a sz)) (F0 m 7 ls []) := by
    intro n7
    induction n7 with
    | zero => intro x2 M3 H locs ls _ hn; exact absurd hn (Nat.not_lt_zero _)
    | succ n7 ih7 =>
      intro x2 M3 H locs ls h hn7 hI hl
      have h := hs7 x2 M3 h
      refine lv_iload_n hx hb dX7_more_7 rfl (lv_at hl 3 rfl) ?_
      refine lv_iload_n hx hb dX7_more_8 rfl (lv_at hl 1 rfl) ?_
      refine lv_icmp_ge (tgt := 27) hx hb dX7_more_9 (by decide) (fun c4 => ?_) (fun c4 => ?_)
      · have h := h.1 c4
        refine lv_aload_n hx hb dX7_more_27 rfl (lv_at hl 0 rfl) ?_
        refine lv_dup hx hb dX7_more_28 rfl ?_
        refine va_get (D := (dC, dI)) (ci := 6) (v := .int (M3 0 20)) (C := RX7) (T := TX7) (N := 44) hx hb hu uX7 hown hK hI.1 0 rfl rfl 20 (by decide) (hu _ uww_622) (fun _ h9 => h9) rfl dX7_more_29 ?_
        refine lv_iload_n hx hb dX7_more_32 rfl (lv_at hl 1 rfl) ?_
        refine lv_iadd hx hb dX7_more_33 ?_
        refine rpput (ci := 6) (C := RX7) (T := TX7) (N := 44) (ty := .int) hx hb hu uX7 tyX7 tyX7_ok nmX7 hown hK hI 0 rfl rfl 20 (by decide) (hu _ uww_622) (fun _ h9 => h9) rfl (by decide +kernel) rfl rfl (Nat.le_of_ble_eq_true rfl) (rpset_0_20 _ _ _ _ _) dX7_more_34 (fun H locs M5 eM5 hI => ?_)
        have h := h M5 eM5
        refine lv_iload_n hx hb dX7_more_37 rfl (lv_at hl 2 rfl) ?_
        exact rpiret (Z := (fun r M' L' => L' = L ∧ Z r M')) hx hb hr hlocks hK hI dX7_more_38 ⟨rfl, h⟩
      · have h := h.2 c4
        refine lv_aload_n hx hb dX7_more_12 rfl (lv_at hl 0 rfl) ?_
        refine va_get (D := (dC, dI)) (ci := 6) (v := .ref (a 3)) (C := RX7) (T := TX7) (N := 44) hx hb hu uX7 hown hK hI.1 0 rfl rfl 19 (by decide) (hu _ uww_552) (fun _ h9 => h9) rfl dX7_more_13 ?_
        refine lv_iload_n hx hb dX7_more_16 rfl (lv_at hl 2 rfl) ?_
        refine lv_iload_n hx hb dX7_more_17 rfl (lv_at hl 3 rfl) ?_
        refine lv_iadd hx hb dX7_more_18 ?_
        refine lv_iconst (v := (0 : Int32)) hx hb dX7_more_19 (by decide) ?_
        refine rpbast hx hb hK hI 3 2 rfl rfl h.1 (rpset_3 _ _ _ _ _ _) dX7_more_20 (fun H locs M6 eM6 hI => ?_)
        have h := h.2 M6 eM6
        obtain ⟨x7, ex7⟩ : ∃ y : Int32, y = (x2 + (1 : Int32)) := ⟨_, rfl⟩
        have h := h x7 ex7
        refine lv_iinc (v := x7) (lv' := [(3, .int x7), (0, .ref (a 0)), (1, .int p1), (2, .int x1)]) hx hb dX7_more_21 hl (k := 3) rfl (by rw [ex7]; rfl) (by decide) rfl (fun ls hl => ?_)
        refine lv_goto (tgt := 7) hx hb dX7_more_24 (by decide) ?_
        exact ih7 x7 M6 _ _ _ h.1 (Nat.lt_of_lt_of_le h.2 (Nat.le_of_lt_succ hn7)) hI (lv_sub hl [1, 2, 3, 0] rfl)
  exact P7 (m7 (0 : Int32) M + 1) (0 : Int32) M _ _ _ h (Nat.lt_succ_self _) hI (lv_sub hl [2, 3, 1, 0] rfl)

abbrev rm_X7_putTwo_3 : Room := { frames := 0, cells := 0, slots := 0, locals := 0 }
abbrev av_X7_putTwo_3 (a t : Nat → Nat) (p1 : Int32) (p2 : Int32) : List Value := [.ref (a 3), .int p1, .int p2]
abbrev qc_X7_putTwo_3 (dC : Nat → ClassId) (dI : Nat → Nat → Nat) (a : Nat → Nat) (kA : Nat → ClassId) (sz : Nat) (M : cM) (L : cL) (Z : cM → Prop) : Array Value → State → Outcome → State → Prop := va_Qv (fun (u : cM × cL) => u.2 = L ∧ Z u.1) (rpAt dC dI a kA (rpA a sz)) (rpA a sz)
set_option maxHeartbeats 4000000 in
set_option maxRecDepth 100000 in
theorem met_X7_putTwo_3 (l : Launch) (dC : Nat → ClassId) (dI : Nat → Nat → Nat) (a : Nat → Nat) (kA : Nat → ClassId) (t : Nat → Nat) (sz : Nat) (M : cM) (L : cL) (p1 : Int32) (p2 : Int32) (Z : cM → Prop) (h : wp_X7_putTwo_3 M L p1 p2 Z) : Met l yX7_putTwo (Cond.code yX7_putTwo cX7_putTwo 3 none :: uW) rm_X7_putTwo_3 (va_Pc (av_X7_putTwo_3 a t p1 p2) (rpPre dC dI a kA t M L sz)) (qc_X7_putTwo_3 dC dI a kA sz M L Z) 0 0 (rpA a sz) := by
  refine rpenter (cc := cX7_putTwo) (n := 3) (ret := none) (by decide) rfl (Nat.le_of_ble_eq_true rfl) ?_
  intro p e s m below meth c ls hx hb hml hr hlocks hown hts hK hE hsz hI hl hmn
  have hu : ∀ w ∈ uW, w.before (av_X7_putTwo_3 a t p1 p2).toArray s = true := fun w h => hts w (List.mem_cons_of_mem _ h)
  have hown : s.vm.findClass RX7 = some m.cls := hown
  have hl : lv_has ls 3 [(0, .ref (a 3)), (1, .int p1), (2, .int p2)] := hl
  unfold wp_X7_putTwo_3 at h
  refine lv_aload_n hx hb dX7_putTwo_0 rfl (lv_at hl 0 rfl) ?_
  refine lv_iload_n hx hb dX7_putTwo_1 rfl (lv_at hl 1 rfl) ?_
  refine lv_iload_n hx hb dX7_putTwo_2 rfl (lv_at hl 2 rfl) ?_
  refine lv_bipush (v := (8 : Int32)) hx hb dX7_putTwo_3 (by decide) ?_
  refine lv_ishr hx hb dX7_putTwo_5 ?_
  refine lv_i2b hx hb dX7_putTwo_6 rfl ?_
  refine rpbast hx hb hK hI 3 2 rfl rfl h.1 (rpset_3 _ _ _ _ _ _) dX7_putTwo_7 (fun H locs M1 eM1 hI => ?_)
  have h := h.2 M1 eM1
  refine lv_aload_n hx hb dX7_putTwo_8 rfl (lv_at hl 0 rfl) ?_
  refine lv_iload_n hx hb dX7_putTwo_9 rfl (lv_at hl 1 rfl) ?_
  refine lv_iconst (v := (1 : Int32)) hx hb dX7_putTwo_10 (by decide) ?_
  refine lv_iadd hx hb dX7_putTwo_11 ?_
  refine lv_iload_n hx hb dX7_putTwo_12 rfl (lv_at hl 2 rfl) ?_
  refine lv_i2b hx hb dX7_putTwo_13 rfl ?_
  refine rpbast hx hb hK hI 3 2 rfl rfl h.1 (rpset_3 _ _ _ _ _ _) dX7_putTwo_14 (fun H locs M2 eM2 hI => ?_)
  have h := h.2 M2 eM2
  exact rpvret (Z := (fun M' L' => L' = L ∧ Z M')) hx hb hr hlocks hK hI dX7_putTwo_15 ⟨rfl, h⟩

abbrev rm_X7_putInt_3 : Room := { frames := 1, cells := 0, slots := 0, locals := 22 }
abbrev av_X7_putInt_3 (a t : Nat → Nat) (p1 : Int32) (p2 : Int32) : List Value := [.ref (a 3), .int p1, .int p2]
abbrev qc_X7_putInt_3 (dC : Nat → ClassId) (dI : Nat → Nat → Nat) (a : Nat → Nat) (kA : Nat → ClassId) (sz : Nat) (M : cM) (L : cL) (Z : cM → Prop) : Array Value → State → Outcome → State → Prop := va_Qv (fun (u : cM × cL) => u.2 = L ∧ Z u.1) (rpAt dC dI a kA (rpA a sz)) (rpA a sz)
set_option maxHeartbeats 4000000 in
set_option maxRecDepth 100000 in
theorem met_X7_putInt_3 (l : Launch) (dC : Nat → ClassId) (dI : Nat → Nat → Nat) (a : Nat → Nat) (kA : Nat → ClassId) (t : Nat → Nat) (sz : Nat) (M : cM) (L : cL) (p1 : Int32) (p2 : Int32) (Z : cM → Prop) (h : wp_X7_putInt_3 M L p1 p2 Z) : Met l yX7_putInt (Cond.code yX7_putInt cX7_putInt 3 none :: uW) rm_X7_putInt_3 (va_Pc (av_X7_putInt_3 a t p1 p2) (rpPre dC dI a kA t M L sz)) (qc_X7_putInt_3 dC dI a kA sz M L Z) 0 0 (rpA a sz) := by
  refine rpenter (cc := cX7_putInt) (n := 3) (ret := none) (by decide) rfl (Nat.le_of_ble_eq_true rfl) ?_
  intro p e s m below meth c ls hx hb hml hr hlocks hown hts hK hE hsz hI hl hmn
  have hu : ∀ w ∈ uW, w.before (av_X7_putInt_3 a t p1 p2).toArray s = true := fun w h => hts w (List.mem_cons_of_mem _ h)
  have hown : s.vm.findClass RX7 = some m.cls := hown
  have hl : lv_has ls 3 [(0, .ref (a 3)), (1, .int p1), (2, .int p2)] := hl
  unfold wp_X7_putInt_3 at h
  refine lv_aload_n hx hb dX7_putInt_0 rfl (lv_at hl 0 rfl) ?_
  refine lv_iload_n hx hb dX7_putInt_1 rfl (lv_at hl 1 rfl) ?_
  refine lv_iload_n hx hb dX7_putInt_2 rfl (lv_at hl 2 rfl) ?_
  refine lv_bipush (v := (16 : Int32)) hx hb dX7_putInt_3 (by decide) ?_
  refine lv_iushr hx hb dX7_putInt_5 rfl ?_
  refine rpcallv_m hsz hI (va_runS (As := [.ref (a 3), .int p1, .int ((p2.toUInt32 >>> ((16 : Int32).toUInt32 &&& Int32.toUInt32 31)).toInt32)]) (rest := []) ⟨hx, hb, hml, hown, hu⟩ (met_X7_putTwo_3 l dC dI a kA t _ M L p1 ((p2.toUInt32 >>> ((16 : Int32).toUInt32 &&& Int32.toUInt32 31)).toInt32) _ h) (cwl_X7_121_S hu ⟨by decide, by decide⟩) (rppreS hK hE hsz hI) rfl rfl hl.1 rfl (lv_room (Nat.le_of_ble_eq_true rfl)) dX7_putInt_6 ⟨by decide, by decide⟩) (fun M1 H locs h hI => ?_)
  refine lv_aload_n hx hb dX7_putInt_9 rfl (lv_at hl 0 rfl) ?_
  refine lv_iload_n hx hb dX7_putInt_10 rfl (lv_at hl 1 rfl) ?_
  refine lv_iconst (v := (2 : Int32)) hx hb dX7_putInt_11 (by decide) ?_
  refine lv_iadd hx hb dX7_putInt_12 ?_
  refine lv_iload_n hx hb dX7_putInt_13 rfl (lv_at hl 2 rfl) ?_
  refine rpcallv_m hsz hI (va_runS (As := [.ref (a 3), .int (p1 + (2 : Int32)), .int p2]) (rest := []) ⟨hx, hb, hml, hown, hu⟩ (met_X7_putTwo_3 l dC dI a kA t _ M1 L (p1 + (2 : Int32)) p2 _ h) (cwl_X7_121_S hu ⟨by decide, by decide⟩) (rppreS hK hE hsz hI) rfl rfl hl.1 rfl (lv_room (Nat.le_of_ble_eq_true rfl)) dX7_putInt_14 ⟨by decide, by decide⟩) (fun M2 H locs h hI => ?_)
  exact rpvret (Z := (fun M' L' => L' = L ∧ Z M')) hx hb hr hlocks hK hI dX7_putInt_17 ⟨rfl, h⟩

abbrev rm_X7_putLong_3 : Room := { frames := 2, cells := 0, slots := 0, locals := 44 }
abbrev av_X7_putLong_3 (a t : Nat → Nat) (p1 : Int32) (p2 : Int64) : List Value := [.ref (a 3), .int p1, .long p2]
abbrev qc_X7_putLong_3 (dC : Nat → ClassId) (dI : Nat → Nat → Nat) (a : Nat → Nat) (kA : Nat → ClassId) (sz : Nat) (M : cM) (L : cL) (Z : cM → Prop) : Array Value → State → Outcome → State → Prop := va_Qv (fun (u : cM × cL) => u.2 = L ∧ Z u.1) (rpAt dC dI a kA (rpA a sz)) (rpA a sz)
set_option maxHeartbeats 4000000 in
set_option maxRecDepth 100000 in
theorem met_X7_putLong_3 (l : Launch) (dC : Nat → ClassId) (dI : Nat → Nat → Nat) (a : Nat → Nat) (kA : Nat → ClassId) (t : Nat → Nat) (sz : Nat) (M : cM) (L : cL) (p1 : Int32) (p2 : Int64) (Z : cM → Prop) (h : wp_X7_putLong_3 M L p1 p2 Z) : Met l yX7_putLong (Cond.code yX7_putLong cX7_putLong 4 none :: uW) rm_X7_putLong_3 (va_Pc (av_X7_putLong_3 a t p1 p2) (rpPre dC dI a kA t M L sz)) (qc_X7_putLong_3 dC dI a kA sz M L Z) 0 0 (rpA a sz) := by
  refine rpenter (cc := cX7_putLong) (n := 4) (ret := none) (by decide) rfl (Nat.le_of_ble_eq_true rfl) ?_
  intro p e s m below meth c ls hx hb hml hr hlocks hown hts hK hE hsz hI hl hmn
  have hu : ∀ w ∈ uW, w.before (av_X7_putLong_3 a t p1 p2).toArray s = true := fun w h => hts w (List.mem_cons_of_mem _ h)
  have hown : s.vm.findClass RX7 = some m.cls := hown
  have hl : lv_has ls 4 [(0, .ref (a 3)), (1, .int p1), (2, .long p2)] := hl
  unfold wp_X7_putLong_3 at h
  refine lv_aload_n hx hb dX7_putLong_0 rfl (lv_at hl 0 rfl) ?_
  refine lv_iload_n hx hb dX7_putLong_1 rfl (lv_at hl 1 rfl) ?_
  refine lv_lload_n hx hb dX7_putLong_2 rfl (lv_at hl 2 rfl) ?_
  refine lv_bipush (v := (32 : Int32)) hx hb dX7_putLong_3 (by decide) ?_
  refine lv_lshr hx hb dX7_putLong_5 rfl ?_
  refine lv_l2i hx hb dX7_putLong_6 rfl ?_
  refine rpcallv_m hsz hI (va_runS (As := [.ref (a 3), .int p1, .int ((p2 >>> ((32 : Int32).toInt64 &&& 63)).toInt32)]) (rest := []) ⟨hx, hb, hml, hown, hu⟩ (met_X7_putInt_3 l dC dI a kA t _ M L p1 ((p2 >>> ((32 : Int32).toInt64 &&& 63)).toInt32) _ h) (cwl_X7_125_S hu ⟨by decide, by decide⟩) (rppreS hK hE hsz hI) rfl rfl hl.1 rfl (lv_room (Nat.le_of_ble_eq_true rfl)) dX7_putLong_7 ⟨by decide, by decide⟩) (fun M1 H locs h hI => ?_)
  refine lv_aload_n hx hb dX7_putLong_10 rfl (lv_at hl 0 rfl) ?_
  refine lv_iload_n hx hb dX7_putLong_11 rfl (lv_at hl 1 rfl) ?_
  refine lv_iconst (v := (4 : Int32)) hx hb dX7_putLong_12 (by decide) ?_
  refine lv_iadd hx hb dX7_putLong_13 ?_
  refine lv_lload_n hx hb dX7_putLong_14 rfl (lv_at hl 2 rfl) ?_
  refine lv_l2i hx hb dX7_putLong_15 rfl ?_
  refine rpcallv_m hsz hI (va_runS (As := [.ref (a 3), .int (p1 + (4 : Int32)), .int (p2.toInt32)]) (rest := []) ⟨hx, hb, hml, hown, hu⟩ (met_X7_putInt_3 l dC dI a kA t _ M1 L (p1 + (4 : Int32)) (p2.toInt32) _ h) (cwl_X7_125_S hu ⟨by decide, by decide⟩) (rppreS hK hE hsz hI) rfl rfl hl.1 rfl (lv_room (Nat.le_of_ble_eq_true rfl)) dX7_putLong_16 ⟨by decide, by decide⟩) (fun M2 H locs h hI => ?_)
  exact rpvret (Z := (fun M' L' => L' = L ∧ Z M')) hx hb hr hlocks hK hI dX7_putLong_19 ⟨rfl, h⟩

abbrev rm_X7_head6_0 : Room := { frames := 3, cells := 0, slots := 0, locals := 67 }
abbrev av_X7_head6_0 (a t : Nat → Nat) (p1 : Int32) (p2 : Int32) (p3 : Int32) (p4 : Int32) (p5 : Int32) (p6 : Int32) (p7 : Int32) (p8 : Int32) : List Value := [.ref (a 0), .int p1, .int p2, .int p3, .int p4, .int p5, .int p6, .int p7, .int p8]
abbrev qc_X7_head6_0 (dC : Nat → ClassId) (dI : Nat → Nat → Nat) (a : Nat → Nat) (kA : Nat → ClassId) (sz : Nat) (M : cM) (L : cL) (Z : cM → Prop) : Array Value → State → Outcome → State → Prop := va_Qv (fun (u : cM × cL) => u.2 = L ∧ Z u.1) (rpAt dC dI a kA (rpA a sz)) (rpA a sz)
set_option maxHeartbeats 4000000 in
set_option maxRecDepth 100000 in
theorem met_X7_head6_0 (l : Launch) (dC : Nat → ClassId) (dI : Nat → Nat → Nat) (a : Nat → Nat) (kA : Nat → ClassId) (t : Nat → Nat) (sz : Nat) (M : cM) (L : cL) (p1 : Int32) (p2 : Int32) (p3 : Int32) (p4 : Int32) (p5 : Int32) (p6 : Int32) (p7 : Int32) (p8 : Int32) (Z : cM → Prop) (h : wp_X7_head6_0 M L p1 p2 p3 p4 p5 p6 p7 p8 Z) : Met l yX7_head6 (Cond.code yX7_head6 cX7_head6 10 none :: uW) rm_X7_head6_0 (va_Pc (av_X7_head6_0 a t p1 p2 p3 p4 p5 p6 p7 p8) (rpPre dC dI a kA t M L sz)) (qc_X7_head6_0 dC dI a kA sz M L Z) 0 0 (rpA a sz) := by
  refine rpenter (cc := cX7_head6) (n := 10) (ret := none) (by decide) rfl (Nat.le_of_ble_eq_true rfl) ?_
  intro p e s m below meth c ls hx hb hml hr hlocks hown hts hK hE hsz hI hl hmn
  have hu : ∀ w ∈ uW, w.before (av_X7_head6_0 a t p1 p2 p3 p4 p5 p6 p7 p8).toArray s = true := fun w h => hts w (List.mem_cons_of_mem _ h)
  have hown : s.vm.findClass RX7 = some m.cls := hown
  have hl : lv_has ls 10 [(0, .ref (a 0)), (1, .int p1), (2, .int p2), (3, .int p3), (4, .int p4), (5, .int p5), (6, .int p6), (7, .int p7), (8, .int p8)] := hl
  unfold wp_X7_head6_0 at h
  refine lv_aload_n hx hb dX7_head6_0 rfl (lv_at hl 0 rfl) ?_
  refine va_get (D := (dC, dI)) (ci := 6) (v := .int (M 0 35)) (C := RX7) (T := TX7) (N := 44) hx hb hu uX7 hown hK hI.1 0 rfl rfl 35 (by decide) (hu _ uww_671) (fun _ h9 => h9) rfl dX7_head6_1 ?_
  refine lv_iconst (v := (1 : Int32)) hx hb dX7_head6_4 (by decide) ?_
  obtain ⟨K17, hK17, h⟩ := h
  have J17 : ∀ (v1 : Int32) (H : Heap) (locs : List Loc) (ls : Array Slot), K17 v1 → rpI dC dI a kA (rpA a sz) s M L H locs → lv_has ls 10 [(0, .ref (a 0)), (1, .int p1), (2, .int p2), (3, .int p3), (4, .int p4), (5, .int p5), (6, .int p6), (7, .int p7), (8, .int p8)] → W p l e rm_X7_head6_0 s m (av_X7_head6_0 a t p1 p2 p3 p4 p5 p6 p7 p8).toArray below meth c H locs 0 0 (MQ below (qc_X7_head6_0 dC dI a kA sz M L Z) (av_X7_head6_0 a t p1 p2 p3 p4 p5 p6 p7 p8).toArray s 0 0 (rpA a sz)) (F0 m 17 ls [.int v1]) := by
    intro v1 H locs ls h hI hl
    have h := hK17 v1 h
    refine lv_istore (lv' := [(9, .int v1), (0, .ref (a 0)), (1, .int p1), (2, .int p2), (3, .int p3), (4, .int p4), (5, .int p5), (6, .int p6), (7, .int p7), (8, .int p8)]) hx hb dX7_head6_17 hl (by decide) rfl (fun ls hl => ?_)
    refine lv_aload_n hx hb dX7_head6_19 rfl (lv_at hl 1 rfl) ?_
    refine va_get (D := (dC, dI)) (ci := 6) (v := .ref (a 3)) (C := RX7) (T := TX7) (N := 44) hx hb hu uX7 hown hK hI.1 0 rfl rfl 19 (by decide) (hu _ uww_552) (fun _ h9 => h9) rfl dX7_head6_20 ?_
    refine lv_iload_n hx hb dX7_head6_23 rfl (lv_at hl 2 rfl) ?_
    refine lv_ldcw (own := RX7) (v := (1610612736 : Int32)) hx hb hown (hu _ uww_751) dX7_head6_24 ?_
    refine lv_aload_n hx hb dX7_head6_27 rfl (lv_at hl 1 rfl) ?_
    refine va_get (D := (dC, dI)) (ci := 6) (v := .int (M 0 11)) (C := RX7) (T := TX7) (N := 44) hx hb hu uX7 hown hK hI.1 0 rfl rfl 11 (by decide) (hu _ uww_549) (fun _ h9 => h9) rfl dX7_head6_28 ?_
    obtain ⟨K42, hK42, h⟩ := h
    have J42 : ∀ (v2 : Int32) (H : Heap) (locs : List Loc) (ls : Array Slot), K42 v2 → rpI dC dI a kA (rpA a sz) s M L H locs → lv_has ls 10 [(0, .ref (a 0)), (1, .int p1), (3, .int p3), (4, .int p4), (5, .int p5), (6, .int p6), (7, .int p7), (8, .int p8), (9, .int v1)] → W p l e rm_X7_head6_0 s m (av_X7_head6_0 a t p1 p2 p3 p4 p5 p6 p7 p8).toArray below meth c H locs 0 0 (MQ below (qc_X7_head6_0 dC dI a kA sz M L Z) (av_X7_head6_0 a t p1 p2 p3 p4 p5 p6 p7 p8).toArray s 0 0 (rpA a sz)) (F0 m 42 ls [.int v2, .int (1610612736 : Int32), .int p1, .ref (a 3)]) := by
      intro v2 H locs ls h hI hl
      have h := hK42 v2 h
      refine lv_ior hx hb dX7_head6_42 ?_
      refine rpcallv_m hsz hI (va_runS (As := [.ref (a 3), .int p1, .int ((1610612736 : Int32) ||| v2)]) (rest := []) ⟨hx, hb, hml, hown, hu⟩ (met_X7_putInt_3 l dC dI a kA t _ M L p1 ((1610612736 : Int32) ||| v2) _ h) (cwl_X7_125_S hu ⟨by decide, by decide⟩) (rppreS hK hE hsz hI) rfl rfl hl.1 rfl (lv_room (Nat.le_of_ble_eq_true rfl)) dX7_head6_43 ⟨by decide, by decide⟩) (fun M3 H locs h hI => ?_)
      refine lv_aload_n hx hb dX7_head6_46 rfl (lv_at hl 0 rfl) ?_
      refine va_get (D := (dC, dI)) (ci := 6) (v := .ref (a 3)) (C := RX7) (T := TX7) (N := 44) hx hb hu uX7 hown hK hI.1 0 rfl rfl 19 (by decide) (hu _ uww_552) (fun _ h9 => h9) rfl dX7_head6_47 ?_
      refine lv_iload_n hx hb dX7_head6_50 rfl (lv_at hl 1 rfl) ?_
      refine lv_iconst (v := (4 : Int32)) hx hb dX7_head6_51 (by decide) ?_
      refine lv_iadd hx hb dX7_head6_52 ?_
      refine lv_iload_n hx hb dX7_head6_53 rfl (lv_at hl 2 rfl) ?_
      refine rpcallv_m hsz hI (va_runS (As := [.ref (a 3), .int (p1 + (4 : Int32)), .int p3]) (rest := []) ⟨hx, hb, hml, hown, hu⟩ (met_X7_putTwo_3 l dC dI a kA t _ M3 L (p1 + (4 : Int32)) p3 _ h) (cwl_X7_121_S hu ⟨by decide, by decide⟩) (rppreS hK hE hsz hI) rfl rfl hl.1 rfl (lv_room (Nat.le_of_ble_eq_true rfl)) dX7_head6_54 ⟨by decide, by decide⟩) (fun M4 H locs h hI => ?_)
      refine lv_aload_n hx hb dX7_head6_57 rfl (lv_at hl 0 rfl) ?_
      refine va_get (D := (dC, dI)) (ci := 6) (v := .ref (a 3)) (C := RX7) (T := TX7) (N := 44) hx hb hu uX7 hown hK hI.1 0 rfl rfl 19 (by decide) (hu _ uww_552) (fun _ h9 => h9) rfl dX7_head6_58 ?_
      refine lv_iload_n hx hb dX7_head6_61 rfl (lv_at hl 1 rfl) ?_
      refine lv_bipush (v := (6 : Int32)) hx hb dX7_head6_62 (by decide) ?_
      refine lv_iadd hx hb dX7_head6_64 ?_
      refine lv_iload hx hb dX7_head6_65 (lv_at hl 4 rfl) ?_
      obtain ⟨K77, hK77, h⟩ := h
      have J77 : ∀ (v5 : Int32) (H : Heap) (locs : List Loc) (ls : Array Slot), K77 v5 → rpI dC dI a kA (rpA a sz) s M4 L H locs → lv_has ls 10 [(0, .ref (a 0)), (1, .int p1), (4, .int p4), (5, .int p5), (6, .int p6), (7, .int p7), (8, .int p8), (9, .int v1)] → W p l e rm_X7_head6_0 s m (av_X7_head6_0 a t p1 p2 p3 p4 p5 p6 p7 p8).toArray below meth c H locs 0 0 (MQ below (qc_X7_head6_0 dC dI a kA sz M L Z) (av_X7_head6_0 a t p1 p2 p3 p4 p5 p6 p7 p8).toArray s 0 0 (rpA a sz)) (F0 m 77 ls [.int v5, .int (p1 + (6 : Int32)), .ref (a 3)]) := by
        intro v5 H locs ls h hI hl
        have h := hK77 v5 h
        refine lv_i2b hx hb dX7_head6_77 rfl ?_
        refine rpbast hx hb hK hI 3 2 rfl rfl h.1 (rpset_3 _ _ _ _ _ _) dX7_head6_78 (fun H locs M6 eM6 hI => ?_)
        have h := h.2 M6 eM6
        refine lv_aload_n hx hb dX7_head6_79 rfl (lv_at hl 0 rfl) ?_
        refine va_get (D := (dC, dI)) (ci := 6) (v := .ref (a 3)) (C := RX7) (T := TX7) (N := 44) hx hb hu uX7 hown hK hI.1 0 rfl rfl 19 (by decide) (hu _ uww_552) (fun _ h9 => h9) rfl dX7_head6_80 ?_
        refine lv_iload_n hx hb dX7_head6_83 rfl (lv_at hl 1 rfl) ?_
        refine lv_bipush (v := (7 : Int32)) hx hb dX7_head6_84 (by decide) ?_
        refine lv_iadd hx hb dX7_head6_86 ?_
        refine lv_iload hx hb dX7_head6_87 (lv_at hl 2 rfl) ?_
        refine lv_i2b hx hb dX7_head6_89 rfl ?_
        refine rpbast hx hb hK hI 3 2 rfl rfl h.1 (rpset_3 _ _ _ _ _ _) dX7_head6_90 (fun H locs M7 eM7 hI => ?_)
        have h := h.2 M7 eM7
        refine lv_aload_n hx hb dX7_head6_91 rfl (lv_at hl 0 rfl) ?_
        refine va_get (D := (dC, dI)) (ci := 6) (v := .ref (a 3)) (C := RX7) (T := TX7) (N := 44) hx hb hu uX7 hown hK hI.1 0 rfl rfl 19 (by decide) (hu _ uww_552) (fun _ h9 => h9) rfl dX7_head6_92 ?_
        refine lv_iload_n hx hb dX7_head6_95 rfl (lv_at hl 1 rfl) ?_
        refine lv_bipush (v := (8 : Int32)) hx hb dX7_head6_96 (by decide) ?_
        refine lv_iadd hx hb dX7_head6_98 ?_
        refine lv_aload_n hx hb dX7_head6_99 rfl (lv_at hl 0 rfl) ?_
        refine va_get (D := (dC, dI)) (ci := 6) (v := .long (L 0 27)) (C := RX7) (T := TX7) (N := 44) hx hb hu uX7 hown hK hI.1 0 rfl rfl 27 (by decide) (hu _ uww_630) (fun _ h9 => h9) rfl dX7_head6_100 ?_
        refine rpcallv_m hsz hI (va_runS (As := [.ref (a 3), .int (p1 + (8 : Int32)), .long (L 0 27)]) (rest := []) ⟨hx, hb, hml, hown, hu⟩ (met_X7_putLong_3 l dC dI a kA t _ M7 L (p1 + (8 : Int32)) (L 0 27) _ h) (cwl_X7_265_S hu ⟨by decide, by decide⟩) (rppreS hK hE hsz hI) rfl rfl hl.1 rfl (lv_room (Nat.le_of_ble_eq_true rfl)) dX7_head6_103 ⟨by decide, by decide⟩) (fun M8 H locs h hI => ?_)
        refine lv_aload_n hx hb dX7_head6_106 rfl (lv_at hl 0 rfl) ?_
        refine va_get (D := (dC, dI)) (ci := 6) (v := .ref (a 3)) (C := RX7) (T := TX7) (N := 44) hx hb hu uX7 hown hK hI.1 0 rfl rfl 19 (by decide) (hu _ uww_552) (fun _ h9 => h9) rfl dX7_head6_107 ?_
        refine lv_iload_n hx hb dX7_head6_110 rfl (lv_at hl 1 rfl) ?_
        refine lv_bipush (v := (16 : Int32)) hx hb dX7_head6_111 (by decide) ?_
        refine lv_iadd hx hb dX7_head6_113 ?_
        refine lv_aload_n hx hb dX7_head6_114 rfl (lv_at hl 0 rfl) ?_
        refine va_get (D := (dC, dI)) (ci := 6) (v := .long (L 0 28)) (C := RX7) (T := TX7) (N := 44) hx hb hu uX7 hown hK hI.1 0 rfl rfl 28 (by decide) (hu _ uww_631) (fun _ h9 => h9) rfl dX7_head6_115 ?_
        refine rpcallv_m hsz hI (va_runS (As := [.ref (a 3), .int (p1 + (16 : Int32)), .long (L 0 28)]) (rest := []) ⟨hx, hb, hml, hown, hu⟩ (met_X7_putLong_3 l dC dI a kA t _ M8 L (p1 + (16 : Int32)) (L 0 28) _ h) (cwl_X7_265_S hu ⟨by decide, by decide⟩) (rppreS hK hE hsz hI) rfl rfl hl.1 rfl (lv_room (Nat.le_of_ble_eq_true rfl)) dX7_head6_118 ⟨by decide, by decide⟩) (fun M9 H locs h hI => ?_)
        refine lv_aload_n hx hb dX7_head6_121 rfl (lv_at hl 0 rfl) ?_
        refine va_get (D := (dC, dI)) (ci := 6) (v := .ref (a 3)) (C := RX7) (T := TX7) (N := 44) hx hb hu uX7 hown hK hI.1 0 rfl rfl 19 (by decide) (hu _ uww_552) (fun _ h9 => h9) rfl dX7_head6_122 ?_
        refine lv_iload_n hx hb dX7_head6_125 rfl (lv_at hl 1 rfl) ?_
        refine lv_bipush (v := (24 : Int32)) hx hb dX7_head6_126 (by decide) ?_
        refine lv_iadd hx hb dX7_head6_128 ?_
        refine lv_aload_n hx hb dX7_head6_129 rfl (lv_at hl 0 rfl) ?_
        refine va_get (D := (dC, dI)) (ci := 6) (v := .long (L 0 29)) (C := RX7) (T := TX7) (N := 44) hx hb hu uX7 hown hK hI.1 0 rfl rfl 29 (by decide) (hu _ uww_632) (fun _ h9 => h9) rfl dX7_head6_130 ?_
        refine rpcallv_m hsz hI (va_runS (As := [.ref (a 3), .int (p1 + (24 : Int32)), .long (L 0 29)]) (rest := []) ⟨hx, hb, hml, hown, hu⟩ (met_X7_putLong_3 l dC dI a kA t _ M9 L (p1 + (24 : Int32)) (L 0 29) _ h) (cwl_X7_265_S hu ⟨by decide, by decide⟩) (rppreS hK hE hsz hI) rfl rfl hl.1 rfl (lv_room (Nat.le_of_ble_eq_true rfl)) dX7_head6_133 ⟨by decide, by decide⟩) (fun M10 H locs h hI => ?_)
        refine lv_aload_n hx hb dX7_head6_136 rfl (lv_at hl 0 rfl) ?_
        refine va_get (D := (dC, dI)) (ci := 6) (v := .ref (a 3)) (C := RX7) (T := TX7) (N := 44) hx hb hu uX7 hown hK hI.1 0 rfl rfl 19 (by decide) (hu _ uww_552) (fun _ h9 => h9) rfl dX7_head6_137 ?_
        refine lv_iload_n hx hb dX7_head6_140 rfl (lv_at hl 1 rfl) ?_
        refine lv_bipush (v := (32 : Int32)) hx hb dX7_head6_141 (by decide) ?_
        refine lv_iadd hx hb dX7_head6_143 ?_
        refine lv_aload_n hx hb dX7_head6_144 rfl (lv_at hl 0 rfl) ?_
        refine va_get (D := (dC, dI)) (ci := 6) (v := .long (L 0 30)) (C := RX7) (T := TX7) (N := 44) hx hb hu uX7 hown hK hI.1 0 rfl rfl 30 (by decide) (hu _ uww_633) (fun _ h9 => h9) rfl dX7_head6_145 ?_
        refine rpcallv_m hsz hI (va_runS (As := [.ref (a 3), .int (p1 + (32 : Int32)), .long (L 0 30)]) (rest := []) ⟨hx, hb, hml, hown, hu⟩ (met_X7_putLong_3 l dC dI a kA t _ M10 L (p1 + (32 : Int32)) (L 0 30) _ h) (cwl_X7_265_S hu ⟨by decide, by decide⟩) (rppreS hK hE hsz hI) rfl rfl hl.1 rfl (lv_room (Nat.le_of_ble_eq_true rfl)) dX7_head6_148 ⟨by decide, by decide⟩) (fun M11 H locs h hI => ?_)
        refine lv_iload hx hb dX7_head6_151 (lv_at hl 3 rfl) ?_
        refine lv_if_ne (tgt := 157) hx hb dX7_head6_153 (by decide) (fun c12 => ?_) (fun c12 => ?_)
        · have h := h.1 c12
          refine lv_aload_n hx hb dX7_head6_157 rfl (lv_at hl 0 rfl) ?_
          refine va_get (D := (dC, dI)) (ci := 6) (v := .ref (a 3)) (C := RX7) (T := TX7) (N := 44) hx hb hu uX7 hown hK hI.1 0 rfl rfl 19 (by decide) (hu _ uww_552) (fun _ h9 => h9) rfl dX7_head6_158 ?_
          refine lv_iload_n hx hb dX7_head6_161 rfl (lv_at hl 1 rfl) ?_
          refine lv_bipush (v := (40 : Int32)) hx hb dX7_head6_162 (by decide) ?_
          refine lv_iadd hx hb dX7_head6_164 ?_
          refine lv_iload hx hb dX7_head6_165 (lv_at hl 7 rfl) ?_
          refine lv_i2b hx hb dX7_head6_167 rfl ?_
          refine rpbast hx hb hK hI 3 2 rfl rfl h.1 (rpset_3 _ _ _ _ _ _) dX7_head6_168 (fun H locs M13 eM13 hI => ?_)
          have h := h.2 M13 eM13
          refine lv_aload_n hx hb dX7_head6_169 rfl (lv_at hl 0 rfl) ?_
          refine va_get (D := (dC, dI)) (ci := 6) (v := .ref (a 3)) (C := RX7) (T := TX7) (N := 44) hx hb hu uX7 hown hK hI.1 0 rfl rfl 19 (by decide) (hu _ uww_552) (fun _ h9 => h9) rfl dX7_head6_170 ?_
          refine lv_iload_n hx hb dX7_head6_173 rfl (lv_at hl 1 rfl) ?_
          refine lv_bipush (v := (42 : Int32)) hx hb dX7_head6_174 (by decide) ?_
          refine lv_iadd hx hb dX7_head6_176 ?_
          refine lv_iload hx hb dX7_head6_177 (lv_at hl 4 rfl) ?_
          refine lv_iload hx hb dX7_head6_179 (lv_at hl 5 rfl) ?_
          obtain ⟨K189, hK189, h⟩ := h
          have J189 : ∀ (v14 : Int32) (H : Heap) (locs : List Loc) (ls : Array Slot), K189 v14 → rpI dC dI a kA (rpA a sz) s M13 L H locs → lv_has ls 10 [(0, .ref (a 0)), (1, .int p1), (8, .int p8)] → W p l e rm_X7_head6_0 s m (av_X7_head6_0 a t p1 p2 p3 p4 p5 p6 p7 p8).toArray below meth c H locs 0 0 (MQ below (qc_X7_head6_0 dC dI a kA sz M L Z) (av_X7_head6_0 a t p1 p2 p3 p4 p5 p6 p7 p8).toArray s 0 0 (rpA a sz)) (F0 m 189 ls [.int v14, .int p6, .int (p1 + (42 : Int32)), .ref (a 3)]) := by
            intro v14 H locs ls h hI hl
            have h := hK189 v14 h
            refine lv_ior hx hb dX7_head6_189 ?_
            refine rpcallv_m hsz hI (va_runS (As := [.ref (a 3), .int (p1 + (42 : Int32)), .int (p6 ||| v14)]) (rest := []) ⟨hx, hb, hml, hown, hu⟩ (met_X7_putTwo_3 l dC dI a kA t _ M13 L (p1 + (42 : Int32)) (p6 ||| v14) _ h) (cwl_X7_121_S hu ⟨by decide, by decide⟩) (rppreS hK hE hsz hI) rfl rfl hl.1 rfl (lv_room (Nat.le_of_ble_eq_true rfl)) dX7_head6_190 ⟨by decide, by decide⟩) (fun M15 H locs h hI => ?_)
            refine lv_aload_n hx hb dX7_head6_193 rfl (lv_at hl 0 rfl) ?_
            refine va_get (D := (dC, dI)) (ci := 6) (v := .ref (a 3)) (C := RX7) (T := TX7) (N := 44) hx hb hu uX7 hown hK hI.1 0 rfl rfl 19 (by decide) (hu _ uww_552) (fun _ h9 => h9) rfl dX7_head6_194 ?_
            refine lv_iload_n hx hb dX7_head6_197 rfl (lv_at hl 1 rfl) ?_
            refine lv_bipush (v := (44 : Int32)) hx hb dX7_head6_198 (by decide) ?_
            refine lv_iadd hx hb dX7_head6_200 ?_
            refine lv_iload hx hb dX7_head6_201 (lv_at hl 2 rfl) ?_
            refine rpcallv_m hsz hI (va_runS (As := [.ref (a 3), .int (p1 + (44 : Int32)), .int p8]) (rest := []) ⟨hx, hb, hml, hown, hu⟩ (met_X7_putInt_3 l dC dI a kA t _ M15 L (p1 + (44 : Int32)) p8 _ h) (cwl_X7_125_S hu ⟨by decide, by decide⟩) (rppreS hK hE hsz hI) rfl rfl hl.1 rfl (lv_room (Nat.le_of_ble_eq_true rfl)) dX7_head6_203 ⟨by decide, by decide⟩) (fun M16 H locs h hI => ?_)
            exact rpvret (Z := (fun M' L' => L' = L ∧ Z M')) hx hb hr hlocks hK hI dX7_head6_206 ⟨rfl, h⟩
          refine lv_if_eq (tgt := 188) hx hb dX7_head6_181 (by decide) (fun c17 => ?_) (fun c17 => ?_)
          · have h := h.1 c17
            refine lv_iconst (v := (0 : Int32)) hx hb dX7_head6_188 (by decide) ?_
            exact J189 (0 : Int32) _ _ _ h hI (lv_sub hl [0, 1, 6] rfl)
          · have h := h.2 c17
            refine lv_iconst (v := (1 : Int32)) hx hb dX7_head6_184 (by decide) ?_
            refine lv_goto (tgt := 189) hx hb dX7_head6_185 (by decide) ?_
            exact J189 (1 : Int32) _ _ _ h hI (lv_sub hl [0, 1, 6] rfl)
        · have h := h.2 c12
          exact rpvret (Z := (fun M' L' => L' = L ∧ Z M')) hx hb hr hlocks hK hI dX7_head6_156 ⟨rfl, h⟩
      refine lv_if_eq (tgt := 75) hx hb dX7_head6_67 (by decide) (fun c18 => ?_) (fun c18 => ?_)
      · have h := h.1 c18
        refine lv_iload hx hb dX7_head6_75 (lv_at hl 8 rfl) ?_
        exact J77 v1 _ _ _ h hI (lv_sub hl [0, 1, 3, 4, 5, 6, 7, 8] rfl)
      · have h := h.2 c18
        refine lv_bipush (v := (44 : Int32)) hx hb dX7_head6_70 (by decide) ?_
        refine lv_goto (tgt := 77) hx hb dX7_head6_72 (by decide) ?_
        exact J77 (44 : Int32) _ _ _ h hI (lv_sub hl [0, 1, 3, 4, 5, 6, 7, 8] rfl)
    refine lv_if_eq (tgt := 41) hx hb dX7_head6_31 (by decide) (fun c19 => ?_) (fun c19 => ?_)
    · have h := h.1 c19
      refine lv_iconst (v := (0 : Int32)) hx hb dX7_head6_41 (by decide) ?_
      exact J42 (0 : Int32) _ _ _ h hI (lv_sub hl [1, 2, 4, 5, 6, 7, 8, 9, 0] rfl)
    · have h := h.2 c19
      refine lv_iload_n hx hb dX7_head6_34 rfl (lv_at hl 3 rfl) ?_
      refine lv_bipush (v := (20 : Int32)) hx hb dX7_head6_35 (by decide) ?_
      refine lv_ishl hx hb dX7_head6_37 ?_
      refine lv_goto (tgt := 42) hx hb dX7_head6_38 (by decide) ?_
      exact J42 (p2 <<< ((20 : Int32) &&& 31)) _ _ _ h hI (lv_sub hl [1, 2, 4, 5, 6, 7, 8, 9, 0] rfl)
  refine lv_icmp_ne (tgt := 13) hx hb dX7_head6_5 (by decide) (fun c20 => ?_) (fun c20 => ?_)
  · have h := h.1 c20
    refine lv_aload_n hx hb dX7_head6_13 rfl (lv_at hl 0 rfl) ?_
    refine va_get (D := (dC, dI)) (ci := 6) (v := .int (M 0 35)) (C := RX7) (T := TX7) (N := 44) hx hb hu uX7 hown hK hI.1 0 rfl rfl 35 (by decide) (hu _ uww_671) (fun _ h9 => h9) rfl dX7_head6_14 ?_
    exact J17 (M 0 35) _ _ _ h hI (lv_sub hl [0, 1, 2, 3, 4, 5, 6, 7, 8] rfl)
  · have h := h.2 c20
    refine lv_bipush (v := (58 : Int32)) hx hb dX7_head6_8 (by decide) ?_
    refine lv_goto (tgt := 17) hx hb dX7_head6_10 (by decide) ?_
    exact J17 (58 : Int32) _ _ _ h hI (lv_sub hl [0, 1, 2, 3, 4, 5, 6, 7, 8] rfl)

abbrev rm_X7_isPart_0 : Room := { frames := 0, cells := 0, slots := 0, locals := 0 }
abbrev av_X7_isPart_0 (a t : Nat → Nat)  : List Value := [.ref (a 0)]
abbrev qc_X7_isPart_0 (dC : Nat → ClassId) (dI : Nat → Nat → Nat) (a : Nat → Nat) (kA : Nat → ClassId) (sz : Nat) (M : cM) (L : cL) (Z : cM → Prop) : Array Value → State → Outcome → State → Prop := va_Qv (fun (u : cM × cL) => u.2 = L ∧ Z u.1) (rpAt dC dI a kA (rpA a sz)) (rpA a sz)
set_option maxHeartbeats 4000000 in
set_option maxRecDepth 100000 in
theorem met_X7_isPart_0 (l : Launch) (dC : Nat → ClassId) (dI : Nat → Nat → Nat) (a : Nat → Nat) (kA : Nat → ClassId) (t : Nat → Nat) (sz : Nat) (M : cM) (L : cL)  (Z : cM → Prop) (h : wp_X7_isPart_0 M L  Z) : Met l yX7_isPart (Cond.code yX7_isPart cX7_isPart 1 none :: uW) rm_X7_isPart_0 (va_Pc (av_X7_isPart_0 a t ) (rpPre dC dI a kA t M L sz)) (qc_X7_isPart_0 dC dI a kA sz M L Z) 0 0 (rpA a sz) := by
  refine rpenter (cc := cX7_isPart) (n := 1) (ret := none) (by decide) rfl (Nat.le_of_ble_eq_true rfl) ?_
  intro p e s m below meth c ls hx hb hml hr hlocks hown hts hK hE hsz hI hl hmn
  have hu : ∀ w ∈ uW, w.before (av_X7_isPart_0 a t ).toArray s = true := fun w h => hts w (List.mem_cons_of_mem _ h)
  have hown : s.vm.findClass RX7 = some m.cls := hown
  have hl : lv_has ls 1 [(0, .ref (a 0))] := hl
  unfold wp_X7_isPart_0 at h
  refine lv_aload_n hx hb dX7_isPart_0 rfl (lv_at hl 0 rfl) ?_
  refine lv_dup hx hb dX7_isPart_1 rfl ?_
  refine va_get (D := (dC, dI)) (ci := 6) (v := .int (M 0 22)) (C := RX7) (T := TX7) (N := 44) hx hb hu uX7 hown hK hI.1 0 rfl rfl 22 (by decide) (hu _ uww_624) (fun _ h9 => h9) rfl dX7_isPart_2 ?_
  refine lv_iconst (v := (1 : Int32)) hx hb dX7_isPart_5 (by decide) ?_
  refine lv_iadd hx hb dX7_isPart_6 ?_
  refine rpput (ci := 6) (C := RX7) (T := TX7) (N := 44) (ty := .int) hx hb hu uX7 tyX7 tyX7_ok nmX7 hown hK hI 0 rfl rfl 22 (by decide) (hu _ uww_624) (fun _ h9 => h9) rfl (by decide +kernel) rfl rfl (Nat.le_of_ble_eq_true rfl) (rpset_0_22 _ _ _ _ _) dX7_isPart_7 (fun H locs M1 eM1 hI => ?_)
  have h := h M1 eM1
  refine lv_aload_n hx hb dX7_isPart_10 rfl (lv_at hl 0 rfl) ?_
  refine va_get (D := (dC, dI)) (ci := 6) (v := .ref (a 4)) (C := RX7) (T := TX7) (N := 44) hx hb hu uX7 hown hK hI.1 0 rfl rfl 21 (by decide) (hu _ uww_553) (fun _ h9 => h9) rfl dX7_isPart_11 ?_
  refine lv_aload_n hx hb dX7_isPart_14 rfl (lv_at hl 0 rfl) ?_
  refine va_get (D := (dC, dI)) (ci := 6) (v := .int (M1 0 22)) (C := RX7) (T := TX7) (N := 44) hx hb hu uX7 hown hK hI.1 0 rfl rfl 22 (by decide) (hu _ uww_624) (fun _ h9 => h9) rfl dX7_isPart_15 ?_
  refine lv_aload_n hx hb dX7_isPart_18 rfl (lv_at hl 0 rfl) ?_
  refine va_get (D := (dC, dI)) (ci := 6) (v := .int (M1 0 20)) (C := RX7) (T := TX7) (N := 44) hx hb hu uX7 hown hK hI.1 0 rfl rfl 20 (by decide) (hu _ uww_622) (fun _ h9 => h9) rfl dX7_isPart_19 ?_
  refine rpiast hx hb hK hI 4 3 rfl rfl h.1 (rpset_4 _ _ _ _ _ _) dX7_isPart_22 (fun H locs M2 eM2 hI => ?_)
  have h := h.2 M2 eM2
  exact rpvret (Z := (fun M' L' => L' = L ∧ Z M')) hx hb hr hlocks hK hI dX7_isPart_23 ⟨rfl, h⟩

abbrev rm_X7_tell_0 : Room := { frames := 0, cells := 0, slots := 0, locals := 0 }
abbrev av_X7_tell_0 (a t : Nat → Nat) (p1 : Int32) : List Value := [.ref (a 0), .int p1]
abbrev qc_X7_tell_0 (dC : Nat → ClassId) (dI : Nat → Nat → Nat) (a : Nat → Nat) (kA : Nat → ClassId) (sz : Nat) (M : cM) (L : cL) (Z : Int32 → cM → Prop) : Array Value → State → Outcome → State → Prop := va_Qi (fun r (u : cM × cL) => u.2 = L ∧ Z r u.1) (rpAt dC dI a kA (rpA a sz)) (rpA a sz)
set_option maxHeartbeats 4000000 in
set_option maxRecDepth 100000 in
theorem met_X7_tell_0 (l : Launch) (dC : Nat → ClassId) (dI : Nat → Nat → Nat) (a : Nat → Nat) (kA : Nat → ClassId) (t : Nat → Nat) (sz : Nat) (M : cM) (L : cL) (p1 : Int32) (Z : Int32 → cM → Prop) (h : wp_X7_tell_0 M L p1 Z) : Met l yX7_tell (Cond.code yX7_tell cX7_tell 2 (some .int) :: uW) rm_X7_tell_0 (va_Pc (av_X7_tell_0 a t p1) (rpPre dC dI a kA t M L sz)) (qc_X7_tell_0 dC dI a kA sz M L Z) 0 0 (rpA a sz) := by
  refine rpenter (cc := cX7_tell) (n := 2) (ret := (some .int)) (by decide) rfl (Nat.le_of_ble_eq_true rfl) ?_
  intro p e s m below meth c ls hx hb hml hr hlocks hown hts hK hE hsz hI hl hmn
  have hu : ∀ w ∈ uW, w.before (av_X7_tell_0 a t p1).toArray s = true := fun w h => hts w (List.mem_cons_of_mem _ h)
  have hown : s.vm.findClass RX7 = some m.cls := hown
  have hl : lv_has ls 2 [(0, .ref (a 0)), (1, .int p1)] := hl
  unfold wp_X7_tell_0 at h
  refine lv_aload_n hx hb dX7_tell_0 rfl (lv_at hl 0 rfl) ?_
  refine va_get (D := (dC, dI)) (ci := 6) (v := .ref (a 2)) (C := RX7) (T := TX7) (N := 44) hx hb hu uX7 hown hK hI.1 0 rfl rfl 13 (by decide) (hu _ uww_551) (fun _ h9 => h9) rfl dX7_tell_1 ?_
  refine lv_iload_n hx hb dX7_tell_4 rfl (lv_at hl 1 rfl) ?_
  refine lv_dup2_11 hx hb dX7_tell_5 rfl rfl ?_
  refine va_iald hx hb hK hI.1 2 1 rfl rfl h.1 dX7_tell_6 ?_
  have h := h.2
  refine lv_iconst (v := (1 : Int32)) hx hb dX7_tell_7 (by decide) ?_
  refine lv_iadd hx hb dX7_tell_8 ?_
  refine rpiast hx hb hK hI 2 1 rfl rfl h.1 (rpset_2 _ _ _ _ _ _) dX7_tell_9 (fun H locs M1 eM1 hI => ?_)
  have h := h.2 M1 eM1
  refine lv_iload_n hx hb dX7_tell_10 rfl (lv_at hl 1 rfl) ?_
  refine lv_if_le (tgt := 30) hx hb dX7_tell_11 (by decide) (fun c2 => ?_) (fun c2 => ?_)
  · have h := h.1 c2
    refine lv_iload_n hx hb dX7_tell_30 rfl (lv_at hl 1 rfl) ?_
    exact rpiret (Z := (fun r M' L' => L' = L ∧ Z r M')) hx hb hr hlocks hK hI dX7_tell_31 ⟨rfl, h⟩
  · have h := h.2 c2
    refine lv_iload_n hx hb dX7_tell_14 rfl (lv_at hl 1 rfl) ?_
    refine lv_bipush (v := (10 : Int32)) hx hb dX7_tell_15 (by decide) ?_
    refine lv_icmp_ge (tgt := 30) hx hb dX7_tell_17 (by decide) (fun c3 => ?_) (fun c3 => ?_)
    · have h := h.1 c3
      refine lv_iload_n hx hb dX7_tell_30 rfl (lv_at hl 1 rfl) ?_
      exact rpiret (Z := (fun r M' L' => L' = L ∧ Z r M')) hx hb hr hlocks hK hI dX7_tell_31 ⟨rfl, h⟩
    · have h := h.2 c3
      refine lv_aload_n hx hb dX7_tell_20 rfl (lv_at hl 0 rfl) ?_
      refine lv_iconst (v := (0 : Int32)) hx hb dX7_tell_21 (by decide) ?_
      refine rpput (ci := 6) (C := RX7) (T := TX7) (N := 44) (ty := .int) hx hb hu uX7 tyX7 tyX7_ok nmX7 hown hK hI 0 rfl rfl 22 (by decide) (hu _ uww_624) (fun _ h9 => h9) rfl (by decide +kernel) rfl rfl (Nat.le_of_ble_eq_true rfl) (rpset_0_22 _ _ _ _ _) dX7_tell_22 (fun H locs M4 eM4 hI => ?_)
      have h := h M4 eM4
      refine lv_aload_n hx hb dX7_tell_25 rfl (lv_at hl 0 rfl) ?_
      refine lv_iconst (v := (0 : Int32)) hx hb dX7_tell_26 (by decide) ?_
      refine rpput (ci := 6) (C := RX7) (T := TX7) (N := 44) (ty := .int) hx hb hu uX7 tyX7 tyX7_ok nmX7 hown hK hI 0 rfl rfl 20 (by decide) (hu _ uww_622) (fun _ h9 => h9) rfl (by decide +kernel) rfl rfl (Nat.le_of_ble_eq_true rfl) (rpset_0_20 _ _ _ _ _) dX7_tell_27 (fun H locs M5 eM5 hI => ?_)
      have h := h M5 eM5
      refine lv_iload_n hx hb dX7_tell_30 rfl (lv_at hl 1 rfl) ?_
      exact rpiret (Z := (fun r M' L' => L' = L ∧ Z r M')) hx hb hr hlocks hK hI dX7_tell_31 ⟨rfl, h⟩

abbrev rm_X7_words_0_3 : Room := { frames := 1, cells := 0, slots := 0, locals := 21 }
abbrev av_X7_words_0_3 (a t : Nat → Nat) (p2 : Int32) (p3 : Int32) : List Value := [.ref (a 0), .ref (a 3), .int p2, .int p3]
abbrev qc_X7_words_0_3 (dC : Nat → ClassId) (dI : Nat → Nat → Nat) (a : Nat → Nat) (kA : Nat → ClassId) (sz : Nat) (M : cM) (L : cL) (Z : cL → Prop) : Array Value → State → Outcome → State → Prop := va_Qv (fun (u : cM × cL) => u.1 = M ∧ Z u.2) (rpAt dC dI a kA (rpA a sz)) (rpA a sz)
set_option maxHeartbeats 4000000 in
set_option maxRecDepth 100000 in
theorem met_X7_words_0_3 (l : Launch) (dC : Nat → ClassId) (dI : Nat → Nat → Nat) (a : Nat → Nat) (kA : Nat → ClassId) (t : Nat → Nat) (sz : Nat) (M : cM) (L : cL) (p2 : Int32) (p3 : Int32) (Z : cL → Prop) (h : wp_X7_words_0_3 M L p2 p3 Z) : Met l yX7_words (Cond.code yX7_words cX7_words 5 none :: uW) rm_X7_words_0_3 (va_Pc (av_X7_words_0_3 a t p2 p3) (rpPre dC dI a kA t M L sz)) (qc_X7_words_0_3 dC dI a kA sz M L Z) 0 0 (rpA a sz) := by
  refine rpenter (cc := cX7_words) (n := 5) (ret := none) (by decide) rfl (Nat.le_of_ble_eq_true rfl) ?_
  intro p e s m below meth c ls hx hb hml hr hlocks hown hts hK hE hsz hI hl hmn
  have hu : ∀ w ∈ uW, w.before (av_X7_words_0_3 a t p2 p3).toArray s = true := fun w h => hts w (List.mem_cons_of_mem _ h)
  have hown : s.vm.findClass RX7 = some m.cls := hown
  have hl : lv_has ls 5 [(0, .ref (a 0)), (1, .ref (a 3)), (2, .int p2), (3, .int p3)] := hl
  unfold wp_X7_words_0_3 at h
  refine lv_iload_n hx hb dX7_words_0 rfl (lv_at hl 2 rfl) ?_
  refine lv_istore (lv' := [(4, .int p2), (0, .ref (a 0)), (1, .ref (a 3)), (2, .int p2), (3, .int p3)]) hx hb dX7_words_1 hl (by decide) rfl (fun ls hl => ?_)
  obtain ⟨I3, m3, h, hs3⟩ := h
  have P3 : ∀ (n3 : Nat) (x1 : Int32) (L2 : cL) (H : Heap) (locs : List Loc) (ls : Array Slot), I3 x1 L2 → m3 x1 L2 < n3 → rpI dC dI a kA (rpA a sz) s M L2 H locs → lv_has ls 5 [(0, .ref (a 0)), (1, .ref (a 3)), (3, .int p3), (4, .int x1)] → W p l e rm_X7_words_0_3 s m (av_X7_words_0_3 a t p2 p3).toArray below meth c H locs 0 0 (MQ below (qc_X7_words_0_3 dC dI a kA sz M L Z) (av_X7_words_0_3 a t p2 p3).toArray s 0 0 (rpA a sz)) (F0 m 3 ls []) := by
    intro n3
    induction n3 with
    | zero => intro x1 L2 H locs ls _ hn; exact absurd hn (Nat.not_lt_zero _)
    | succ n3 ih3 =>
      intro x1 L2 H locs ls h hn3 hI hl
      have h := hs3 x1 L2 h
      refine lv_iload hx hb dX7_words_3 (lv_at hl 3 rfl) ?_
      refine lv_iload_n hx hb dX7_words_5 rfl (lv_at hl 2 rfl) ?_
      refine lv_icmp_ge (tgt := 53) hx hb dX7_words_6 (by decide) (fun c3 => ?_) (fun c3 => ?_)
      · have h := h.1 c3
        exact rpvret (Z := (fun M' L' => M' = M ∧ Z L')) hx hb hr hlocks hK hI dX7_words_53 ⟨rfl, h⟩
      · have h := h.2 c3
        refine lv_aload_n hx hb dX7_words_9 rfl (lv_at hl 0 rfl) ?_
        refine lv_aload_n hx hb dX7_words_10 rfl (lv_at hl 1 rfl) ?_
        refine lv_iload hx hb dX7_words_11 (lv_at hl 3 rfl) ?_
        refine va_bald hx hb hK hI.1 3 2 rfl rfl h.1 dX7_words_13 ?_
        have h := h.2
        refine lv_sipush (v := (255 : Int32)) hx hb dX7_words_14 (by decide) ?_
        refine lv_iand hx hb dX7_words_17 ?_
        refine lv_bipush (v := (8 : Int32)) hx hb dX7_words_18 (by decide) ?_
        refine lv_ishl hx hb dX7_words_20 ?_
        refine lv_iload hx hb dX7_words_21 (lv_at hl 3 rfl) ?_
        refine lv_iconst (v := (1 : Int32)) hx hb dX7_words_23 (by decide) ?_
        refine lv_iadd hx hb dX7_words_24 ?_
        refine lv_iload_n hx hb dX7_words_25 rfl (lv_at hl 2 rfl) ?_
        obtain ⟨K43, hK43, h⟩ := h
        have J43 : ∀ (v4 : Int32) (H : Heap) (locs : List Loc) (ls : Array Slot), K43 v4 → rpI dC dI a kA (rpA a sz) s M L2 H locs → lv_has ls 5 [(0, .ref (a 0)), (1, .ref (a 3)), (3, .int p3), (4, .int x1)] → W p l e rm_X7_words_0_3 s m (av_X7_words_0_3 a t p2 p3).toArray below meth c H locs 0 0 (MQ below (qc_X7_words_0_3 dC dI a kA sz M L Z) (av_X7_words_0_3 a t p2 p3).toArray s 0 0 (rpA a sz)) (F0 m 43 ls [.int v4, .int (((M 3 x1.toNatClampNeg) &&& (255 : Int32)) <<< ((8 : Int32) &&& 31)), .ref (a 0)]) := by
          intro v4 H locs ls h hI hl
          have h := hK43 v4 h
          refine lv_ior hx hb dX7_words_43 ?_
          refine rpcallv_l hsz hI (va_runV (As := [.int ((((M 3 x1.toNatClampNeg) &&& (255 : Int32)) <<< ((8 : Int32) &&& 31)) ||| v4)]) (rest := []) ⟨hx, hb, hml, hown, hu⟩ (met_X7_word_0 l dC dI a kA t _ M L2 ((((M 3 x1.toNatClampNeg) &&& (255 : Int32)) <<< ((8 : Int32) &&& 31)) ||| v4) _ h) (cwl_X7_108_X7 hu ⟨by decide, by decide⟩) (rppre (ci := 6) hK hE hsz hI rfl rfl) rfl rfl hl.1 rfl (lv_room (Nat.le_of_ble_eq_true rfl)) dX7_words_44 ⟨by decide, by decide⟩) (fun L5 H locs h hI => ?_)
          obtain ⟨x6, ex6⟩ : ∃ y : Int32, y = (x1 + (2 : Int32)) := ⟨_, rfl⟩
          have h := h x6 ex6
          refine lv_iinc (v := x6) (lv' := [(4, .int x6), (0, .ref (a 0)), (1, .ref (a 3)), (3, .int p3)]) hx hb dX7_words_47 hl (k := 3) rfl (by rw [ex6]; rfl) (by decide) rfl (fun ls hl => ?_)
          refine lv_goto (tgt := 3) hx hb dX7_words_50 (by decide) ?_
          exact ih3 x6 L5 _ _ _ h.1 (Nat.lt_of_lt_of_le h.2 (Nat.le_of_lt_succ hn3)) hI (lv_sub hl [1, 2, 3, 0] rfl)
        refine lv_icmp_ge (tgt := 42) hx hb dX7_words_26 (by decide) (fun c7 => ?_) (fun c7 => ?_)
        · have h := h.1 c7
          refine lv_iconst (v := (0 : Int32)) hx hb dX7_words_42 (by decide) ?_
          exact J43 (0 : Int32) _ _ _ h hI (lv_sub hl [0, 1, 2, 3] rfl)
        · have h := h.2 c7
          refine lv_aload_n hx hb dX7_words_29 rfl (lv_at hl 1 rfl) ?_
          refine lv_iload hx hb dX7_words_30 (lv_at hl 3 rfl) ?_
          refine lv_iconst (v := (1 : Int32)) hx hb dX7_words_32 (by decide) ?_
          refine lv_iadd hx hb dX7_words_33 ?_
          refine va_bald hx hb hK hI.1 3 2 rfl rfl h.1 dX7_words_34 ?_
          have h := h.2
          refine lv_sipush (v := (255 : Int32)) hx hb dX7_words_35 (by decide) ?_
          refine lv_iand hx hb dX7_words_38 ?_
          refine lv_goto (tgt := 43) hx hb dX7_words_39 (by decide) ?_
          exact J43 ((M 3 (x1 + (1 : Int32)).toNatClampNeg) &&& (255 : Int32)) _ _ _ h hI (lv_sub hl [0, 1, 2, 3] rfl)
  exact P3 (m3 p2 L + 1) p2 L _ _ _ h (Nat.lt_succ_self _) hI (lv_sub hl [1, 2, 4, 0] rfl)

abbrev rm_X7_checksum_0 : Room := { frames := 0, cells := 0, slots := 0, locals := 0 }
abbrev av_X7_checksum_0 (a t : Nat → Nat)  : List Value := [.ref (a 0)]
abbrev qc_X7_checksum_0 (dC : Nat → ClassId) (dI : Nat → Nat → Nat) (a : Nat → Nat) (kA : Nat → ClassId) (sz : Nat) (M : cM) (L : cL) (Z : Int32 → Prop) : Array Value → State → Outcome → State → Prop := va_Qi (fun r (u : cM × cL) => u.1 = M ∧ u.2 = L ∧ Z r) (rpAt dC dI a kA (rpA a sz)) (rpA a sz)
set_option maxHeartbeats 4000000 in
set_option maxRecDepth 100000 in
theorem met_X7_checksum_0 (l : Launch) (dC : Nat → ClassId) (dI : Nat → Nat → Nat) (a : Nat → Nat) (kA : Nat → ClassId) (t : Nat → Nat) (sz : Nat) (M : cM) (L : cL)  (Z : Int32 → Prop) (h : wp_X7_checksum_0 M L  Z) : Met l yX7_checksum (Cond.code yX7_checksum cX7_checksum 1 (some .int) :: uW) rm_X7_checksum_0 (va_Pc (av_X7_checksum_0 a t ) (rpPre dC dI a kA t M L sz)) (qc_X7_checksum_0 dC dI a kA sz M L Z) 0 0 (rpA a sz) := by
  refine rpenter (cc := cX7_checksum) (n := 1) (ret := (some .int)) (by decide) rfl (Nat.le_of_ble_eq_true rfl) ?_
  intro p e s m below meth c ls hx hb hml hr hlocks hown hts hK hE hsz hI hl hmn
  have hu : ∀ w ∈ uW, w.before (av_X7_checksum_0 a t ).toArray s = true := fun w h => hts w (List.mem_cons_of_mem _ h)
  have hown : s.vm.findClass RX7 = some m.cls := hown
  have hl : lv_has ls 1 [(0, .ref (a 0))] := hl
  unfold wp_X7_checksum_0 at h
  refine lv_aload_n hx hb dX7_checksum_0 rfl (lv_at hl 0 rfl) ?_
  refine va_get (D := (dC, dI)) (ci := 6) (v := .long (L 0 18)) (C := RX7) (T := TX7) (N := 44) hx hb hu uX7 hown hK hI.1 0 rfl rfl 18 (by decide) (hu _ uww_593) (fun _ h9 => h9) rfl dX7_checksum_1 ?_
  refine lv_ldc2 (own := RX7) (v := (-1 : Int64)) hx hb hown (hu _ uww_588) dX7_checksum_4 ?_
  refine lv_lxor hx hb dX7_checksum_7 ?_
  refine lv_ldc2 (own := RX7) (v := (65535 : Int64)) hx hb hown (hu _ uww_594) dX7_checksum_8 ?_
  refine lv_land hx hb dX7_checksum_11 ?_
  refine lv_l2i hx hb dX7_checksum_12 rfl ?_
  exact rpiret (Z := (fun r M' L' => M' = M ∧ L' = L ∧ Z r)) hx hb hr hlocks hK hI dX7_checksum_13 ⟨rfl, rfl, h⟩

abbrev rm_X7_headerSum_0 : Room := { frames := 2, cells := 0, slots := 0, locals := 45 }
abbrev av_X7_headerSum_0 (a t : Nat → Nat) (p1 : Int32) : List Value := [.ref (a 0), .int p1]
abbrev qc_X7_headerSum_0 (dC : Nat → ClassId) (dI : Nat → Nat → Nat) (a : Nat → Nat) (kA : Nat → ClassId) (sz : Nat) (M : cM) (L : cL) (Z : cM → cL → Prop) : Array Value → State → Outcome → State → Prop := va_Qv (fun (u : cM × cL) => Z u.1 u.2) (rpAt dC dI a kA (rpA a sz)) (rpA a sz)
set_option maxHeartbeats 4000000 in
set_option maxRecDepth 100000 in
theorem met_X7_headerSum_0 (l : Launch) (dC : Nat → ClassId) (dI : Nat → Nat → Nat) (a : Nat → Nat) (kA : Nat → ClassId) (t : Nat → Nat) (sz : Nat) (M : cM) (L : cL) (p1 : Int32) (Z : cM → cL → Prop) (h : wp_X7_headerSum_0 M L p1 Z) : Met l yX7_headerSum (Cond.code yX7_headerSum cX7_headerSum 2 none :: uW) rm_X7_headerSum_0 (va_Pc (av_X7_headerSum_0 a t p1) (rpPre dC dI a kA t M L sz)) (qc_X7_headerSum_0 dC dI a kA sz M L Z) 0 0 (rpA a sz) := by
  refine rpenter (cc := cX7_headerSum) (n := 2) (ret := none) (by decide) rfl (Nat.le_of_ble_eq_true rfl) ?_
  intro p e s m below meth c ls hx hb hml hr hlocks hown hts hK hE hsz hI hl hmn
  have hu : ∀ w ∈ uW, w.before (av_X7_headerSum_0 a t p1).toArray s = true := fun w h => hts w (List.mem_cons_of_mem _ h)
  have hown : s.vm.findClass RX7 = some m.cls := hown
  have hl : lv_has ls 2 [(0, .ref (a 0)), (1, .int p1)] := hl
  unfold wp_X7_headerSum_0 at h
  refine lv_aload_n hx hb dX7_headerSum_0 rfl (lv_at hl 0 rfl) ?_
  refine va_get (D := (dC, dI)) (ci := 6) (v := .ref (a 3)) (C := RX7) (T := TX7) (N := 44) hx hb hu uX7 hown hK hI.1 0 rfl rfl 19 (by decide) (hu _ uww_552) (fun _ h9 => h9) rfl dX7_headerSum_1 ?_
  refine lv_iload_n hx hb dX7_headerSum_4 rfl (lv_at hl 1 rfl) ?_
  refine lv_bipush (v := (10 : Int32)) hx hb dX7_headerSum_5 (by decide) ?_
  refine lv_iadd hx hb dX7_headerSum_7 ?_
  refine lv_iconst (v := (0 : Int32)) hx hb dX7_headerSum_8 (by decide) ?_
  refine rpcallv_m hsz hI (va_runS (As := [.ref (a 3), .int (p1 + (10 : Int32)), .int (0 : Int32)]) (rest := []) ⟨hx, hb, hml, hown, hu⟩ (met_X7_putTwo_3 l dC dI a kA t _ M L (p1 + (10 : Int32)) (0 : Int32) _ h) (cwl_X7_121_S hu ⟨by decide, by decide⟩) (rppreS hK hE hsz hI) rfl rfl hl.1 rfl (lv_room (Nat.le_of_ble_eq_true rfl)) dX7_headerSum_9 ⟨by decide, by decide⟩) (fun M1 H locs h hI => ?_)
  refine lv_aload_n hx hb dX7_headerSum_12 rfl (lv_at hl 0 rfl) ?_
  refine lv_lconst (v := (0 : Int64)) hx hb dX7_headerSum_13 (by decide) ?_
  refine rpputl (ci := 6) (C := RX7) (T := TX7) (N := 44) (ty := .long) hx hb hu uX7 tyX7 tyX7_ok nmX7 hown hK hI 0 rfl rfl 18 (by decide) (hu _ uww_593) (fun _ h9 => h9) rfl (by decide +kernel) rfl rfl (Nat.le_of_ble_eq_true rfl) (rpset_0_18 _ _ _ _ _) dX7_headerSum_14 (fun H locs L2 eL2 hI => ?_)
  have h := h L2 eL2
  refine lv_aload_n hx hb dX7_headerSum_17 rfl (lv_at hl 0 rfl) ?_
  refine lv_aload_n hx hb dX7_headerSum_18 rfl (lv_at hl 0 rfl) ?_
  refine va_get (D := (dC, dI)) (ci := 6) (v := .ref (a 3)) (C := RX7) (T := TX7) (N := 44) hx hb hu uX7 hown hK hI.1 0 rfl rfl 19 (by decide) (hu _ uww_552) (fun _ h9 => h9) rfl dX7_headerSum_19 ?_
  refine lv_iload_n hx hb dX7_headerSum_22 rfl (lv_at hl 1 rfl) ?_
  refine lv_iload_n hx hb dX7_headerSum_23 rfl (lv_at hl 1 rfl) ?_
  refine lv_bipush (v := (20 : Int32)) hx hb dX7_headerSum_24 (by decide) ?_
  refine lv_iadd hx hb dX7_headerSum_26 ?_
  refine rpcallv_l hsz hI (va_runV (As := [.ref (a 3), .int p1, .int (p1 + (20 : Int32))]) (rest := []) ⟨hx, hb, hml, hown, hu⟩ (met_X7_words_0_3 l dC dI a kA t _ M1 L2 p1 (p1 + (20 : Int32)) _ h) (cwl_X7_206_X7 hu ⟨by decide, by decide⟩) (rppre (ci := 6) hK hE hsz hI rfl rfl) rfl rfl hl.1 rfl (lv_room (Nat.le_of_ble_eq_true rfl)) dX7_headerSum_27 ⟨by decide, by decide⟩) (fun L3 H locs h hI => ?_)
  refine lv_aload_n hx hb dX7_headerSum_30 rfl (lv_at hl 0 rfl) ?_
  refine va_get (D := (dC, dI)) (ci := 6) (v := .ref (a 3)) (C := RX7) (T := TX7) (N := 44) hx hb hu uX7 hown hK hI.1 0 rfl rfl 19 (by decide) (hu _ uww_552) (fun _ h9 => h9) rfl dX7_headerSum_31 ?_
  refine lv_iload_n hx hb dX7_headerSum_34 rfl (lv_at hl 1 rfl) ?_
  refine lv_bipush (v := (10 : Int32)) hx hb dX7_headerSum_35 (by decide) ?_
  refine lv_iadd hx hb dX7_headerSum_37 ?_
  refine lv_aload_n hx hb dX7_headerSum_38 rfl (lv_at hl 0 rfl) ?_
  refine rpcalli_p hsz hI (va_runV (As := []) (rest := [.int (p1 + (10 : Int32)), .ref (a 3)]) ⟨hx, hb, hml, hown, hu⟩ (met_X7_checksum_0 l dC dI a kA t _ M1 L3  _ h) (cwl_X7_177_X7 hu ⟨by decide, by decide⟩) (rppre (ci := 6) hK hE hsz hI rfl rfl) rfl rfl hl.1 rfl (lv_room (Nat.le_of_ble_eq_true rfl)) dX7_headerSum_39 ⟨by decide, by decide⟩) (fun r4 H locs h hI => ?_)
  refine rpcallv_m hsz hI (va_runS (As := [.ref (a 3), .int (p1 + (10 : Int32)), .int r4]) (rest := []) ⟨hx, hb, hml, hown, hu⟩ (met_X7_putTwo_3 l dC dI a kA t _ M1 L3 (p1 + (10 : Int32)) r4 _ h) (cwl_X7_121_S hu ⟨by decide, by decide⟩) (rppreS hK hE hsz hI) rfl rfl hl.1 rfl (lv_room (Nat.le_of_ble_eq_true rfl)) dX7_headerSum_42 ⟨by decide, by decide⟩) (fun M5 H locs h hI => ?_)
  exact rpvret (Z := (fun M' L' => Z M' L')) hx hb hr hlocks hK hI dX7_headerSum_45 h

abbrev rm_X7_answer4_0 : Room := { frames := 3, cells := 0, slots := 0, locals := 66 }
abbrev av_X7_answer4_0 (a t : Nat → Nat) (p1 : Int32) (p2 : Int32) (p3 : Int32) : List Value := [.ref (a 0), .int p1, .int p2, .int p3]
abbrev qc_X7_answer4_0 (dC : Nat → ClassId) (dI : Nat → Nat → Nat) (a : Nat → Nat) (kA : Nat → ClassId) (sz : Nat) (M : cM) (L : cL) (Z : Int32 → cM → cL → Prop) : Array Value → State → Outcome → State → Prop := va_Qi (fun r (u : cM × cL) => Z r u.1 u.2) (rpAt dC dI a kA (rpA a sz)) (rpA a sz)
set_option maxHeartbeats 4000000 in
set_option maxRecDepth 100000 in
theorem met_X7_answer4_0 (l : Launch) (dC : Nat → ClassId) (dI : Nat → Nat → Nat) (a : Nat → Nat) (kA : Nat → ClassId) (t : Nat → Nat) (sz : Nat) (M : cM) (L : cL) (p1 : Int32) (p2 : Int32) (p3 : Int32) (Z : Int32 → cM → cL → Prop) (h : wp_X7_answer4_0 M L p1 p2 p3 Z) : Met l yX7_answer4 (Cond.code yX7_answer4 cX7_answer4 8 (some .int) :: uW) rm_X7_answer4_0 (va_Pc (av_X7_answer4_0 a t p1 p2 p3) (rpPre dC dI a kA t M L sz)) (qc_X7_answer4_0 dC dI a kA sz M L Z) 0 0 (rpA a sz) := by
  refine rpenter (cc := cX7_answer4) (n := 8) (ret := (some .int)) (by decide) rfl (Nat.le_of_ble_eq_true rfl) ?_
  intro p e s m below meth c ls hx hb hml hr hlocks hown hts hK hE hsz hI hl hmn
  have hu : ∀ w ∈ uW, w.before (av_X7_answer4_0 a t p1 p2 p3).toArray s = true := fun w h => hts w (List.mem_cons_of_mem _ h)
  have hown : s.vm.findClass RX7 = some m.cls := hown
  have hl : lv_has ls 8 [(0, .ref (a 0)), (1, .int p1), (2, .int p2), (3, .int p3)] := hl
  unfold wp_X7_answer4_0 at h
  refine lv_aload_n hx hb dX7_answer4_0 rfl (lv_at hl 0 rfl) ?_
  refine va_get (D := (dC, dI)) (ci := 6) (v := .int (M 0 33)) (C := RX7) (T := TX7) (N := 44) hx hb hu uX7 hown hK hI.1 0 rfl rfl 33 (by decide) (hu _ uww_669) (fun _ h9 => h9) rfl dX7_answer4_1 ?_
  obtain ⟨K57, hK57, h⟩ := h
  have J57 : ∀ (v1 : Int32) (H : Heap) (locs : List Loc) (ls : Array Slot), K57 v1 → rpI dC dI a kA (rpA a sz) s M L H locs → lv_has ls 8 [(0, .ref (a 0)), (1, .int p1), (2, .int p2), (3, .int p3)] → W p l e rm_X7_answer4_0 s m (av_X7_answer4_0 a t p1 p2 p3).toArray below meth c H locs 0 0 (MQ below (qc_X7_answer4_0 dC dI a kA sz M L Z) (av_X7_answer4_0 a t p1 p2 p3).toArray s 0 0 (rpA a sz)) (F0 m 57 ls [.int v1]) := by
    intro v1 H locs ls h hI hl
    have h := hK57 v1 h
    refine lv_istore (lv' := [(4, .int v1), (0, .ref (a 0)), (1, .int p1), (2, .int p2), (3, .int p3)]) hx hb dX7_answer4_57 hl (by decide) rfl (fun ls hl => ?_)
    refine lv_iload hx hb dX7_answer4_59 (lv_at hl 0 rfl) ?_
    refine lv_if_eq (tgt := 71) hx hb dX7_answer4_61 (by decide) (fun c2 => ?_) (fun c2 => ?_)
    · have h := h.1 c2
      refine lv_aload_n hx hb dX7_answer4_71 rfl (lv_at hl 1 rfl) ?_
      refine va_get (D := (dC, dI)) (ci := 6) (v := .int (M 0 32)) (C := RX7) (T := TX7) (N := 44) hx hb hu uX7 hown hK hI.1 0 rfl rfl 32 (by decide) (hu _ uww_668) (fun _ h9 => h9) rfl dX7_answer4_72 ?_
      refine lv_aload_n hx hb dX7_answer4_75 rfl (lv_at hl 1 rfl) ?_
      refine va_get (D := (dC, dI)) (ci := 6) (v := .int (M 0 31)) (C := RX7) (T := TX7) (N := 44) hx hb hu uX7 hown hK hI.1 0 rfl rfl 31 (by decide) (hu _ uww_667) (fun _ h9 => h9) rfl dX7_answer4_76 ?_
      refine lv_bipush (v := (8 : Int32)) hx hb dX7_answer4_79 (by decide) ?_
      refine lv_iadd hx hb dX7_answer4_81 ?_
      obtain ⟨K99, hK99, h⟩ := h
      have J99 : ∀ (v3 : Int32) (H : Heap) (locs : List Loc) (ls : Array Slot), K99 v3 → rpI dC dI a kA (rpA a sz) s M L H locs → lv_has ls 8 [(0, .ref (a 0)), (1, .int p1), (2, .int p2), (3, .int p3)] → W p l e rm_X7_answer4_0 s m (av_X7_answer4_0 a t p1 p2 p3).toArray below meth c H locs 0 0 (MQ below (qc_X7_answer4_0 dC dI a kA sz M L Z) (av_X7_answer4_0 a t p1 p2 p3).toArray s 0 0 (rpA a sz)) (F0 m 99 ls [.int v3]) := by
        intro v3 H locs ls h hI hl
        have h := hK99 v3 h
        refine lv_istore (lv' := [(5, .int v3), (0, .ref (a 0)), (1, .int p1), (2, .int p2), (3, .int p3)]) hx hb dX7_answer4_99 hl (by decide) rfl (fun ls hl => ?_)
        refine lv_aload_n hx hb dX7_answer4_101 rfl (lv_at hl 1 rfl) ?_
        refine lv_bipush (v := (28 : Int32)) hx hb dX7_answer4_102 (by decide) ?_
        refine lv_iload hx hb dX7_answer4_104 (lv_at hl 0 rfl) ?_
        refine lv_iadd hx hb dX7_answer4_106 ?_
        refine rpcalli_m hsz hI (va_runV (As := [.int ((28 : Int32) + v3)]) (rest := []) ⟨hx, hb, hml, hown, hu⟩ (met_X7_more_0 l dC dI a kA t _ M L ((28 : Int32) + v3) _ h) (cwl_X7_217_X7 hu ⟨by decide, by decide⟩) (rppre (ci := 6) hK hE hsz hI rfl rfl) rfl rfl hl.1 rfl (lv_room (Nat.le_of_ble_eq_true rfl)) dX7_answer4_107 ⟨by decide, by decide⟩) (fun r4 M5 H locs h hI => ?_)
        refine lv_istore (lv' := [(6, .int r4), (5, .int v3), (0, .ref (a 0)), (1, .int p1), (2, .int p2), (3, .int p3)]) hx hb dX7_answer4_110 hl (by decide) rfl (fun ls hl => ?_)
        refine lv_aload_n hx hb dX7_answer4_112 rfl (lv_at hl 2 rfl) ?_
        refine va_get (D := (dC, dI)) (ci := 6) (v := .ref (a 3)) (C := RX7) (T := TX7) (N := 44) hx hb hu uX7 hown hK hI.1 0 rfl rfl 19 (by decide) (hu _ uww_552) (fun _ h9 => h9) rfl dX7_answer4_113 ?_
        refine lv_iload hx hb dX7_answer4_116 (lv_at hl 0 rfl) ?_
        refine lv_bipush (v := (69 : Int32)) hx hb dX7_answer4_118 (by decide) ?_
        refine rpbast hx hb hK hI 3 2 rfl rfl h.1 (rpset_3 _ _ _ _ _ _) dX7_answer4_120 (fun H locs M6 eM6 hI => ?_)
        have h := h.2 M6 eM6
        refine lv_aload_n hx hb dX7_answer4_121 rfl (lv_at hl 2 rfl) ?_
        refine va_get (D := (dC, dI)) (ci := 6) (v := .ref (a 3)) (C := RX7) (T := TX7) (N := 44) hx hb hu uX7 hown hK hI.1 0 rfl rfl 19 (by decide) (hu _ uww_552) (fun _ h9 => h9) rfl dX7_answer4_122 ?_
        refine lv_iload hx hb dX7_answer4_125 (lv_at hl 0 rfl) ?_
        refine lv_iconst (v := (2 : Int32)) hx hb dX7_answer4_127 (by decide) ?_
        refine lv_iadd hx hb dX7_answer4_128 ?_
        refine lv_bipush (v := (28 : Int32)) hx hb dX7_answer4_129 (by decide) ?_
        refine lv_iload hx hb dX7_answer4_131 (lv_at hl 1 rfl) ?_
        refine lv_iadd hx hb dX7_answer4_133 ?_
        refine rpcallv_m hsz hI (va_runS (As := [.ref (a 3), .int (r4 + (2 : Int32)), .int ((28 : Int32) + v3)]) (rest := []) ⟨hx, hb, hml, hown, hu⟩ (met_X7_putTwo_3 l dC dI a kA t _ M6 L (r4 + (2 : Int32)) ((28 : Int32) + v3) _ h) (cwl_X7_121_S hu ⟨by decide, by decide⟩) (rppreS hK hE hsz hI) rfl rfl hl.1 rfl (lv_room (Nat.le_of_ble_eq_true rfl)) dX7_answer4_134 ⟨by decide, by decide⟩) (fun M7 H locs h hI => ?_)
        refine lv_aload_n hx hb dX7_answer4_137 rfl (lv_at hl 2 rfl) ?_
        refine va_get (D := (dC, dI)) (ci := 6) (v := .ref (a 3)) (C := RX7) (T := TX7) (N := 44) hx hb hu uX7 hown hK hI.1 0 rfl rfl 19 (by decide) (hu _ uww_552) (fun _ h9 => h9) rfl dX7_answer4_138 ?_
        refine lv_iload hx hb dX7_answer4_141 (lv_at hl 0 rfl) ?_
        refine lv_bipush (v := (8 : Int32)) hx hb dX7_answer4_143 (by decide) ?_
        refine lv_iadd hx hb dX7_answer4_145 ?_
        refine lv_bipush (v := (64 : Int32)) hx hb dX7_answer4_146 (by decide) ?_
        refine rpbast hx hb hK hI 3 2 rfl rfl h.1 (rpset_3 _ _ _ _ _ _) dX7_answer4_148 (fun H locs M8 eM8 hI => ?_)
        have h := h.2 M8 eM8
        refine lv_aload_n hx hb dX7_answer4_149 rfl (lv_at hl 2 rfl) ?_
        refine va_get (D := (dC, dI)) (ci := 6) (v := .ref (a 3)) (C := RX7) (T := TX7) (N := 44) hx hb hu uX7 hown hK hI.1 0 rfl rfl 19 (by decide) (hu _ uww_552) (fun _ h9 => h9) rfl dX7_answer4_150 ?_
        refine lv_iload hx hb dX7_answer4_153 (lv_at hl 0 rfl) ?_
        refine lv_bipush (v := (9 : Int32)) hx hb dX7_answer4_155 (by decide) ?_
        refine lv_iadd hx hb dX7_answer4_157 ?_
        refine lv_iconst (v := (1 : Int32)) hx hb dX7_answer4_158 (by decide) ?_
        refine rpbast hx hb hK hI 3 2 rfl rfl h.1 (rpset_3 _ _ _ _ _ _) dX7_answer4_159 (fun H locs M9 eM9 hI => ?_)
        have h := h.2 M9 eM9
        refine lv_aload_n hx hb dX7_answer4_160 rfl (lv_at hl 2 rfl) ?_
        refine va_get (D := (dC, dI)) (ci := 6) (v := .ref (a 3)) (C := RX7) (T := TX7) (N := 44) hx hb hu uX7 hown hK hI.1 0 rfl rfl 19 (by decide) (hu _ uww_552) (fun _ h9 => h9) rfl dX7_answer4_161 ?_
        refine lv_iload hx hb dX7_answer4_164 (lv_at hl 0 rfl) ?_
        refine lv_bipush (v := (12 : Int32)) hx hb dX7_answer4_166 (by decide) ?_
        refine lv_iadd hx hb dX7_answer4_168 ?_
        refine lv_aload_n hx hb dX7_answer4_169 rfl (lv_at hl 2 rfl) ?_
        refine va_get (D := (dC, dI)) (ci := 6) (v := .int (M9 0 6)) (C := RX7) (T := TX7) (N := 44) hx hb hu uX7 hown hK hI.1 0 rfl rfl 6 (by decide) (hu _ uww_543) (fun _ h9 => h9) rfl dX7_answer4_170 ?_
        refine rpcallv_m hsz hI (va_runS (As := [.ref (a 3), .int (r4 + (12 : Int32)), .int (M9 0 6)]) (rest := []) ⟨hx, hb, hml, hown, hu⟩ (met_X7_putInt_3 l dC dI a kA t _ M9 L (r4 + (12 : Int32)) (M9 0 6) _ h) (cwl_X7_125_S hu ⟨by decide, by decide⟩) (rppreS hK hE hsz hI) rfl rfl hl.1 rfl (lv_room (Nat.le_of_ble_eq_true rfl)) dX7_answer4_173 ⟨by decide, by decide⟩) (fun M10 H locs h hI => ?_)
        refine lv_aload_n hx hb dX7_answer4_176 rfl (lv_at hl 2 rfl) ?_
        refine va_get (D := (dC, dI)) (ci := 6) (v := .ref (a 3)) (C := RX7) (T := TX7) (N := 44) hx hb hu uX7 hown hK hI.1 0 rfl rfl 19 (by decide) (hu _ uww_552) (fun _ h9 => h9) rfl dX7_answer4_177 ?_
        refine lv_iload hx hb dX7_answer4_180 (lv_at hl 0 rfl) ?_
        refine lv_bipush (v := (16 : Int32)) hx hb dX7_answer4_182 (by decide) ?_
        refine lv_iadd hx hb dX7_answer4_184 ?_
        refine lv_aload_n hx hb dX7_answer4_185 rfl (lv_at hl 2 rfl) ?_
        refine va_get (D := (dC, dI)) (ci := 6) (v := .ref (a 1)) (C := RX7) (T := TX7) (N := 44) hx hb hu uX7 hown hK hI.1 0 rfl rfl 1 (by decide) (hu _ uww_538) (fun _ h9 => h9) rfl dX7_answer4_186 ?_
        refine lv_bipush (v := (12 : Int32)) hx hb dX7_answer4_189 (by decide) ?_
        refine rpcalli_p hsz hI (va_runS (As := [.ref (a 1), .int (12 : Int32)]) (rest := [.int (r4 + (16 : Int32)), .ref (a 3)]) ⟨hx, hb, hml, hown, hu⟩ (met_X7_intAt_1 l dC dI a kA t _ M10 L (12 : Int32) _ h) (cwl_X7_118_S hu ⟨by decide, by decide⟩) (rppreS hK hE hsz hI) rfl rfl hl.1 rfl (lv_room (Nat.le_of_ble_eq_true rfl)) dX7_answer4_191 ⟨by decide, by decide⟩) (fun r11 H locs h hI => ?_)
        refine rpcallv_m hsz hI (va_runS (As := [.ref (a 3), .int (r4 + (16 : Int32)), .int r11]) (rest := []) ⟨hx, hb, hml, hown, hu⟩ (met_X7_putInt_3 l dC dI a kA t _ M10 L (r4 + (16 : Int32)) r11 _ h) (cwl_X7_125_S hu ⟨by decide, by decide⟩) (rppreS hK hE hsz hI) rfl rfl hl.1 rfl (lv_room (Nat.le_of_ble_eq_true rfl)) dX7_answer4_194 ⟨by decide, by decide⟩) (fun M12 H locs h hI => ?_)
        refine lv_aload_n hx hb dX7_answer4_197 rfl (lv_at hl 2 rfl) ?_
        refine lv_iload hx hb dX7_answer4_198 (lv_at hl 0 rfl) ?_
        refine rpcallv hsz hI (va_runV (As := [.int r4]) (rest := []) ⟨hx, hb, hml, hown, hu⟩ (met_X7_headerSum_0 l dC dI a kA t _ M12 L r4 _ h) (cwl_X7_220_X7 hu ⟨by decide, by decide⟩) (rppre (ci := 6) hK hE hsz hI rfl rfl) rfl rfl hl.1 rfl (lv_room (Nat.le_of_ble_eq_true rfl)) dX7_answer4_200 ⟨by decide, by decide⟩) (fun M13 L14 H locs h hI => ?_)
        refine lv_aload_n hx hb dX7_answer4_203 rfl (lv_at hl 2 rfl) ?_
        refine va_get (D := (dC, dI)) (ci := 6) (v := .ref (a 3)) (C := RX7) (T := TX7) (N := 44) hx hb hu uX7 hown hK hI.1 0 rfl rfl 19 (by decide) (hu _ uww_552) (fun _ h9 => h9) rfl dX7_answer4_204 ?_
        refine lv_iload hx hb dX7_answer4_207 (lv_at hl 0 rfl) ?_
        refine lv_bipush (v := (20 : Int32)) hx hb dX7_answer4_209 (by decide) ?_
        refine lv_iadd hx hb dX7_answer4_211 ?_
        refine lv_iload_n hx hb dX7_answer4_212 rfl (lv_at hl 3 rfl) ?_
        refine lv_i2b hx hb dX7_answer4_213 rfl ?_
        refine rpbast hx hb hK hI 3 2 rfl rfl h.1 (rpset_3 _ _ _ _ _ _) dX7_answer4_214 (fun H locs M15 eM15 hI => ?_)
        have h := h.2 M15 eM15
        refine lv_aload_n hx hb dX7_answer4_215 rfl (lv_at hl 2 rfl) ?_
        refine va_get (D := (dC, dI)) (ci := 6) (v := .ref (a 3)) (C := RX7) (T := TX7) (N := 44) hx hb hu uX7 hown hK hI.1 0 rfl rfl 19 (by decide) (hu _ uww_552) (fun _ h9 => h9) rfl dX7_answer4_216 ?_
        refine lv_iload hx hb dX7_answer4_219 (lv_at hl 0 rfl) ?_
        refine lv_bipush (v := (21 : Int32)) hx hb dX7_answer4_221 (by decide) ?_
        refine lv_iadd hx hb dX7_answer4_223 ?_
        refine lv_iload_n hx hb dX7_answer4_224 rfl (lv_at hl 4 rfl) ?_
        refine lv_i2b hx hb dX7_answer4_225 rfl ?_
        refine rpbast hx hb hK hI 3 2 rfl rfl h.1 (rpset_3 _ _ _ _ _ _) dX7_answer4_226 (fun H locs M16 eM16 hI => ?_)
        have h := h.2 M16 eM16
        refine lv_aload_n hx hb dX7_answer4_227 rfl (lv_at hl 2 rfl) ?_
        refine va_get (D := (dC, dI)) (ci := 6) (v := .ref (a 3)) (C := RX7) (T := TX7) (N := 44) hx hb hu uX7 hown hK hI.1 0 rfl rfl 19 (by decide) (hu _ uww_552) (fun _ h9 => h9) rfl dX7_answer4_228 ?_
        refine lv_iload hx hb dX7_answer4_231 (lv_at hl 0 rfl) ?_
        refine lv_bipush (v := (26 : Int32)) hx hb dX7_answer4_233 (by decide) ?_
        refine lv_iadd hx hb dX7_answer4_235 ?_
        refine lv_iload_n hx hb dX7_answer4_236 rfl (lv_at hl 5 rfl) ?_
        refine rpcallv_m hsz hI (va_runS (As := [.ref (a 3), .int (r4 + (26 : Int32)), .int p3]) (rest := []) ⟨hx, hb, hml, hown, hu⟩ (met_X7_putTwo_3 l dC dI a kA t _ M16 L14 (r4 + (26 : Int32)) p3 _ h) (cwl_X7_121_S hu ⟨by decide, by decide⟩) (rppreS hK hE hsz hI) rfl rfl hl.1 rfl (lv_room (Nat.le_of_ble_eq_true rfl)) dX7_answer4_237 ⟨by decide, by decide⟩) (fun M17 H locs h hI => ?_)
        refine lv_iconst (v := (0 : Int32)) hx hb dX7_answer4_240 (by decide) ?_
        refine lv_istore (lv' := [(7, .int (0 : Int32)), (6, .int r4), (5, .int v3), (0, .ref (a 0)), (1, .int p1), (2, .int p2), (3, .int p3)]) hx hb dX7_answer4_241 hl (by decide) rfl (fun ls hl => ?_)
        obtain ⟨I243, m243, h, hs243⟩ := h
        have P243 : ∀ (n243 : Nat) (x18 : Int32) (M19 : cM) (H : Heap) (locs : List Loc) (ls : Array Slot), I243 x18 M19 → m243 x18 M19 < n243 → rpI dC dI a kA (rpA a sz) s M19 L14 H locs → lv_has ls 8 [(0, .ref (a 0)), (5, .int v3), (6, .int r4), (7, .int x18)] → W p l e rm_X7_answer4_0 s m (av_X7_answer4_0 a t p1 p2 p3).toArray below meth c H locs 0 0 (MQ below (qc_X7_answer4_0 dC dI a kA sz M L Z) (av_X7_answer4_0 a t p1 p2 p3).toArray s 0 0 (rpA a sz)) (F0 m 243 ls []) := by
          intro n243
          induction n243 with
          | zero => intro x18 M19 H locs ls _ hn; exact absurd hn (Nat.not_lt_zero _)
          | succ n243 ih243 =>
            intro x18 M19 H locs ls h hn243 hI hl
            have h := hs243 x18 M19 h
            refine lv_iload hx hb dX7_answer4_243 (lv_at hl 3 rfl) ?_
            refine lv_iload hx hb dX7_answer4_245 (lv_at hl 1 rfl) ?_
            refine lv_icmp_ge (tgt := 276) hx hb dX7_answer4_247 (by decide) (fun c20 => ?_) (fun c20 => ?_)
            · have h := h.1 c20
              refine lv_aload_n hx hb dX7_answer4_276 rfl (lv_at hl 0 rfl) ?_
              refine lv_lconst (v := (0 : Int64)) hx hb dX7_answer4_277 (by decide) ?_
              refine rpputl (ci := 6) (C := RX7) (T := TX7) (N := 44) (ty := .long) hx hb hu uX7 tyX7 tyX7_ok nmX7 hown hK hI 0 rfl rfl 18 (by decide) (hu _ uww_593) (fun _ h9 => h9) rfl (by decide +kernel) rfl rfl (Nat.le_of_ble_eq_true rfl) (rpset_0_18 _ _ _ _ _) dX7_answer4_278 (fun H locs L21 eL21 hI => ?_)
              have h := h L21 eL21
              refine lv_aload_n hx hb dX7_answer4_281 rfl (lv_at hl 0 rfl) ?_
              refine lv_aload_n hx hb dX7_answer4_282 rfl (lv_at hl 0 rfl) ?_
              refine va_get (D := (dC, dI)) (ci := 6) (v := .ref (a 3)) (C := RX7) (T := TX7) (N := 44) hx hb hu uX7 hown hK hI.1 0 rfl rfl 19 (by decide) (hu _ uww_552) (fun _ h9 => h9) rfl dX7_answer4_283 ?_
              refine lv_iload hx hb dX7_answer4_286 (lv_at hl 2 rfl) ?_
              refine lv_bipush (v := (20 : Int32)) hx hb dX7_answer4_288 (by decide) ?_
              refine lv_iadd hx hb dX7_answer4_290 ?_
              refine lv_aload_n hx hb dX7_answer4_291 rfl (lv_at hl 0 rfl) ?_
              refine va_get (D := (dC, dI)) (ci := 6) (v := .int (M19 0 20)) (C := RX7) (T := TX7) (N := 44) hx hb hu uX7 hown hK hI.1 0 rfl rfl 20 (by decide) (hu _ uww_622) (fun _ h9 => h9) rfl dX7_answer4_292 ?_
              refine rpcallv_l hsz hI (va_runV (As := [.ref (a 3), .int (r4 + (20 : Int32)), .int (M19 0 20)]) (rest := []) ⟨hx, hb, hml, hown, hu⟩ (met_X7_words_0_3 l dC dI a kA t _ M19 L21 (r4 + (20 : Int32)) (M19 0 20) _ h) (cwl_X7_206_X7 hu ⟨by decide, by decide⟩) (rppre (ci := 6) hK hE hsz hI rfl rfl) rfl rfl hl.1 rfl (lv_room (Nat.le_of_ble_eq_true rfl)) dX7_answer4_295 ⟨by decide, by decide⟩) (fun L22 H locs h hI => ?_)
              refine lv_aload_n hx hb dX7_answer4_298 rfl (lv_at hl 0 rfl) ?_
              refine va_get (D := (dC, dI)) (ci := 6) (v := .ref (a 3)) (C := RX7) (T := TX7) (N := 44) hx hb hu uX7 hown hK hI.1 0 rfl rfl 19 (by decide) (hu _ uww_552) (fun _ h9 => h9) rfl dX7_answer4_299 ?_
              refine lv_iload hx hb dX7_answer4_302 (lv_at hl 2 rfl) ?_
              refine lv_bipush (v := (22 : Int32)) hx hb dX7_answer4_304 (by decide) ?_
              refine lv_iadd hx hb dX7_answer4_306 ?_
              refine lv_aload_n hx hb dX7_answer4_307 rfl (lv_at hl 0 rfl) ?_
              refine rpcalli_p hsz hI (va_runV (As := []) (rest := [.int (r4 + (22 : Int32)), .ref (a 3)]) ⟨hx, hb, hml, hown, hu⟩ (met_X7_checksum_0 l dC dI a kA t _ M19 L22  _ h) (cwl_X7_177_X7 hu ⟨by decide, by decide⟩) (rppre (ci := 6) hK hE hsz hI rfl rfl) rfl rfl hl.1 rfl (lv_room (Nat.le_of_ble_eq_true rfl)) dX7_answer4_308 ⟨by decide, by decide⟩) (fun r23 H locs h hI => ?_)
              refine rpcallv_m hsz hI (va_runS (As := [.ref (a 3), .int (r4 + (22 : Int32)), .int r23]) (rest := []) ⟨hx, hb, hml, hown, hu⟩ (met_X7_putTwo_3 l dC dI a kA t _ M19 L22 (r4 + (22 : Int32)) r23 _ h) (cwl_X7_121_S hu ⟨by decide, by decide⟩) (rppreS hK hE hsz hI) rfl rfl hl.1 rfl (lv_room (Nat.le_of_ble_eq_true rfl)) dX7_answer4_311 ⟨by decide, by decide⟩) (fun M24 H locs h hI => ?_)
              refine lv_aload_n hx hb dX7_answer4_314 rfl (lv_at hl 0 rfl) ?_
              refine rpcallv_m hsz hI (va_runV (As := []) (rest := []) ⟨hx, hb, hml, hown, hu⟩ (met_X7_isPart_0 l dC dI a kA t _ M24 L22  _ h) (cwl_X7_223_X7 hu ⟨by decide, by decide⟩) (rppre (ci := 6) hK hE hsz hI rfl rfl) rfl rfl hl.1 rfl (lv_room (Nat.le_of_ble_eq_true rfl)) dX7_answer4_315 ⟨by decide, by decide⟩) (fun M25 H locs h hI => ?_)
              refine lv_aload_n hx hb dX7_answer4_318 rfl (lv_at hl 0 rfl) ?_
              refine lv_bipush (v := (10 : Int32)) hx hb dX7_answer4_319 (by decide) ?_
              refine rpcalli_m hsz hI (va_runV (As := [.int (10 : Int32)]) (rest := []) ⟨hx, hb, hml, hown, hu⟩ (met_X7_tell_0 l dC dI a kA t _ M25 L22 (10 : Int32) _ h) (cwl_X7_213_X7 hu ⟨by decide, by decide⟩) (rppre (ci := 6) hK hE hsz hI rfl rfl) rfl rfl hl.1 rfl (lv_room (Nat.le_of_ble_eq_true rfl)) dX7_answer4_321 ⟨by decide, by decide⟩) (fun r26 M27 H locs h hI => ?_)
              exact rpiret (Z := (fun r M' L' => Z r M' L')) hx hb hr hlocks hK hI dX7_answer4_324 h
            · have h := h.2 c20
              refine lv_aload_n hx hb dX7_answer4_250 rfl (lv_at hl 0 rfl) ?_
              refine va_get (D := (dC, dI)) (ci := 6) (v := .ref (a 3)) (C := RX7) (T := TX7) (N := 44) hx hb hu uX7 hown hK hI.1 0 rfl rfl 19 (by decide) (hu _ uww_552) (fun _ h9 => h9) rfl dX7_answer4_251 ?_
              refine lv_iload hx hb dX7_answer4_254 (lv_at hl 2 rfl) ?_
              refine lv_bipush (v := (28 : Int32)) hx hb dX7_answer4_256 (by decide) ?_
              refine lv_iadd hx hb dX7_answer4_258 ?_
              refine lv_iload hx hb dX7_answer4_259 (lv_at hl 3 rfl) ?_
              refine lv_iadd hx hb dX7_answer4_261 ?_
              refine lv_aload_n hx hb dX7_answer4_262 rfl (lv_at hl 0 rfl) ?_
              refine va_get (D := (dC, dI)) (ci := 6) (v := .ref (a 1)) (C := RX7) (T := TX7) (N := 44) hx hb hu uX7 hown hK hI.1 0 rfl rfl 1 (by decide) (hu _ uww_538) (fun _ h9 => h9) rfl dX7_answer4_263 ?_
              refine lv_iload hx hb dX7_answer4_266 (lv_at hl 3 rfl) ?_
              refine va_bald hx hb hK hI.1 1 0 rfl rfl h.1 dX7_answer4_268 ?_
              have h := h.2
              refine rpbast hx hb hK hI 3 2 rfl rfl h.1 (rpset_3 _ _ _ _ _ _) dX7_answer4_269 (fun H locs M28 eM28 hI => ?_)
              have h := h.2 M28 eM28
              obtain ⟨x29, ex29⟩ : ∃ y : Int32, y = (x18 + (1 : Int32)) := ⟨_, rfl⟩
              have h := h x29 ex29
              refine lv_iinc (v := x29) (lv' := [(7, .int x29), (0, .ref (a 0)), (5, .int v3), (6, .int r4)]) hx hb dX7_answer4_270 hl (k := 3) rfl (by rw [ex29]; rfl) (by decide) rfl (fun ls hl => ?_)
              refine lv_goto (tgt := 243) hx hb dX7_answer4_273 (by decide) ?_
              exact ih243 x29 M28 _ _ _ h.1 (Nat.lt_of_lt_of_le h.2 (Nat.le_of_lt_succ hn243)) hI (lv_sub hl [1, 2, 3, 0] rfl)
        exact P243 (m243 (0 : Int32) M17 + 1) (0 : Int32) M17 _ _ _ h (Nat.lt_succ_self _) hI (lv_sub hl [3, 2, 1, 0] rfl)
      refine lv_icmp_ge (tgt := 92) hx hb dX7_answer4_82 (by decide) (fun c30 => ?_) (fun c30 => ?_)
      · have h := h.1 c30
        refine lv_aload_n hx hb dX7_answer4_92 rfl (lv_at hl 1 rfl) ?_
        refine va_get (D := (dC, dI)) (ci := 6) (v := .int (M 0 31)) (C := RX7) (T := TX7) (N := 44) hx hb hu uX7 hown hK hI.1 0 rfl rfl 31 (by decide) (hu _ uww_667) (fun _ h9 => h9) rfl dX7_answer4_93 ?_
        refine lv_bipush (v := (8 : Int32)) hx hb dX7_answer4_96 (by decide) ?_
        refine lv_iadd hx hb dX7_answer4_98 ?_
        exact J99 ((M 0 31) + (8 : Int32)) _ _ _ h hI (lv_sub hl [1, 2, 3, 4] rfl)
      · have h := h.2 c30
        refine lv_aload_n hx hb dX7_answer4_85 rfl (lv_at hl 1 rfl) ?_
        refine va_get (D := (dC, dI)) (ci := 6) (v := .int (M 0 32)) (C := RX7) (T := TX7) (N := 44) hx hb hu uX7 hown hK hI.1 0 rfl rfl 32 (by decide) (hu _ uww_668) (fun _ h9 => h9) rfl dX7_answer4_86 ?_
        refine lv_goto (tgt := 99) hx hb dX7_answer4_89 (by decide) ?_
        exact J99 (M 0 32) _ _ _ h hI (lv_sub hl [1, 2, 3, 4] rfl)
    · have h := h.2 c2
      refine lv_aload_n hx hb dX7_answer4_64 rfl (lv_at hl 1 rfl) ?_
      refine lv_bipush (v := (9 : Int32)) hx hb dX7_answer4_65 (by decide) ?_
      refine rpcalli_m hsz hI (va_runV (As := [.int (9 : Int32)]) (rest := []) ⟨hx, hb, hml, hown, hu⟩ (met_X7_tell_0 l dC dI a kA t _ M L (9 : Int32) _ h) (cwl_X7_213_X7 hu ⟨by decide, by decide⟩) (rppre (ci := 6) hK hE hsz hI rfl rfl) rfl rfl hl.1 rfl (lv_room (Nat.le_of_ble_eq_true rfl)) dX7_answer4_67 ⟨by decide, by decide⟩) (fun r31 M32 H locs h hI => ?_)
      exact rpiret (Z := (fun r M' L' => Z r M' L')) hx hb hr hlocks hK hI dX7_answer4_70 h
  obtain ⟨K52, hK52, h⟩ := h
  have J52 : ∀  (H : Heap) (locs : List Loc) (ls : Array Slot), K52  → rpI dC dI a kA (rpA a sz) s M L H locs → lv_has ls 8 [(0, .ref (a 0)), (1, .int p1), (2, .int p2), (3, .int p3)] → W p l e rm_X7_answer4_0 s m (av_X7_answer4_0 a t p1 p2 p3).toArray below meth c H locs 0 0 (MQ below (qc_X7_answer4_0 dC dI a kA sz M L Z) (av_X7_answer4_0 a t p1 p2 p3).toArray s 0 0 (rpA a sz)) (F0 m 52 ls []) := by
    intro  H locs ls h hI hl
    have h := hK52  h
    refine lv_iconst (v := (1 : Int32)) hx hb dX7_answer4_52 (by decide) ?_
    refine lv_goto (tgt := 57) hx hb dX7_answer4_53 (by decide) ?_
    exact J57 (1 : Int32) _ _ _ h hI (lv_sub hl [0, 1, 2, 3] rfl)
  refine lv_if_gt (tgt := 52) hx hb dX7_answer4_4 (by decide) (fun c33 => ?_) (fun c33 => ?_)
  · have h := h.1 c33
    exact J52  _ _ _ h hI (lv_sub hl [0, 1, 2, 3] rfl)
  · have h := h.2 c33
    refine lv_aload_n hx hb dX7_answer4_7 rfl (lv_at hl 0 rfl) ?_
    refine va_get (D := (dC, dI)) (ci := 6) (v := .int (M 0 35)) (C := RX7) (T := TX7) (N := 44) hx hb hu uX7 hown hK hI.1 0 rfl rfl 35 (by decide) (hu _ uww_671) (fun _ h9 => h9) rfl dX7_answer4_8 ?_
    refine lv_iconst (v := (1 : Int32)) hx hb dX7_answer4_11 (by decide) ?_
    obtain ⟨K56, hK56, h⟩ := h
    have J56 : ∀  (H : Heap) (locs : List Loc) (ls : Array Slot), K56  → rpI dC dI a kA (rpA a sz) s M L H locs → lv_has ls 8 [(0, .ref (a 0)), (1, .int p1), (2, .int p2), (3, .int p3)] → W p l e rm_X7_answer4_0 s m (av_X7_answer4_0 a t p1 p2 p3).toArray below meth c H locs 0 0 (MQ below (qc_X7_answer4_0 dC dI a kA sz M L Z) (av_X7_answer4_0 a t p1 p2 p3).toArray s 0 0 (rpA a sz)) (F0 m 56 ls []) := by
      intro  H locs ls h hI hl
      have h := hK56  h
      refine lv_iconst (v := (0 : Int32)) hx hb dX7_answer4_56 (by decide) ?_
      exact J57 (0 : Int32) _ _ _ h hI (lv_sub hl [0, 1, 2, 3] rfl)
    refine lv_icmp_ne (tgt := 56) hx hb dX7_answer4_12 (by decide) (fun c34 => ?_) (fun c34 => ?_)
    · have h := h.1 c34
      exact J56  _ _ _ h hI (lv_sub hl [0, 1, 2, 3] rfl)
    · have h := h.2 c34
      refine lv_aload_n hx hb dX7_answer4_15 rfl (lv_at hl 0 rfl) ?_
      refine va_get (D := (dC, dI)) (ci := 6) (v := .int (M 0 32)) (C := RX7) (T := TX7) (N := 44) hx hb hu uX7 hown hK hI.1 0 rfl rfl 32 (by decide) (hu _ uww_668) (fun _ h9 => h9) rfl dX7_answer4_16 ?_
      refine lv_aload_n hx hb dX7_answer4_19 rfl (lv_at hl 0 rfl) ?_
      refine va_get (D := (dC, dI)) (ci := 6) (v := .int (M 0 31)) (C := RX7) (T := TX7) (N := 44) hx hb hu uX7 hown hK hI.1 0 rfl rfl 31 (by decide) (hu _ uww_667) (fun _ h9 => h9) rfl dX7_answer4_20 ?_
      refine lv_icmp_eq (tgt := 52) hx hb dX7_answer4_23 (by decide) (fun c35 => ?_) (fun c35 => ?_)
      · have h := h.1 c35
        exact J52  _ _ _ h hI (lv_sub hl [0, 1, 2, 3] rfl)
      · have h := h.2 c35
        refine lv_aload_n hx hb dX7_answer4_26 rfl (lv_at hl 0 rfl) ?_
        refine va_get (D := (dC, dI)) (ci := 6) (v := .ref (a 1)) (C := RX7) (T := TX7) (N := 44) hx hb hu uX7 hown hK hI.1 0 rfl rfl 1 (by decide) (hu _ uww_538) (fun _ h9 => h9) rfl dX7_answer4_27 ?_
        refine lv_aload_n hx hb dX7_answer4_30 rfl (lv_at hl 0 rfl) ?_
        refine va_get (D := (dC, dI)) (ci := 6) (v := .int (M 0 31)) (C := RX7) (T := TX7) (N := 44) hx hb hu uX7 hown hK hI.1 0 rfl rfl 31 (by decide) (hu _ uww_667) (fun _ h9 => h9) rfl dX7_answer4_31 ?_
        refine va_bald hx hb hK hI.1 1 0 rfl rfl h.1 dX7_answer4_34 ?_
        have h := h.2
        refine lv_bipush (v := (8 : Int32)) hx hb dX7_answer4_35 (by decide) ?_
        refine lv_icmp_eq (tgt := 56) hx hb dX7_answer4_37 (by decide) (fun c36 => ?_) (fun c36 => ?_)
        · have h := h.1 c36
          exact J56  _ _ _ h hI (lv_sub hl [0, 1, 2, 3] rfl)
        · have h := h.2 c36
          refine lv_aload_n hx hb dX7_answer4_40 rfl (lv_at hl 0 rfl) ?_
          refine va_get (D := (dC, dI)) (ci := 6) (v := .ref (a 1)) (C := RX7) (T := TX7) (N := 44) hx hb hu uX7 hown hK hI.1 0 rfl rfl 1 (by decide) (hu _ uww_538) (fun _ h9 => h9) rfl dX7_answer4_41 ?_
          refine lv_aload_n hx hb dX7_answer4_44 rfl (lv_at hl 0 rfl) ?_
          refine va_get (D := (dC, dI)) (ci := 6) (v := .int (M 0 31)) (C := RX7) (T := TX7) (N := 44) hx hb hu uX7 hown hK hI.1 0 rfl rfl 31 (by decide) (hu _ uww_667) (fun _ h9 => h9) rfl dX7_answer4_45 ?_
          refine va_bald hx hb hK hI.1 1 0 rfl rfl h.1 dX7_answer4_48 ?_
          have h := h.2
          refine lv_if_eq (tgt := 56) hx hb dX7_answer4_49 (by decide) (fun c37 => ?_) (fun c37 => ?_)
          · have h := h.1 c37
            exact J56  _ _ _ h hI (lv_sub hl [0, 1, 2, 3] rfl)
          · have h := h.2 c37
            exact J52  _ _ _ h hI (lv_sub hl [0, 1, 2, 3] rfl)

abbrev rm_X7_longs_0 : Room := { frames := 1, cells := 0, slots := 0, locals := 21 }
abbrev av_X7_longs_0 (a t : Nat → Nat) (p1 : Int64) (p3 : Int32) : List Value := [.ref (a 0), .long p1, .int p3]
abbrev qc_X7_longs_0 (dC : Nat → ClassId) (dI : Nat → Nat → Nat) (a : Nat → Nat) (kA : Nat → ClassId) (sz : Nat) (M : cM) (L : cL) (Z : cL → Prop) : Array Value → State → Outcome → State → Prop := va_Qv (fun (u : cM × cL) => u.1 = M ∧ Z u.2) (rpAt dC dI a kA (rpA a sz)) (rpA a sz)
set_option maxHeartbeats 4000000 in
set_option maxRecDepth 100000 in
theorem met_X7_longs_0 (l : Launch) (dC : Nat → ClassId) (dI : Nat → Nat → Nat) (a : Nat → Nat) (kA : Nat → ClassId) (t : Nat → Nat) (sz : Nat) (M : cM) (L : cL) (p1 : Int64) (p3 : Int32) (Z : cL → Prop) (h : wp_X7_longs_0 M L p1 p3 Z) : Met l yX7_longs (Cond.code yX7_longs cX7_longs 5 none :: uW) rm_X7_longs_0 (va_Pc (av_X7_longs_0 a t p1 p3) (rpPre dC dI a kA t M L sz)) (qc_X7_longs_0 dC dI a kA sz M L Z) 0 0 (rpA a sz) := by
  refine rpenter (cc := cX7_longs) (n := 5) (ret := none) (by decide) rfl (Nat.le_of_ble_eq_true rfl) ?_
  intro p e s m below meth c ls hx hb hml hr hlocks hown hts hK hE hsz hI hl hmn
  have hu : ∀ w ∈ uW, w.before (av_X7_longs_0 a t p1 p3).toArray s = true := fun w h => hts w (List.mem_cons_of_mem _ h)
  have hown : s.vm.findClass RX7 = some m.cls := hown
  have hl : lv_has ls 5 [(0, .ref (a 0)), (1, .long p1), (3, .int p3)] := hl
  unfold wp_X7_longs_0 at h
  refine lv_bipush (v := (48 : Int32)) hx hb dX7_longs_0 (by decide) ?_
  refine lv_istore (lv' := [(4, .int (48 : Int32)), (0, .ref (a 0)), (1, .long p1), (3, .int p3)]) hx hb dX7_longs_2 hl (by decide) rfl (fun ls hl => ?_)
  obtain ⟨I4, m4, h, hs4⟩ := h
  have P4 : ∀ (n4 : Nat) (x1 : Int32) (L2 : cL) (H : Heap) (locs : List Loc) (ls : Array Slot), I4 x1 L2 → m4 x1 L2 < n4 → rpI dC dI a kA (rpA a sz) s M L2 H locs → lv_has ls 5 [(0, .ref (a 0)), (1, .long p1), (3, .int p3), (4, .int x1)] → W p l e rm_X7_longs_0 s m (av_X7_longs_0 a t p1 p3).toArray below meth c H locs 0 0 (MQ below (qc_X7_longs_0 dC dI a kA sz M L Z) (av_X7_longs_0 a t p1 p3).toArray s 0 0 (rpA a sz)) (F0 m 4 ls []) := by
    intro n4
    induction n4 with
    | zero => intro x1 L2 H locs ls _ hn; exact absurd hn (Nat.not_lt_zero _)
    | succ n4 ih4 =>
      intro x1 L2 H locs ls h hn4 hI hl
      have h := hs4 x1 L2 h
      refine lv_iload hx hb dX7_longs_4 (lv_at hl 3 rfl) ?_
      refine lv_if_lt (tgt := 40) hx hb dX7_longs_6 (by decide) (fun c3 => ?_) (fun c3 => ?_)
      · have h := h.1 c3
        exact rpvret (Z := (fun M' L' => M' = M ∧ Z L')) hx hb hr hlocks hK hI dX7_longs_40 ⟨rfl, h⟩
      · have h := h.2 c3
        refine lv_aload_n hx hb dX7_longs_9 rfl (lv_at hl 0 rfl) ?_
        refine lv_iload_n hx hb dX7_longs_10 rfl (lv_at hl 2 rfl) ?_
        obtain ⟨K23, hK23, h⟩ := h
        have J23 : ∀ (v4 : Int64) (H : Heap) (locs : List Loc) (ls : Array Slot), K23 v4 → rpI dC dI a kA (rpA a sz) s M L2 H locs → lv_has ls 5 [(0, .ref (a 0)), (1, .long p1), (3, .int p3), (4, .int x1)] → W p l e rm_X7_longs_0 s m (av_X7_longs_0 a t p1 p3).toArray below meth c H locs 0 0 (MQ below (qc_X7_longs_0 dC dI a kA sz M L Z) (av_X7_longs_0 a t p1 p3).toArray s 0 0 (rpA a sz)) (F0 m 23 ls [.long v4, .ref (a 0)]) := by
          intro v4 H locs ls h hI hl
          have h := hK23 v4 h
          refine lv_iload hx hb dX7_longs_23 (lv_at hl 3 rfl) ?_
          refine lv_lushr hx hb dX7_longs_25 rfl ?_
          refine lv_ldc2 (own := RX7) (v := (65535 : Int64)) hx hb hown (hu _ uww_594) dX7_longs_26 ?_
          refine lv_land hx hb dX7_longs_29 ?_
          refine lv_l2i hx hb dX7_longs_30 rfl ?_
          refine rpcallv_l hsz hI (va_runV (As := [.int ((((v4.toUInt64 >>> (x1.toInt64.toUInt64 &&& Int64.toUInt64 63)).toInt64) &&& (65535 : Int64)).toInt32)]) (rest := []) ⟨hx, hb, hml, hown, hu⟩ (met_X7_word_0 l dC dI a kA t _ M L2 ((((v4.toUInt64 >>> (x1.toInt64.toUInt64 &&& Int64.toUInt64 63)).toInt64) &&& (65535 : Int64)).toInt32) _ h) (cwl_X7_108_X7 hu ⟨by decide, by decide⟩) (rppre (ci := 6) hK hE hsz hI rfl rfl) rfl rfl hl.1 rfl (lv_room (Nat.le_of_ble_eq_true rfl)) dX7_longs_31 ⟨by decide, by decide⟩) (fun L5 H locs h hI => ?_)
          obtain ⟨x6, ex6⟩ : ∃ y : Int32, y = (x1 + (-16 : Int32)) := ⟨_, rfl⟩
          have h := h x6 ex6
          refine lv_iinc (v := x6) (lv' := [(4, .int x6), (0, .ref (a 0)), (1, .long p1), (3, .int p3)]) hx hb dX7_longs_34 hl (k := 3) rfl (by rw [ex6]; rfl) (by decide) rfl (fun ls hl => ?_)
          refine lv_goto (tgt := 4) hx hb dX7_longs_37 (by decide) ?_
          exact ih4 x6 L5 _ _ _ h.1 (Nat.lt_of_lt_of_le h.2 (Nat.le_of_lt_succ hn4)) hI (lv_sub hl [1, 2, 3, 0] rfl)
        refine lv_if_eq (tgt := 22) hx hb dX7_longs_11 (by decide) (fun c7 => ?_) (fun c7 => ?_)
        · have h := h.1 c7
          refine lv_lload_n hx hb dX7_longs_22 rfl (lv_at hl 1 rfl) ?_
          exact J23 p1 _ _ _ h hI (lv_sub hl [0, 1, 2, 3] rfl)
        · have h := h.2 c7
          refine lv_lload_n hx hb dX7_longs_14 rfl (lv_at hl 1 rfl) ?_
          refine lv_ldc2 (own := RX7) (v := (-1 : Int64)) hx hb hown (hu _ uww_588) dX7_longs_15 ?_
          refine lv_lxor hx hb dX7_longs_18 ?_
          refine lv_goto (tgt := 23) hx hb dX7_longs_19 (by decide) ?_
          exact J23 (p1 ^^^ (-1 : Int64)) _ _ _ h hI (lv_sub hl [0, 1, 2, 3] rfl)
  exact P4 (m4 (48 : Int32) L + 1) (48 : Int32) L _ _ _ h (Nat.lt_succ_self _) hI (lv_sub hl [1, 2, 3, 0] rfl)

abbrev rm_X7_images_0 : Room := { frames := 2, cells := 0, slots := 0, locals := 45 }
abbrev av_X7_images_0 (a t : Nat → Nat) (p1 : Int32) : List Value := [.ref (a 0), .int p1]
abbrev qc_X7_images_0 (dC : Nat → ClassId) (dI : Nat → Nat → Nat) (a : Nat → Nat) (kA : Nat → ClassId) (sz : Nat) (M : cM) (L : cL) (Z : cL → Prop) : Array Value → State → Outcome → State → Prop := va_Qv (fun (u : cM × cL) => u.1 = M ∧ Z u.2) (rpAt dC dI a kA (rpA a sz)) (rpA a sz)
set_option maxHeartbeats 4000000 in
set_option maxRecDepth 100000 in
theorem met_X7_images_0 (l : Launch) (dC : Nat → ClassId) (dI : Nat → Nat → Nat) (a : Nat → Nat) (kA : Nat → ClassId) (t : Nat → Nat) (sz : Nat) (M : cM) (L : cL) (p1 : Int32) (Z : cL → Prop) (h : wp_X7_images_0 M L p1 Z) : Met l yX7_images (Cond.code yX7_images cX7_images 2 none :: uW) rm_X7_images_0 (va_Pc (av_X7_images_0 a t p1) (rpPre dC dI a kA t M L sz)) (qc_X7_images_0 dC dI a kA sz M L Z) 0 0 (rpA a sz) := by
  refine rpenter (cc := cX7_images) (n := 2) (ret := none) (by decide) rfl (Nat.le_of_ble_eq_true rfl) ?_
  intro p e s m below meth c ls hx hb hml hr hlocks hown hts hK hE hsz hI hl hmn
  have hu : ∀ w ∈ uW, w.before (av_X7_images_0 a t p1).toArray s = true := fun w h => hts w (List.mem_cons_of_mem _ h)
  have hown : s.vm.findClass RX7 = some m.cls := hown
  have hl : lv_has ls 2 [(0, .ref (a 0)), (1, .int p1)] := hl
  unfold wp_X7_images_0 at h
  refine lv_aload_n hx hb dX7_images_0 rfl (lv_at hl 0 rfl) ?_
  refine lv_aload_n hx hb dX7_images_1 rfl (lv_at hl 0 rfl) ?_
  refine va_get (D := (dC, dI)) (ci := 6) (v := .long (L 0 27)) (C := RX7) (T := TX7) (N := 44) hx hb hu uX7 hown hK hI.1 0 rfl rfl 27 (by decide) (hu _ uww_630) (fun _ h9 => h9) rfl dX7_images_2 ?_
  refine lv_iload_n hx hb dX7_images_5 rfl (lv_at hl 1 rfl) ?_
  refine rpcallv_l hsz hI (va_runV (As := [.long (L 0 27), .int p1]) (rest := []) ⟨hx, hb, hml, hown, hu⟩ (met_X7_longs_0 l dC dI a kA t _ M L (L 0 27) p1 _ h) (cwl_X7_159_X7 hu ⟨by decide, by decide⟩) (rppre (ci := 6) hK hE hsz hI rfl rfl) rfl rfl hl.1 rfl (lv_room (Nat.le_of_ble_eq_true rfl)) dX7_images_6 ⟨by decide, by decide⟩) (fun L1 H locs h hI => ?_)
  refine lv_aload_n hx hb dX7_images_9 rfl (lv_at hl 0 rfl) ?_
  refine lv_aload_n hx hb dX7_images_10 rfl (lv_at hl 0 rfl) ?_
  refine va_get (D := (dC, dI)) (ci := 6) (v := .long (L1 0 28)) (C := RX7) (T := TX7) (N := 44) hx hb hu uX7 hown hK hI.1 0 rfl rfl 28 (by decide) (hu _ uww_631) (fun _ h9 => h9) rfl dX7_images_11 ?_
  refine lv_iload_n hx hb dX7_images_14 rfl (lv_at hl 1 rfl) ?_
  refine rpcallv_l hsz hI (va_runV (As := [.long (L1 0 28), .int p1]) (rest := []) ⟨hx, hb, hml, hown, hu⟩ (met_X7_longs_0 l dC dI a kA t _ M L1 (L1 0 28) p1 _ h) (cwl_X7_159_X7 hu ⟨by decide, by decide⟩) (rppre (ci := 6) hK hE hsz hI rfl rfl) rfl rfl hl.1 rfl (lv_room (Nat.le_of_ble_eq_true rfl)) dX7_images_15 ⟨by decide, by decide⟩) (fun L2 H locs h hI => ?_)
  refine lv_aload_n hx hb dX7_images_18 rfl (lv_at hl 0 rfl) ?_
  refine lv_aload_n hx hb dX7_images_19 rfl (lv_at hl 0 rfl) ?_
  refine va_get (D := (dC, dI)) (ci := 6) (v := .long (L2 0 29)) (C := RX7) (T := TX7) (N := 44) hx hb hu uX7 hown hK hI.1 0 rfl rfl 29 (by decide) (hu _ uww_632) (fun _ h9 => h9) rfl dX7_images_20 ?_
  refine lv_iload_n hx hb dX7_images_23 rfl (lv_at hl 1 rfl) ?_
  refine rpcallv_l hsz hI (va_runV (As := [.long (L2 0 29), .int p1]) (rest := []) ⟨hx, hb, hml, hown, hu⟩ (met_X7_longs_0 l dC dI a kA t _ M L2 (L2 0 29) p1 _ h) (cwl_X7_159_X7 hu ⟨by decide, by decide⟩) (rppre (ci := 6) hK hE hsz hI rfl rfl) rfl rfl hl.1 rfl (lv_room (Nat.le_of_ble_eq_true rfl)) dX7_images_24 ⟨by decide, by decide⟩) (fun L3 H locs h hI => ?_)
  refine lv_aload_n hx hb dX7_images_27 rfl (lv_at hl 0 rfl) ?_
  refine lv_aload_n hx hb dX7_images_28 rfl (lv_at hl 0 rfl) ?_
  refine va_get (D := (dC, dI)) (ci := 6) (v := .long (L3 0 30)) (C := RX7) (T := TX7) (N := 44) hx hb hu uX7 hown hK hI.1 0 rfl rfl 30 (by decide) (hu _ uww_633) (fun _ h9 => h9) rfl dX7_images_29 ?_
  refine lv_iload_n hx hb dX7_images_32 rfl (lv_at hl 1 rfl) ?_
  refine rpcallv_l hsz hI (va_runV (As := [.long (L3 0 30), .int p1]) (rest := []) ⟨hx, hb, hml, hown, hu⟩ (met_X7_longs_0 l dC dI a kA t _ M L3 (L3 0 30) p1 _ h) (cwl_X7_159_X7 hu ⟨by decide, by decide⟩) (rppre (ci := 6) hK hE hsz hI rfl rfl) rfl rfl hl.1 rfl (lv_room (Nat.le_of_ble_eq_true rfl)) dX7_images_33 ⟨by decide, by decide⟩) (fun L4 H locs h hI => ?_)
  exact rpvret (Z := (fun M' L' => M' = M ∧ Z L')) hx hb hr hlocks hK hI dX7_images_36 ⟨rfl, h⟩

abbrev rm_X7_ints_0 : Room := { frames := 1, cells := 0, slots := 0, locals := 21 }
abbrev av_X7_ints_0 (a t : Nat → Nat) (p1 : Int32) (p2 : Int32) : List Value := [.ref (a 0), .int p1, .int p2]
abbrev qc_X7_ints_0 (dC : Nat → ClassId) (dI : Nat → Nat → Nat) (a : Nat → Nat) (kA : Nat → ClassId) (sz : Nat) (M : cM) (L : cL) (Z : cL → Prop) : Array Value → State → Outcome → State → Prop := va_Qv (fun (u : cM × cL) => u.1 = M ∧ Z u.2) (rpAt dC dI a kA (rpA a sz)) (rpA a sz)
set_option maxHeartbeats 4000000 in
set_option maxRecDepth 100000 in
theorem met_X7_ints_0 (l : Launch) (dC : Nat → ClassId) (dI : Nat → Nat → Nat) (a : Nat → Nat) (kA : Nat → ClassId) (t : Nat → Nat) (sz : Nat) (M : cM) (L : cL) (p1 : Int32) (p2 : Int32) (Z : cL → Prop) (h : wp_X7_ints_0 M L p1 p2 Z) : Met l yX7_ints (Cond.code yX7_ints cX7_ints 3 none :: uW) rm_X7_ints_0 (va_Pc (av_X7_ints_0 a t p1 p2) (rpPre dC dI a kA t M L sz)) (qc_X7_ints_0 dC dI a kA sz M L Z) 0 0 (rpA a sz) := by
  refine rpenter (cc := cX7_ints) (n := 3) (ret := none) (by decide) rfl (Nat.le_of_ble_eq_true rfl) ?_
  intro p e s m below meth c ls hx hb hml hr hlocks hown hts hK hE hsz hI hl hmn
  have hu : ∀ w ∈ uW, w.before (av_X7_ints_0 a t p1 p2).toArray s = true := fun w h => hts w (List.mem_cons_of_mem _ h)
  have hown : s.vm.findClass RX7 = some m.cls := hown
  have hl : lv_has ls 3 [(0, .ref (a 0)), (1, .int p1), (2, .int p2)] := hl
  unfold wp_X7_ints_0 at h
  refine lv_aload_n hx hb dX7_ints_0 rfl (lv_at hl 0 rfl) ?_
  refine lv_iload_n hx hb dX7_ints_1 rfl (lv_at hl 2 rfl) ?_
  obtain ⟨K12, hK12, h⟩ := h
  have J12 : ∀ (v1 : Int32) (H : Heap) (locs : List Loc) (ls : Array Slot), K12 v1 → rpI dC dI a kA (rpA a sz) s M L H locs → lv_has ls 3 [(0, .ref (a 0)), (1, .int p1), (2, .int p2)] → W p l e rm_X7_ints_0 s m (av_X7_ints_0 a t p1 p2).toArray below meth c H locs 0 0 (MQ below (qc_X7_ints_0 dC dI a kA sz M L Z) (av_X7_ints_0 a t p1 p2).toArray s 0 0 (rpA a sz)) (F0 m 12 ls [.int v1, .ref (a 0)]) := by
    intro v1 H locs ls h hI hl
    have h := hK12 v1 h
    refine lv_bipush (v := (16 : Int32)) hx hb dX7_ints_12 (by decide) ?_
    refine lv_iushr hx hb dX7_ints_14 rfl ?_
    refine lv_ldc (own := RX7) (v := (65535 : Int32)) hx hb hown (hu _ uww_596) dX7_ints_15 ?_
    refine lv_iand hx hb dX7_ints_17 ?_
    refine rpcallv_l hsz hI (va_runV (As := [.int (((v1.toUInt32 >>> ((16 : Int32).toUInt32 &&& Int32.toUInt32 31)).toInt32) &&& (65535 : Int32))]) (rest := []) ⟨hx, hb, hml, hown, hu⟩ (met_X7_word_0 l dC dI a kA t _ M L (((v1.toUInt32 >>> ((16 : Int32).toUInt32 &&& Int32.toUInt32 31)).toInt32) &&& (65535 : Int32)) _ h) (cwl_X7_108_X7 hu ⟨by decide, by decide⟩) (rppre (ci := 6) hK hE hsz hI rfl rfl) rfl rfl hl.1 rfl (lv_room (Nat.le_of_ble_eq_true rfl)) dX7_ints_18 ⟨by decide, by decide⟩) (fun L2 H locs h hI => ?_)
    refine lv_aload_n hx hb dX7_ints_21 rfl (lv_at hl 0 rfl) ?_
    refine lv_iload_n hx hb dX7_ints_22 rfl (lv_at hl 2 rfl) ?_
    obtain ⟨K33, hK33, h⟩ := h
    have J33 : ∀ (v3 : Int32) (H : Heap) (locs : List Loc) (ls : Array Slot), K33 v3 → rpI dC dI a kA (rpA a sz) s M L2 H locs → lv_has ls 3 [] → W p l e rm_X7_ints_0 s m (av_X7_ints_0 a t p1 p2).toArray below meth c H locs 0 0 (MQ below (qc_X7_ints_0 dC dI a kA sz M L Z) (av_X7_ints_0 a t p1 p2).toArray s 0 0 (rpA a sz)) (F0 m 33 ls [.int v3, .ref (a 0)]) := by
      intro v3 H locs ls h hI hl
      have h := hK33 v3 h
      refine lv_ldc (own := RX7) (v := (65535 : Int32)) hx hb hown (hu _ uww_596) dX7_ints_33 ?_
      refine lv_iand hx hb dX7_ints_35 ?_
      refine rpcallv_l hsz hI (va_runV (As := [.int (v3 &&& (65535 : Int32))]) (rest := []) ⟨hx, hb, hml, hown, hu⟩ (met_X7_word_0 l dC dI a kA t _ M L2 (v3 &&& (65535 : Int32)) _ h) (cwl_X7_108_X7 hu ⟨by decide, by decide⟩) (rppre (ci := 6) hK hE hsz hI rfl rfl) rfl rfl hl.1 rfl (lv_room (Nat.le_of_ble_eq_true rfl)) dX7_ints_36 ⟨by decide, by decide⟩) (fun L4 H locs h hI => ?_)
      exact rpvret (Z := (fun M' L' => M' = M ∧ Z L')) hx hb hr hlocks hK hI dX7_ints_39 ⟨rfl, h⟩
    refine lv_if_eq (tgt := 32) hx hb dX7_ints_23 (by decide) (fun c5 => ?_) (fun c5 => ?_)
    · have h := h.1 c5
      refine lv_iload_n hx hb dX7_ints_32 rfl (lv_at hl 1 rfl) ?_
      exact J33 p1 _ _ _ h hI (lv_sub hl [] rfl)
    · have h := h.2 c5
      refine lv_iload_n hx hb dX7_ints_26 rfl (lv_at hl 1 rfl) ?_
      refine lv_iconst (v := (-1 : Int32)) hx hb dX7_ints_27 (by decide) ?_
      refine lv_ixor hx hb dX7_ints_28 ?_
      refine lv_goto (tgt := 33) hx hb dX7_ints_29 (by decide) ?_
      exact J33 (p1 ^^^ (-1 : Int32)) _ _ _ h hI (lv_sub hl [] rfl)
  refine lv_if_eq (tgt := 11) hx hb dX7_ints_2 (by decide) (fun c6 => ?_) (fun c6 => ?_)
  · have h := h.1 c6
    refine lv_iload_n hx hb dX7_ints_11 rfl (lv_at hl 1 rfl) ?_
    exact J12 p1 _ _ _ h hI (lv_sub hl [0, 1, 2] rfl)
  · have h := h.2 c6
    refine lv_iload_n hx hb dX7_ints_5 rfl (lv_at hl 1 rfl) ?_
    refine lv_iconst (v := (-1 : Int32)) hx hb dX7_ints_6 (by decide) ?_
    refine lv_ixor hx hb dX7_ints_7 ?_
    refine lv_goto (tgt := 12) hx hb dX7_ints_8 (by decide) ?_
    exact J12 (p1 ^^^ (-1 : Int32)) _ _ _ h hI (lv_sub hl [0, 1, 2] rfl)

abbrev rm_X7_pseudo_0 : Room := { frames := 3, cells := 0, slots := 0, locals := 66 }
abbrev av_X7_pseudo_0 (a t : Nat → Nat) (p1 : Int32) (p2 : Int32) (p3 : Int32) : List Value := [.ref (a 0), .int p1, .int p2, .int p3]
abbrev qc_X7_pseudo_0 (dC : Nat → ClassId) (dI : Nat → Nat → Nat) (a : Nat → Nat) (kA : Nat → ClassId) (sz : Nat) (M : cM) (L : cL) (Z : cL → Prop) : Array Value → State → Outcome → State → Prop := va_Qv (fun (u : cM × cL) => u.1 = M ∧ Z u.2) (rpAt dC dI a kA (rpA a sz)) (rpA a sz)
set_option maxHeartbeats 4000000 in
set_option maxRecDepth 100000 in
theorem met_X7_pseudo_0 (l : Launch) (dC : Nat → ClassId) (dI : Nat → Nat → Nat) (a : Nat → Nat) (kA : Nat → ClassId) (t : Nat → Nat) (sz : Nat) (M : cM) (L : cL) (p1 : Int32) (p2 : Int32) (p3 : Int32) (Z : cL → Prop) (h : wp_X7_pseudo_0 M L p1 p2 p3 Z) : Met l yX7_pseudo (Cond.code yX7_pseudo cX7_pseudo 4 none :: uW) rm_X7_pseudo_0 (va_Pc (av_X7_pseudo_0 a t p1 p2 p3) (rpPre dC dI a kA t M L sz)) (qc_X7_pseudo_0 dC dI a kA sz M L Z) 0 0 (rpA a sz) := by
  refine rpenter (cc := cX7_pseudo) (n := 4) (ret := none) (by decide) rfl (Nat.le_of_ble_eq_true rfl) ?_
  intro p e s m below meth c ls hx hb hml hr hlocks hown hts hK hE hsz hI hl hmn
  have hu : ∀ w ∈ uW, w.before (av_X7_pseudo_0 a t p1 p2 p3).toArray s = true := fun w h => hts w (List.mem_cons_of_mem _ h)
  have hown : s.vm.findClass RX7 = some m.cls := hown
  have hl : lv_has ls 4 [(0, .ref (a 0)), (1, .int p1), (2, .int p2), (3, .int p3)] := hl
  unfold wp_X7_pseudo_0 at h
  refine lv_aload_n hx hb dX7_pseudo_0 rfl (lv_at hl 0 rfl) ?_
  refine lv_iload_n hx hb dX7_pseudo_1 rfl (lv_at hl 3 rfl) ?_
  refine rpcallv_l hsz hI (va_runV (As := [.int p3]) (rest := []) ⟨hx, hb, hml, hown, hu⟩ (met_X7_images_0 l dC dI a kA t _ M L p3 _ h) (cwl_X7_167_X7 hu ⟨by decide, by decide⟩) (rppre (ci := 6) hK hE hsz hI rfl rfl) rfl rfl hl.1 rfl (lv_room (Nat.le_of_ble_eq_true rfl)) dX7_pseudo_2 ⟨by decide, by decide⟩) (fun L1 H locs h hI => ?_)
  refine lv_aload_n hx hb dX7_pseudo_5 rfl (lv_at hl 0 rfl) ?_
  refine lv_iload_n hx hb dX7_pseudo_6 rfl (lv_at hl 1 rfl) ?_
  refine lv_iload_n hx hb dX7_pseudo_7 rfl (lv_at hl 3 rfl) ?_
  refine rpcallv_l hsz hI (va_runV (As := [.int p1, .int p3]) (rest := []) ⟨hx, hb, hml, hown, hu⟩ (met_X7_ints_0 l dC dI a kA t _ M L1 p1 p3 _ h) (cwl_X7_163_X7 hu ⟨by decide, by decide⟩) (rppre (ci := 6) hK hE hsz hI rfl rfl) rfl rfl hl.1 rfl (lv_room (Nat.le_of_ble_eq_true rfl)) dX7_pseudo_8 ⟨by decide, by decide⟩) (fun L2 H locs h hI => ?_)
  refine lv_aload_n hx hb dX7_pseudo_11 rfl (lv_at hl 0 rfl) ?_
  refine lv_iload_n hx hb dX7_pseudo_12 rfl (lv_at hl 2 rfl) ?_
  refine lv_iload_n hx hb dX7_pseudo_13 rfl (lv_at hl 3 rfl) ?_
  refine rpcallv_l hsz hI (va_runV (As := [.int p2, .int p3]) (rest := []) ⟨hx, hb, hml, hown, hu⟩ (met_X7_ints_0 l dC dI a kA t _ M L2 p2 p3 _ h) (cwl_X7_163_X7 hu ⟨by decide, by decide⟩) (rppre (ci := 6) hK hE hsz hI rfl rfl) rfl rfl hl.1 rfl (lv_room (Nat.le_of_ble_eq_true rfl)) dX7_pseudo_14 ⟨by decide, by decide⟩) (fun L3 H locs h hI => ?_)
  exact rpvret (Z := (fun M' L' => M' = M ∧ Z L')) hx hb hr hlocks hK hI dX7_pseudo_17 ⟨rfl, h⟩
