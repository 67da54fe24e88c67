abbrev rm_X7_four__0 : Room := { frames := 8, cells := 1, slots := 11, locals := 200 }
abbrev av_X7_four__0 (a t : Nat → Nat)  : List Value := [.ref (a 0)]
abbrev qc_X7_four__0 (dC : Nat → ClassId) (dI : Nat → Nat → Nat) (a : Nat → Nat) (kA : Nat → ClassId) (sz : Nat) (M : cM) (L : cL) (Z : Int32 → cM → cL → Prop) : Array Value → State → Outcome → State → Prop := va_Qi (fun r (u : cM × cL) => Z r u.1 u.2) (rpAt dC dI a kA (rpA a sz)) (rpA a sz)
set_option maxHeartbeats 4000000 in
set_option maxRecDepth 100000 in
theorem met_X7_four__0 (l : Launch) (dC : Nat → ClassId) (dI : Nat → Nat → Nat) (a : Nat → Nat) (kA : Nat → ClassId) (t : Nat → Nat) (sz : Nat) (M : cM) (L : cL)  (Z : Int32 → cM → cL → Prop) (h : wp_X7_four__0 M L  Z) : Met l yX7_four_ (Cond.code yX7_four_ cX7_four_ 16 (some .int) :: uW) rm_X7_four__0 (va_Pc (av_X7_four__0 a t ) (rpPre dC dI a kA t M L sz)) (qc_X7_four__0 dC dI a kA sz M L Z) 1 11 (rpA a sz) := by
  refine rpenter (cc := cX7_four_) (n := 16) (ret := (some .int)) (by decide) rfl (Nat.le_of_ble_eq_true rfl) ?_
  intro p e s m below meth c ls hx hb hml hr hlocks hown hts hK hE hsz hI hl hmn
  have hu : ∀ w ∈ uW, w.before (av_X7_four__0 a t ).toArray s = true := fun w h => hts w (List.mem_cons_of_mem _ h)
  have hown : s.vm.findClass RX7 = some m.cls := hown
  have hl : lv_has ls 16 [(0, .ref (a 0))] := hl
  unfold wp_X7_four__0 at h
  refine lv_aload_n hx hb dX7_four__0 rfl (lv_at hl 0 rfl) ?_
  refine rpcallv_m hsz hI (va_runV (As := []) (rest := []) ⟨hx, hb, hml, hown, hu⟩ (met_X7_begin_0 l dC dI a kA t _ M L  _ h) (cwl_X7_226_X7 hu ⟨by decide, by decide⟩) (rppre (ci := 6) hK hE hsz hI rfl rfl) rfl rfl hl.1 rfl (lv_room (Nat.le_of_ble_eq_true rfl)) dX7_four__1 ⟨by decide, by decide⟩) (fun M1 H locs h hI => ?_)
  refine lv_aload_n hx hb dX7_four__4 rfl (lv_at hl 0 rfl) ?_
  refine va_get (D := (dC, dI)) (ci := 6) (v := .int (M1 0 2)) (C := RX7) (T := TX7) (N := 44) hx hb hu uX7 hown hK hI.1 0 rfl rfl 2 (by decide) (hu _ uww_558) (fun _ h9 => h9) rfl dX7_four__5 ?_
  refine lv_topi (fun x2 ex2 => ?_)
  have h := h x2 ex2
  refine lv_istore_n (lv' := [(1, .int x2), (0, .ref (a 0))]) hx hb dX7_four__8 rfl hl (by decide) rfl (fun ls hl => ?_)
  refine lv_aload_n hx hb dX7_four__9 rfl (lv_at hl 1 rfl) ?_
  refine lv_iconst (v := (0 : Int32)) hx hb dX7_four__10 (by decide) ?_
  refine rpput (ci := 6) (C := RX7) (T := TX7) (N := 44) (ty := .int) hx hb hu uX7 tyX7 tyX7_ok nmX7 hown hK hI 0 rfl rfl 2 (by decide) (hu _ uww_558) (fun _ h9 => h9) rfl (by decide +kernel) rfl rfl (Nat.le_of_ble_eq_true rfl) (rpset_0_2 _ _ _ _ _) dX7_four__11 (fun H locs M3 eM3 hI => ?_)
  have h := h M3 eM3
  refine lv_aload_n hx hb dX7_four__14 rfl (lv_at hl 1 rfl) ?_
  refine lv_iload_n hx hb dX7_four__15 rfl (lv_at hl 0 rfl) ?_
  refine rpcalli hsz hI (va_runV (As := [.int x2]) (rest := []) ⟨hx, hb, hml, hown, hu⟩ (met_X7_isFormed4_0 l dC dI a kA t _ M3 L x2 _ h) (cwl_X7_229_X7 hu ⟨by decide, by decide⟩) (rppre (ci := 6) hK hE hsz hI rfl rfl) rfl rfl hl.1 rfl (lv_room (Nat.le_of_ble_eq_true rfl)) dX7_four__16 ⟨by decide, by decide⟩) (fun r4 M5 L6 H locs h hI => ?_)
  refine lv_if_ne (tgt := 28) hx hb dX7_four__19 (by decide) (fun c7 => ?_) (fun c7 => ?_)
  · have h := h.1 c7
    refine lv_aload_n hx hb dX7_four__28 rfl (lv_at hl 1 rfl) ?_
    refine lv_aload_n hx hb dX7_four__29 rfl (lv_at hl 1 rfl) ?_
    refine va_get (D := (dC, dI)) (ci := 6) (v := .ref (a 1)) (C := RX7) (T := TX7) (N := 44) hx hb hu uX7 hown hK hI.1 0 rfl rfl 1 (by decide) (hu _ uww_538) (fun _ h9 => h9) rfl dX7_four__30 ?_
    refine lv_bipush (v := (12 : Int32)) hx hb dX7_four__33 (by decide) ?_
    refine rpcalli_p hsz hI (va_runS (As := [.ref (a 1), .int (12 : Int32)]) (rest := [.ref (a 0)]) ⟨hx, hb, hml, hown, hu⟩ (met_X7_intAt_1 l dC dI a kA t _ M5 L6 (12 : Int32) _ h) (cwl_X7_118_S hu ⟨by decide, by decide⟩) (rppreS hK hE hsz hI) rfl rfl hl.1 rfl (lv_room (Nat.le_of_ble_eq_true rfl)) dX7_four__35 ⟨by decide, by decide⟩) (fun r8 H locs h hI => ?_)
    refine lv_aload_n hx hb dX7_four__38 rfl (lv_at hl 1 rfl) ?_
    refine va_get (D := (dC, dI)) (ci := 6) (v := .ref (a 1)) (C := RX7) (T := TX7) (N := 44) hx hb hu uX7 hown hK hI.1 0 rfl rfl 1 (by decide) (hu _ uww_538) (fun _ h9 => h9) rfl dX7_four__39 ?_
    refine lv_bipush (v := (16 : Int32)) hx hb dX7_four__42 (by decide) ?_
    refine rpcalli_p hsz hI (va_runS (As := [.ref (a 1), .int (16 : Int32)]) (rest := [.int r8, .ref (a 0)]) ⟨hx, hb, hml, hown, hu⟩ (met_X7_intAt_1 l dC dI a kA t _ M5 L6 (16 : Int32) _ h) (cwl_X7_118_S hu ⟨by decide, by decide⟩) (rppreS hK hE hsz hI) rfl rfl hl.1 rfl (lv_room (Nat.le_of_ble_eq_true rfl)) dX7_four__44 ⟨by decide, by decide⟩) (fun r9 H locs h hI => ?_)
    refine rpcalli hsz hI (va_runV (As := [.int r8, .int r9]) (rest := []) ⟨hx, hb, hml, hown, hu⟩ (met_X7_imagesOf_0 l dC dI a kA t _ M5 L6 r8 r9 _ h) (cwl_X7_232_X7 hu ⟨by decide, by decide⟩) (rppre (ci := 6) hK hE hsz hI rfl rfl) rfl rfl hl.1 rfl (lv_room (Nat.le_of_ble_eq_true rfl)) dX7_four__47 ⟨by decide, by decide⟩) (fun r10 M11 L12 H locs h hI => ?_)
    refine lv_istore_n (lv' := [(2, .int r10), (1, .int x2), (0, .ref (a 0))]) hx hb dX7_four__50 rfl hl (by decide) rfl (fun ls hl => ?_)
    refine lv_aload_n hx hb dX7_four__51 rfl (lv_at hl 2 rfl) ?_
    refine lv_aload_n hx hb dX7_four__52 rfl (lv_at hl 2 rfl) ?_
    refine va_get (D := (dC, dI)) (ci := 6) (v := .int (M11 0 25)) (C := RX7) (T := TX7) (N := 44) hx hb hu uX7 hown hK hI.1 0 rfl rfl 25 (by decide) (hu _ uww_628) (fun _ h9 => h9) rfl dX7_four__53 ?_
    refine rpcalli_p hsz hI (va_runV (As := [.int (M11 0 25)]) (rest := []) ⟨hx, hb, hml, hown, hu⟩ (met_X7_isMappable_0 l dC dI a kA t _ M11 L12 (M11 0 25) _ h) (cwl_X7_90_X7 hu ⟨by decide, by decide⟩) (rppre (ci := 6) hK hE hsz hI rfl rfl) rfl rfl hl.1 rfl (lv_room (Nat.le_of_ble_eq_true rfl)) dX7_four__56 ⟨by decide, by decide⟩) (fun r13 H locs h hI => ?_)
    refine lv_if_ne (tgt := 68) hx hb dX7_four__59 (by decide) (fun c14 => ?_) (fun c14 => ?_)
    · have h := h.1 c14
      refine lv_iload_n hx hb dX7_four__68 rfl (lv_at hl 0 rfl) ?_
      refine lv_if_ne (tgt := 78) hx hb dX7_four__69 (by decide) (fun c15 => ?_) (fun c15 => ?_)
      · have h := h.1 c15
        refine lv_aload_n hx hb dX7_four__78 rfl (lv_at hl 2 rfl) ?_
        refine va_get (D := (dC, dI)) (ci := 6) (v := .int (M11 0 36)) (C := RX7) (T := TX7) (N := 44) hx hb hu uX7 hown hK hI.1 0 rfl rfl 36 (by decide) (hu _ uww_675) (fun _ h9 => h9) rfl dX7_four__79 ?_
        refine lv_if_eq (tgt := 93) hx hb dX7_four__82 (by decide) (fun c16 => ?_) (fun c16 => ?_)
        · have h := h.1 c16
          refine lv_aload_n hx hb dX7_four__93 rfl (lv_at hl 2 rfl) ?_
          refine va_get (D := (dC, dI)) (ci := 6) (v := .ref (a 1)) (C := RX7) (T := TX7) (N := 44) hx hb hu uX7 hown hK hI.1 0 rfl rfl 1 (by decide) (hu _ uww_538) (fun _ h9 => h9) rfl dX7_four__94 ?_
          refine lv_bipush (v := (8 : Int32)) hx hb dX7_four__97 (by decide) ?_
          refine rpcalli_p hsz hI (va_runS (As := [.ref (a 1), .int (8 : Int32)]) (rest := []) ⟨hx, hb, hml, hown, hu⟩ (met_X7_octetAt_1 l dC dI a kA t _ M11 L12 (8 : Int32) _ h) (cwl_X7_111_S hu ⟨by decide, by decide⟩) (rppreS hK hE hsz hI) rfl rfl hl.1 rfl (lv_room (Nat.le_of_ble_eq_true rfl)) dX7_four__99 ⟨by decide, by decide⟩) (fun r17 H locs h hI => ?_)
          refine lv_istore_n (lv' := [(3, .int r17), (2, .int r10), (1, .int x2), (0, .ref (a 0))]) hx hb dX7_four__102 rfl hl (by decide) rfl (fun ls hl => ?_)
          refine lv_iload_n hx hb dX7_four__103 rfl (lv_at hl 0 rfl) ?_
          refine lv_iconst (v := (2 : Int32)) hx hb dX7_four__104 (by decide) ?_
          refine lv_icmp_ge (tgt := 117) hx hb dX7_four__105 (by decide) (fun c18 => ?_) (fun c18 => ?_)
          · have h := h.1 c18
            refine lv_aload_n hx hb dX7_four__117 rfl (lv_at hl 3 rfl) ?_
            refine va_get (D := (dC, dI)) (ci := 6) (v := .int (M11 0 35)) (C := RX7) (T := TX7) (N := 44) hx hb hu uX7 hown hK hI.1 0 rfl rfl 35 (by decide) (hu _ uww_671) (fun _ h9 => h9) rfl dX7_four__118 ?_
            refine rpcalli_p hsz hI (va_runS (As := [.int (M11 0 35)]) (rest := []) ⟨hx, hb, hml, hown, hu⟩ (met_X7_isBarred4 l dC dI a kA t _ M11 L12 (M11 0 35) _ h) (cwl_X7_240_S hu ⟨by decide, by decide⟩) (rppreS hK hE hsz hI) rfl rfl hl.1 rfl (lv_room (Nat.le_of_ble_eq_true rfl)) dX7_four__121 ⟨by decide, by decide⟩) (fun r19 H locs h hI => ?_)
            refine lv_if_eq (tgt := 134) hx hb dX7_four__124 (by decide) (fun c20 => ?_) (fun c20 => ?_)
            · have h := h.1 c20
              refine lv_aload_n hx hb dX7_four__134 rfl (lv_at hl 3 rfl) ?_
              refine va_get (D := (dC, dI)) (ci := 6) (v := .int (M11 0 35)) (C := RX7) (T := TX7) (N := 44) hx hb hu uX7 hown hK hI.1 0 rfl rfl 35 (by decide) (hu _ uww_671) (fun _ h9 => h9) rfl dX7_four__135 ?_
              refine lv_iconst (v := (1 : Int32)) hx hb dX7_four__138 (by decide) ?_
              obtain ⟨K162, hK162, h⟩ := h
              have J162 : ∀  (H : Heap) (locs : List Loc) (ls : Array Slot), K162  → rpI dC dI a kA (rpA a sz) s M11 L12 H locs → lv_has ls 16 [(0, .ref (a 0)), (3, .int r17)] → W p l e rm_X7_four__0 s m (av_X7_four__0 a t ).toArray below meth c H locs 0 0 (MQ below (qc_X7_four__0 dC dI a kA sz M L Z) (av_X7_four__0 a t ).toArray s 1 11 (rpA a sz)) (F0 m 162 ls []) := by
                intro  H locs ls h hI hl
                have h := hK162  h
                refine lv_aload_n hx hb dX7_four__162 rfl (lv_at hl 0 rfl) ?_
                refine va_get (D := (dC, dI)) (ci := 6) (v := .int (M11 0 32)) (C := RX7) (T := TX7) (N := 44) hx hb hu uX7 hown hK hI.1 0 rfl rfl 32 (by decide) (hu _ uww_668) (fun _ h9 => h9) rfl dX7_four__163 ?_
                refine lv_aload_n hx hb dX7_four__166 rfl (lv_at hl 0 rfl) ?_
                refine va_get (D := (dC, dI)) (ci := 6) (v := .int (M11 0 31)) (C := RX7) (T := TX7) (N := 44) hx hb hu uX7 hown hK hI.1 0 rfl rfl 31 (by decide) (hu _ uww_667) (fun _ h9 => h9) rfl dX7_four__167 ?_
                refine lv_isub hx hb dX7_four__170 ?_
                refine lv_topi (fun x21 ex21 => ?_)
                have h := h x21 ex21
                refine lv_istore (lv' := [(4, .int x21), (0, .ref (a 0)), (3, .int r17)]) hx hb dX7_four__171 hl (by decide) rfl (fun ls hl => ?_)
                refine lv_aload_n hx hb dX7_four__173 rfl (lv_at hl 1 rfl) ?_
                refine va_get (D := (dC, dI)) (ci := 6) (v := .int (M11 0 33)) (C := RX7) (T := TX7) (N := 44) hx hb hu uX7 hown hK hI.1 0 rfl rfl 33 (by decide) (hu _ uww_669) (fun _ h9 => h9) rfl dX7_four__174 ?_
                obtain ⟨K199, hK199, h⟩ := h
                have J199 : ∀ (v22 : Int32) (H : Heap) (locs : List Loc) (ls : Array Slot), K199 v22 → rpI dC dI a kA (rpA a sz) s M11 L12 H locs → lv_has ls 16 [(0, .ref (a 0)), (3, .int r17), (4, .int x21)] → W p l e rm_X7_four__0 s m (av_X7_four__0 a t ).toArray below meth c H locs 0 0 (MQ below (qc_X7_four__0 dC dI a kA sz M L Z) (av_X7_four__0 a t ).toArray s 1 11 (rpA a sz)) (F0 m 199 ls [.int v22]) := by
                  intro v22 H locs ls h hI hl
                  have h := hK199 v22 h
                  refine lv_istore (lv' := [(5, .int v22), (0, .ref (a 0)), (3, .int r17), (4, .int x21)]) hx hb dX7_four__199 hl (by decide) rfl (fun ls hl => ?_)
                  refine lv_iload hx hb dX7_four__201 (lv_at hl 0 rfl) ?_
                  refine lv_if_le (tgt := 213) hx hb dX7_four__203 (by decide) (fun c23 => ?_) (fun c23 => ?_)
                  · have h := h.1 c23
                    refine lv_aload_n hx hb dX7_four__213 rfl (lv_at hl 1 rfl) ?_
                    refine va_get (D := (dC, dI)) (ci := 6) (v := .int (M11 0 35)) (C := RX7) (T := TX7) (N := 44) hx hb hu uX7 hown hK hI.1 0 rfl rfl 35 (by decide) (hu _ uww_671) (fun _ h9 => h9) rfl dX7_four__214 ?_
                    refine lv_bipush (v := (17 : Int32)) hx hb dX7_four__217 (by decide) ?_
                    obtain ⟨K251, hK251, h⟩ := h
                    have J251 : ∀ (v24 : Int32) (H : Heap) (locs : List Loc) (ls : Array Slot), K251 v24 → rpI dC dI a kA (rpA a sz) s M11 L12 H locs → lv_has ls 16 [(0, .ref (a 0)), (3, .int r17), (4, .int x21)] → W p l e rm_X7_four__0 s m (av_X7_four__0 a t ).toArray below meth c H locs 0 0 (MQ below (qc_X7_four__0 dC dI a kA sz M L Z) (av_X7_four__0 a t ).toArray s 1 11 (rpA a sz)) (F0 m 251 ls [.int v24]) := by
                      intro v24 H locs ls h hI hl
                      have h := hK251 v24 h
                      refine lv_istore (lv' := [(6, .int v24), (0, .ref (a 0)), (3, .int r17), (4, .int x21)]) hx hb dX7_four__251 hl (by decide) rfl (fun ls hl => ?_)
                      refine lv_iload hx hb dX7_four__253 (lv_at hl 0 rfl) ?_
                      obtain ⟨K279, hK279, h⟩ := h
                      have J279 : ∀  (H : Heap) (locs : List Loc) (ls : Array Slot), K279  → rpI dC dI a kA (rpA a sz) s M11 L12 H locs → lv_has ls 16 [(0, .ref (a 0)), (3, .int r17), (4, .int x21), (6, .int v24)] → W p l e rm_X7_four__0 s m (av_X7_four__0 a t ).toArray below meth c H locs 0 0 (MQ below (qc_X7_four__0 dC dI a kA sz M L Z) (av_X7_four__0 a t ).toArray s 1 11 (rpA a sz)) (F0 m 279 ls []) := by
                        intro  H locs ls h hI hl
                        have h := hK279  h
                        refine lv_aload_n hx hb dX7_four__279 rfl (lv_at hl 0 rfl) ?_
                        refine lv_aload_n hx hb dX7_four__280 rfl (lv_at hl 0 rfl) ?_
                        refine va_get (D := (dC, dI)) (ci := 6) (v := .ref (a 1)) (C := RX7) (T := TX7) (N := 44) hx hb hu uX7 hown hK hI.1 0 rfl rfl 1 (by decide) (hu _ uww_538) (fun _ h9 => h9) rfl dX7_four__281 ?_
                        refine lv_aload_n hx hb dX7_four__284 rfl (lv_at hl 0 rfl) ?_
                        refine va_get (D := (dC, dI)) (ci := 6) (v := .int (M11 0 31)) (C := RX7) (T := TX7) (N := 44) hx hb hu uX7 hown hK hI.1 0 rfl rfl 31 (by decide) (hu _ uww_667) (fun _ h9 => h9) rfl dX7_four__285 ?_
                        refine lv_iload hx hb dX7_four__288 (lv_at hl 2 rfl) ?_
                        refine rpcallv_m hsz hI (va_runV (As := [.ref (a 1), .int (M11 0 31), .int x21]) (rest := []) ⟨hx, hb, hml, hown, hu⟩ (met_X7_carry_0_1 l dC dI a kA t _ M11 L12 (M11 0 31) x21 _ h) (cwl_X7_247_X7 hu ⟨by decide, by decide⟩) (rppre (ci := 6) hK hE hsz hI rfl rfl) rfl rfl hl.1 rfl (lv_room (Nat.le_of_ble_eq_true rfl)) dX7_four__290 ⟨by decide, by decide⟩) (fun M25 H locs h hI => ?_)
                        refine lv_aload_n hx hb dX7_four__293 rfl (lv_at hl 0 rfl) ?_
                        refine va_get (D := (dC, dI)) (ci := 6) (v := .int (M25 0 35)) (C := RX7) (T := TX7) (N := 44) hx hb hu uX7 hown hK hI.1 0 rfl rfl 35 (by decide) (hu _ uww_671) (fun _ h9 => h9) rfl dX7_four__294 ?_
                        refine lv_iconst (v := (1 : Int32)) hx hb dX7_four__297 (by decide) ?_
                        obtain ⟨K431, hK431, h⟩ := h
                        have J431 : ∀ (M26 : cM) (L27 : cL) (H : Heap) (locs : List Loc) (ls : Array Slot), K431 M26 L27 → rpI dC dI a kA (rpA a sz) s M26 L27 H locs → lv_has ls 16 [(0, .ref (a 0)), (3, .int r17)] → W p l e rm_X7_four__0 s m (av_X7_four__0 a t ).toArray below meth c H locs 1 11 (MQ below (qc_X7_four__0 dC dI a kA sz M L Z) (av_X7_four__0 a t ).toArray s 1 11 (rpA a sz)) (F0 m 431 ls []) := by
                          intro M26 L27 H locs ls h hI hl
                          have h := hK431 M26 L27 h
                          refine lv_aload_n hx hb dX7_four__431 rfl (lv_at hl 0 rfl) ?_
                          refine va_get (D := (dC, dI)) (ci := 6) (v := .int (M26 0 34)) (C := RX7) (T := TX7) (N := 44) hx hb hu uX7 hown hK hI.1 0 rfl rfl 34 (by decide) (hu _ uww_670) (fun _ h9 => h9) rfl dX7_four__432 ?_
                          obtain ⟨K450, hK450, h⟩ := h
                          have J450 : ∀ (v28 : Int32) (H : Heap) (locs : List Loc) (ls : Array Slot), K450 v28 → rpI dC dI a kA (rpA a sz) s M26 L27 H locs → lv_has ls 16 [(0, .ref (a 0)), (3, .int r17)] → W p l e rm_X7_four__0 s m (av_X7_four__0 a t ).toArray below meth c H locs 1 11 (MQ below (qc_X7_four__0 dC dI a kA sz M L Z) (av_X7_four__0 a t ).toArray s 1 11 (rpA a sz)) (F0 m 450 ls [.int v28]) := by
                            intro v28 H locs ls h hI hl
                            have h := hK450 v28 h
                            refine lv_istore (lv' := [(7, .int v28), (0, .ref (a 0)), (3, .int r17)]) hx hb dX7_four__450 hl (by decide) rfl (fun ls hl => ?_)
                            refine lv_bipush (v := (40 : Int32)) hx hb dX7_four__452 (by decide) ?_
                            refine lv_iload hx hb dX7_four__454 (lv_at hl 0 rfl) ?_
                            obtain ⟨K465, hK465, h⟩ := h
                            have J465 : ∀ (v29 : Int32) (H : Heap) (locs : List Loc) (ls : Array Slot), K465 v29 → rpI dC dI a kA (rpA a sz) s M26 L27 H locs → lv_has ls 16 [(0, .ref (a 0)), (3, .int r17), (7, .int v28)] → W p l e rm_X7_four__0 s m (av_X7_four__0 a t ).toArray below meth c H locs 1 11 (MQ below (qc_X7_four__0 dC dI a kA sz M L Z) (av_X7_four__0 a t ).toArray s 1 11 (rpA a sz)) (F0 m 465 ls [.int v29, .int (40 : Int32)]) := by
                              intro v29 H locs ls h hI hl
                              have h := hK465 v29 h
                              refine lv_iadd hx hb dX7_four__465 ?_
                              refine lv_aload_n hx hb dX7_four__466 rfl (lv_at hl 0 rfl) ?_
                              refine va_get (D := (dC, dI)) (ci := 6) (v := .int (M26 0 24)) (C := RX7) (T := TX7) (N := 44) hx hb hu uX7 hown hK hI.1 0 rfl rfl 24 (by decide) (hu _ uww_626) (fun _ h9 => h9) rfl dX7_four__467 ?_
                              refine lv_iadd hx hb dX7_four__470 ?_
                              refine lv_topi (fun x30 ex30 => ?_)
                              have h := h x30 ex30
                              refine lv_istore (lv' := [(8, .int x30), (0, .ref (a 0)), (3, .int r17), (7, .int v28)]) hx hb dX7_four__471 hl (by decide) rfl (fun ls hl => ?_)
                              refine lv_aload_n hx hb dX7_four__473 rfl (lv_at hl 1 rfl) ?_
                              refine va_get (D := (dC, dI)) (ci := 6) (v := .ref (a 1)) (C := RX7) (T := TX7) (N := 44) hx hb hu uX7 hown hK hI.1 0 rfl rfl 1 (by decide) (hu _ uww_538) (fun _ h9 => h9) rfl dX7_four__474 ?_
                              refine lv_bipush (v := (6 : Int32)) hx hb dX7_four__477 (by decide) ?_
                              refine va_bald hx hb hK hI.1 1 0 rfl rfl h.1 dX7_four__479 ?_
                              have h := h.2
                              refine lv_bipush (v := (64 : Int32)) hx hb dX7_four__480 (by decide) ?_
                              refine lv_iand hx hb dX7_four__482 ?_
                              obtain ⟨K491, hK491, h⟩ := h
                              have J491 : ∀ (v31 : Int32) (H : Heap) (locs : List Loc) (ls : Array Slot), K491 v31 → rpI dC dI a kA (rpA a sz) s M26 L27 H locs → lv_has ls 16 [(0, .ref (a 0)), (3, .int r17), (7, .int v28), (8, .int x30)] → W p l e rm_X7_four__0 s m (av_X7_four__0 a t ).toArray below meth c H locs 1 11 (MQ below (qc_X7_four__0 dC dI a kA sz M L Z) (av_X7_four__0 a t ).toArray s 1 11 (rpA a sz)) (F0 m 491 ls [.int v31]) := by
                                intro v31 H locs ls h hI hl
                                have h := hK491 v31 h
                                refine lv_istore (lv' := [(9, .int v31), (0, .ref (a 0)), (3, .int r17), (7, .int v28), (8, .int x30)]) hx hb dX7_four__491 hl (by decide) rfl (fun ls hl => ?_)
                                refine lv_iload hx hb dX7_four__493 (lv_at hl 0 rfl) ?_
                                obtain ⟨K521, hK521, h⟩ := h
                                have J521 : ∀  (H : Heap) (locs : List Loc) (ls : Array Slot), K521  → rpI dC dI a kA (rpA a sz) s M26 L27 H locs → lv_has ls 16 [(0, .ref (a 0)), (3, .int r17), (7, .int v28), (8, .int x30), (9, .int v31)] → W p l e rm_X7_four__0 s m (av_X7_four__0 a t ).toArray below meth c H locs 1 11 (MQ below (qc_X7_four__0 dC dI a kA sz M L Z) (av_X7_four__0 a t ).toArray s 1 11 (rpA a sz)) (F0 m 521 ls []) := by
                                  intro  H locs ls h hI hl
                                  have h := hK521  h
                                  refine lv_iload hx hb dX7_four__521 (lv_at hl 4 rfl) ?_
                                  obtain ⟨K539, hK539, h⟩ := h
                                  have J539 : ∀ (v32 : Int32) (H : Heap) (locs : List Loc) (ls : Array Slot), K539 v32 → rpI dC dI a kA (rpA a sz) s M26 L27 H locs → lv_has ls 16 [(0, .ref (a 0)), (3, .int r17), (7, .int v28)] → W p l e rm_X7_four__0 s m (av_X7_four__0 a t ).toArray below meth c H locs 1 11 (MQ below (qc_X7_four__0 dC dI a kA sz M L Z) (av_X7_four__0 a t ).toArray s 1 11 (rpA a sz)) (F0 m 539 ls [.int v32]) := by
                                    intro v32 H locs ls h hI hl
                                    have h := hK539 v32 h
                                    refine lv_istore (lv' := [(10, .int v32), (0, .ref (a 0)), (3, .int r17), (7, .int v28)]) hx hb dX7_four__539 hl (by decide) rfl (fun ls hl => ?_)
                                    refine lv_iload hx hb dX7_four__541 (lv_at hl 0 rfl) ?_
                                    obtain ⟨K556, hK556, h⟩ := h
                                    have J556 : ∀ (v33 : Int32) (H : Heap) (locs : List Loc) (ls : Array Slot), K556 v33 → rpI dC dI a kA (rpA a sz) s M26 L27 H locs → lv_has ls 16 [(0, .ref (a 0)), (3, .int r17), (7, .int v28), (10, .int v32)] → W p l e rm_X7_four__0 s m (av_X7_four__0 a t ).toArray below meth c H locs 1 11 (MQ below (qc_X7_four__0 dC dI a kA sz M L Z) (av_X7_four__0 a t ).toArray s 1 11 (rpA a sz)) (F0 m 556 ls [.int v33]) := by
                                      intro v33 H locs ls h hI hl
                                      have h := hK556 v33 h
                                      refine lv_istore (lv' := [(11, .int v33), (0, .ref (a 0)), (3, .int r17), (7, .int v28), (10, .int v32)]) hx hb dX7_four__556 hl (by decide) rfl (fun ls hl => ?_)
                                      refine lv_iconst (v := (0 : Int32)) hx hb dX7_four__558 (by decide) ?_
                                      refine lv_istore (lv' := [(12, .int (0 : Int32)), (11, .int v33), (0, .ref (a 0)), (3, .int r17), (7, .int v28), (10, .int v32)]) hx hb dX7_four__559 hl (by decide) rfl (fun ls hl => ?_)
                                      obtain ⟨I561, m561, h, hs561⟩ := h
                                      have P561 : ∀ (n561 : Nat) (x34 : Int32) (M35 : cM) (H : Heap) (locs : List Loc) (ls : Array Slot), I561 x34 M35 → m561 x34 M35 < n561 → rpI dC dI a kA (rpA a sz) s M35 L27 H locs → lv_has ls 16 [(0, .ref (a 0)), (3, .int r17), (7, .int v28), (10, .int v32), (11, .int v33), (12, .int x34)] → W p l e rm_X7_four__0 s m (av_X7_four__0 a t ).toArray below meth c H locs 1 11 (MQ below (qc_X7_four__0 dC dI a kA sz M L Z) (av_X7_four__0 a t ).toArray s 1 11 (rpA a sz)) (F0 m 561 ls []) := by
                                        intro n561
                                        induction n561 with
                                        | zero => intro x34 M35 H locs ls _ hn; exact absurd hn (Nat.not_lt_zero _)
                                        | succ n561 ih561 =>
                                          intro x34 M35 H locs ls h hn561 hI hl
                                          have h := hs561 x34 M35 h
                                          refine lv_aload_n hx hb dX7_four__561 rfl (lv_at hl 0 rfl) ?_
                                          refine va_get (D := (dC, dI)) (ci := 6) (v := .int (M35 0 24)) (C := RX7) (T := TX7) (N := 44) hx hb hu uX7 hown hK hI.1 0 rfl rfl 24 (by decide) (hu _ uww_626) (fun _ h9 => h9) rfl dX7_four__562 ?_
                                          refine lv_iload hx hb dX7_four__565 (lv_at hl 5 rfl) ?_
                                          refine lv_isub hx hb dX7_four__567 ?_
                                          refine lv_iload hx hb dX7_four__568 (lv_at hl 4 rfl) ?_
                                          obtain ⟨K585, hK585, h⟩ := h
                                          have J585 : ∀ (v36 : Int32) (H : Heap) (locs : List Loc) (ls : Array Slot), K585 v36 → rpI dC dI a kA (rpA a sz) s M35 L27 H locs → lv_has ls 16 [(0, .ref (a 0)), (3, .int r17), (7, .int v28), (10, .int v32), (11, .int v33), (12, .int x34)] → W p l e rm_X7_four__0 s m (av_X7_four__0 a t ).toArray below meth c H locs 1 11 (MQ below (qc_X7_four__0 dC dI a kA sz M L Z) (av_X7_four__0 a t ).toArray s 1 11 (rpA a sz)) (F0 m 585 ls [.int v36]) := by
                                            intro v36 H locs ls h hI hl
                                            have h := hK585 v36 h
                                            refine lv_istore (lv' := [(13, .int v36), (0, .ref (a 0)), (3, .int r17), (7, .int v28), (10, .int v32), (11, .int v33), (12, .int x34)]) hx hb dX7_four__585 hl (by decide) rfl (fun ls hl => ?_)
                                            refine lv_aload_n hx hb dX7_four__587 rfl (lv_at hl 1 rfl) ?_
                                            refine lv_bipush (v := (40 : Int32)) hx hb dX7_four__588 (by decide) ?_
                                            refine lv_iload hx hb dX7_four__590 (lv_at hl 3 rfl) ?_
                                            obtain ⟨K606, hK606, h⟩ := h
                                            have J606 : ∀ (v37 : Int32) (H : Heap) (locs : List Loc) (ls : Array Slot), K606 v37 → rpI dC dI a kA (rpA a sz) s M35 L27 H locs → lv_has ls 16 [(0, .ref (a 0)), (3, .int r17), (7, .int v28), (10, .int v32), (11, .int v33), (12, .int x34), (13, .int v36)] → W p l e rm_X7_four__0 s m (av_X7_four__0 a t ).toArray below meth c H locs 1 11 (MQ below (qc_X7_four__0 dC dI a kA sz M L Z) (av_X7_four__0 a t ).toArray s 1 11 (rpA a sz)) (F0 m 606 ls [.int v37, .int (40 : Int32), .ref (a 0)]) := by
                                              intro v37 H locs ls h hI hl
                                              have h := hK606 v37 h
                                              refine lv_iadd hx hb dX7_four__606 ?_
                                              refine lv_iload hx hb dX7_four__607 (lv_at hl 6 rfl) ?_
                                              refine lv_iadd hx hb dX7_four__609 ?_
                                              refine rpcalli_m hsz hI (va_runV (As := [.int (((40 : Int32) + v37) + v36)]) (rest := []) ⟨hx, hb, hml, hown, hu⟩ (met_X7_more_0 l dC dI a kA t _ M35 L27 (((40 : Int32) + v37) + v36) _ h) (cwl_X7_217_X7 hu ⟨by decide, by decide⟩) (rppre (ci := 6) hK hE hsz hI rfl rfl) rfl rfl hl.1 rfl (lv_room (Nat.le_of_ble_eq_true rfl)) dX7_four__610 ⟨by decide, by decide⟩) (fun r38 M39 H locs h hI => ?_)
                                              refine lv_istore (lv' := [(14, .int r38), (0, .ref (a 0)), (3, .int r17), (7, .int v28), (10, .int v32), (11, .int v33), (12, .int x34), (13, .int v36)]) hx hb dX7_four__613 hl (by decide) rfl (fun ls hl => ?_)
                                              refine lv_aload_n hx hb dX7_four__615 rfl (lv_at hl 1 rfl) ?_
                                              refine lv_iload hx hb dX7_four__616 (lv_at hl 0 rfl) ?_
                                              refine lv_aload_n hx hb dX7_four__618 rfl (lv_at hl 1 rfl) ?_
                                              refine va_get (D := (dC, dI)) (ci := 6) (v := .ref (a 1)) (C := RX7) (T := TX7) (N := 44) hx hb hu uX7 hown hK hI.1 0 rfl rfl 1 (by decide) (hu _ uww_538) (fun _ h9 => h9) rfl dX7_four__619 ?_
                                              refine lv_iconst (v := (1 : Int32)) hx hb dX7_four__622 (by decide) ?_
                                              refine rpcalli_p hsz hI (va_runS (As := [.ref (a 1), .int (1 : Int32)]) (rest := [.int r38, .ref (a 0)]) ⟨hx, hb, hml, hown, hu⟩ (met_X7_octetAt_1 l dC dI a kA t _ M39 L27 (1 : Int32) _ h) (cwl_X7_111_S hu ⟨by decide, by decide⟩) (rppreS hK hE hsz hI) rfl rfl hl.1 rfl (lv_room (Nat.le_of_ble_eq_true rfl)) dX7_four__623 ⟨by decide, by decide⟩) (fun r40 H locs h hI => ?_)
                                              refine lv_aload_n hx hb dX7_four__626 rfl (lv_at hl 1 rfl) ?_
                                              refine va_get (D := (dC, dI)) (ci := 6) (v := .int (M39 0 20)) (C := RX7) (T := TX7) (N := 44) hx hb hu uX7 hown hK hI.1 0 rfl rfl 20 (by decide) (hu _ uww_622) (fun _ h9 => h9) rfl dX7_four__627 ?_
                                              refine lv_iload hx hb dX7_four__630 (lv_at hl 0 rfl) ?_
                                              refine lv_isub hx hb dX7_four__632 ?_
                                              refine lv_bipush (v := (40 : Int32)) hx hb dX7_four__633 (by decide) ?_
                                              refine lv_isub hx hb dX7_four__635 ?_
                                              refine lv_iload_n hx hb dX7_four__636 rfl (lv_at hl 2 rfl) ?_
                                              refine lv_iconst (v := (1 : Int32)) hx hb dX7_four__637 (by decide) ?_
                                              refine lv_isub hx hb dX7_four__638 ?_
                                              refine lv_iload hx hb dX7_four__639 (lv_at hl 3 rfl) ?_
                                              obtain ⟨K654, hK654, h⟩ := h
                                              have J654 : ∀ (v41 : Int32) (H : Heap) (locs : List Loc) (ls : Array Slot), K654 v41 → rpI dC dI a kA (rpA a sz) s M39 L27 H locs → lv_has ls 16 [(0, .ref (a 0)), (3, .int r17), (7, .int v28), (10, .int v32), (11, .int v33), (12, .int x34), (13, .int v36)] → W p l e rm_X7_four__0 s m (av_X7_four__0 a t ).toArray below meth c H locs 1 11 (MQ below (qc_X7_four__0 dC dI a kA sz M L Z) (av_X7_four__0 a t ).toArray s 1 11 (rpA a sz)) (F0 m 654 ls [.int v41, .int (r17 - (1 : Int32)), .int (((M39 0 20) - r38) - (40 : Int32)), .int r40, .int r38, .ref (a 0)]) := by
                                                intro v41 H locs ls h hI hl
                                                have h := hK654 v41 h
                                                refine lv_aload_n hx hb dX7_four__654 rfl (lv_at hl 0 rfl) ?_
                                                refine va_get (D := (dC, dI)) (ci := 6) (v := .int (M39 0 33)) (C := RX7) (T := TX7) (N := 44) hx hb hu uX7 hown hK hI.1 0 rfl rfl 33 (by decide) (hu _ uww_669) (fun _ h9 => h9) rfl dX7_four__655 ?_
                                                refine lv_iload hx hb dX7_four__658 (lv_at hl 5 rfl) ?_
                                                refine lv_iadd hx hb dX7_four__660 ?_
                                                refine lv_iload hx hb dX7_four__661 (lv_at hl 5 rfl) ?_
                                                refine lv_iload hx hb dX7_four__663 (lv_at hl 6 rfl) ?_
                                                refine lv_iadd hx hb dX7_four__665 ?_
                                                refine lv_aload_n hx hb dX7_four__666 rfl (lv_at hl 0 rfl) ?_
                                                refine va_get (D := (dC, dI)) (ci := 6) (v := .int (M39 0 24)) (C := RX7) (T := TX7) (N := 44) hx hb hu uX7 hown hK hI.1 0 rfl rfl 24 (by decide) (hu _ uww_626) (fun _ h9 => h9) rfl dX7_four__667 ?_
                                                obtain ⟨K685, hK685, h⟩ := h
                                                have J685 : ∀ (v42 : Int32) (H : Heap) (locs : List Loc) (ls : Array Slot), K685 v42 → rpI dC dI a kA (rpA a sz) s M39 L27 H locs → lv_has ls 16 [(0, .ref (a 0)), (3, .int r17), (7, .int v28), (10, .int v32), (11, .int v33), (12, .int x34), (13, .int v36)] → W p l e rm_X7_four__0 s m (av_X7_four__0 a t ).toArray below meth c H locs 1 11 (MQ below (qc_X7_four__0 dC dI a kA sz M L Z) (av_X7_four__0 a t ).toArray s 1 11 (rpA a sz)) (F0 m 685 ls [.int v42, .int ((M39 0 33) + x34), .int v41, .int (r17 - (1 : Int32)), .int (((M39 0 20) - r38) - (40 : Int32)), .int r40, .int r38, .ref (a 0)]) := by
                                                  intro v42 H locs ls h hI hl
                                                  have h := hK685 v42 h
                                                  refine lv_aload_n hx hb dX7_four__685 rfl (lv_at hl 0 rfl) ?_
                                                  refine va_get (D := (dC, dI)) (ci := 6) (v := .ref (a 1)) (C := RX7) (T := TX7) (N := 44) hx hb hu uX7 hown hK hI.1 0 rfl rfl 1 (by decide) (hu _ uww_538) (fun _ h9 => h9) rfl dX7_four__686 ?_
                                                  refine lv_iconst (v := (4 : Int32)) hx hb dX7_four__689 (by decide) ?_
                                                  refine rpcalli_p hsz hI (va_runS (As := [.ref (a 1), .int (4 : Int32)]) (rest := [.int v42, .int ((M39 0 33) + x34), .int v41, .int (r17 - (1 : Int32)), .int (((M39 0 20) - r38) - (40 : Int32)), .int r40, .int r38, .ref (a 0)]) ⟨hx, hb, hml, hown, hu⟩ (met_X7_twoAt_1 l dC dI a kA t _ M39 L27 (4 : Int32) _ h) (cwl_X7_115_S hu ⟨by decide, by decide⟩) (rppreS hK hE hsz hI) rfl rfl hl.1 rfl (lv_room (Nat.le_of_ble_eq_true rfl)) dX7_four__690 ⟨by decide, by decide⟩) (fun r43 H locs h hI => ?_)
                                                  refine rpcallv_m hsz hI (va_runV (As := [.int r38, .int r40, .int (((M39 0 20) - r38) - (40 : Int32)), .int (r17 - (1 : Int32)), .int v41, .int ((M39 0 33) + x34), .int v42, .int r43]) (rest := []) ⟨hx, hb, hml, hown, hu⟩ (met_X7_head6_0 l dC dI a kA t _ M39 L27 r38 r40 (((M39 0 20) - r38) - (40 : Int32)) (r17 - (1 : Int32)) v41 ((M39 0 33) + x34) v42 r43 _ h) (cwl_X7_260_X7 hu ⟨by decide, by decide⟩) (rppre (ci := 6) hK hE hsz hI rfl rfl) rfl rfl hl.1 rfl (lv_room (Nat.le_of_ble_eq_true rfl)) dX7_four__693 ⟨by decide, by decide⟩) (fun M44 H locs h hI => ?_)
                                                  refine lv_iconst (v := (0 : Int32)) hx hb dX7_four__696 (by decide) ?_
                                                  refine lv_istore (lv' := [(15, .int (0 : Int32)), (0, .ref (a 0)), (3, .int r17), (7, .int v28), (10, .int v32), (11, .int v33), (12, .int x34), (13, .int v36)]) hx hb dX7_four__697 hl (by decide) rfl (fun ls hl => ?_)
                                                  obtain ⟨I699, m699, h, hs699⟩ := h
                                                  have P699 : ∀ (n699 : Nat) (x45 : Int32) (M46 : cM) (H : Heap) (locs : List Loc) (ls : Array Slot), I699 x45 M46 → m699 x45 M46 < n699 → rpI dC dI a kA (rpA a sz) s M46 L27 H locs → lv_has ls 16 [(0, .ref (a 0)), (3, .int r17), (7, .int v28), (10, .int v32), (11, .int v33), (12, .int x34), (13, .int v36), (15, .int x45)] → W p l e rm_X7_four__0 s m (av_X7_four__0 a t ).toArray below meth c H locs 1 11 (MQ below (qc_X7_four__0 dC dI a kA sz M L Z) (av_X7_four__0 a t ).toArray s 1 11 (rpA a sz)) (F0 m 699 ls []) := by
                                                    intro n699
                                                    induction n699 with
                                                    | zero => intro x45 M46 H locs ls _ hn; exact absurd hn (Nat.not_lt_zero _)
                                                    | succ n699 ih699 =>
                                                      intro x45 M46 H locs ls h hn699 hI hl
                                                      have h := hs699 x45 M46 h
                                                      refine lv_iload hx hb dX7_four__699 (lv_at hl 7 rfl) ?_
                                                      refine lv_iload hx hb dX7_four__701 (lv_at hl 6 rfl) ?_
                                                      refine lv_icmp_ge (tgt := 737) hx hb dX7_four__703 (by decide) (fun c47 => ?_) (fun c47 => ?_)
                                                      · have h := h.1 c47
                                                        refine lv_aload_n hx hb dX7_four__737 rfl (lv_at hl 0 rfl) ?_
                                                        refine rpcallv_m hsz hI (va_runV (As := []) (rest := []) ⟨hx, hb, hml, hown, hu⟩ (met_X7_isPart_0 l dC dI a kA t _ M46 L27  _ h) (cwl_X7_223_X7 hu ⟨by decide, by decide⟩) (rppre (ci := 6) hK hE hsz hI rfl rfl) rfl rfl hl.1 rfl (lv_room (Nat.le_of_ble_eq_true rfl)) dX7_four__738 ⟨by decide, by decide⟩) (fun M48 H locs h hI => ?_)
                                                        refine lv_iload hx hb dX7_four__741 (lv_at hl 5 rfl) ?_
                                                        refine lv_iload hx hb dX7_four__743 (lv_at hl 6 rfl) ?_
                                                        refine lv_iadd hx hb dX7_four__745 ?_
                                                        refine lv_topi (fun x49 ex49 => ?_)
                                                        have h := h x49 ex49
                                                        refine lv_istore (lv' := [(12, .int x49), (0, .ref (a 0)), (3, .int r17), (7, .int v28), (10, .int v32), (11, .int v33), (13, .int v36), (15, .int x45)]) hx hb dX7_four__746 hl (by decide) rfl (fun ls hl => ?_)
                                                        refine lv_iload hx hb dX7_four__748 (lv_at hl 0 rfl) ?_
                                                        refine lv_aload_n hx hb dX7_four__750 rfl (lv_at hl 1 rfl) ?_
                                                        refine va_get (D := (dC, dI)) (ci := 6) (v := .int (M48 0 24)) (C := RX7) (T := TX7) (N := 44) hx hb hu uX7 hown hK hI.1 0 rfl rfl 24 (by decide) (hu _ uww_626) (fun _ h9 => h9) rfl dX7_four__751 ?_
                                                        refine lv_icmp_lt (tgt := 561) hx hb dX7_four__754 (by decide) (fun c50 => ?_) (fun c50 => ?_)
                                                        · have h := h.1 c50
                                                          exact ih561 x49 M48 _ _ _ h.1 (Nat.lt_of_lt_of_le h.2 (Nat.le_of_lt_succ hn561)) hI (lv_sub hl [1, 2, 3, 4, 5, 0] rfl)
                                                        · have h := h.2 c50
                                                          refine lv_aload_n hx hb dX7_four__757 rfl (lv_at hl 1 rfl) ?_
                                                          refine lv_iconst (v := (0 : Int32)) hx hb dX7_four__758 (by decide) ?_
                                                          refine rpcalli_m hsz hI (va_runV (As := [.int (0 : Int32)]) (rest := []) ⟨hx, hb, hml, hown, hu⟩ (met_X7_tell_0 l dC dI a kA t _ M48 L27 (0 : Int32) _ h) (cwl_X7_213_X7 hu ⟨by decide, by decide⟩) (rppre (ci := 6) hK hE hsz hI rfl rfl) rfl rfl hl.1 rfl (lv_room (Nat.le_of_ble_eq_true rfl)) dX7_four__759 ⟨by decide, by decide⟩) (fun r51 M52 H locs h hI => ?_)
                                                          exact rpiret (Z := (fun r M' L' => Z r M' L')) hx hb hr hlocks hK hI dX7_four__762 h
                                                      · have h := h.2 c47
                                                        refine lv_aload_n hx hb dX7_four__706 rfl (lv_at hl 0 rfl) ?_
                                                        refine va_get (D := (dC, dI)) (ci := 6) (v := .ref (a 3)) (C := RX7) (T := TX7) (N := 44) hx hb hu uX7 hown hK hI.1 0 rfl rfl 19 (by decide) (hu _ uww_552) (fun _ h9 => h9) rfl dX7_four__707 ?_
                                                        refine lv_aload_n hx hb dX7_four__710 rfl (lv_at hl 0 rfl) ?_
                                                        refine va_get (D := (dC, dI)) (ci := 6) (v := .int (M46 0 20)) (C := RX7) (T := TX7) (N := 44) hx hb hu uX7 hown hK hI.1 0 rfl rfl 20 (by decide) (hu _ uww_622) (fun _ h9 => h9) rfl dX7_four__711 ?_
                                                        refine lv_iload hx hb dX7_four__714 (lv_at hl 6 rfl) ?_
                                                        refine lv_isub hx hb dX7_four__716 ?_
                                                        refine lv_iload hx hb dX7_four__717 (lv_at hl 7 rfl) ?_
                                                        refine lv_iadd hx hb dX7_four__719 ?_
                                                        refine lv_aload_n hx hb dX7_four__720 rfl (lv_at hl 0 rfl) ?_
                                                        refine va_get (D := (dC, dI)) (ci := 6) (v := .ref (a 5)) (C := RX7) (T := TX7) (N := 44) hx hb hu uX7 hown hK hI.1 0 rfl rfl 23 (by decide) (hu _ uww_554) (fun _ h9 => h9) rfl dX7_four__721 ?_
                                                        refine lv_iload hx hb dX7_four__724 (lv_at hl 5 rfl) ?_
                                                        refine lv_iload hx hb dX7_four__726 (lv_at hl 7 rfl) ?_
                                                        refine lv_iadd hx hb dX7_four__728 ?_
                                                        refine va_bald hx hb hK hI.1 5 4 rfl rfl h.1 dX7_four__729 ?_
                                                        have h := h.2
                                                        refine rpbast hx hb hK hI 3 2 rfl rfl h.1 (rpset_3 _ _ _ _ _ _) dX7_four__730 (fun H locs M53 eM53 hI => ?_)
                                                        have h := h.2 M53 eM53
                                                        obtain ⟨x54, ex54⟩ : ∃ y : Int32, y = (x45 + (1 : Int32)) := ⟨_, rfl⟩
                                                        have h := h x54 ex54
                                                        refine lv_iinc (v := x54) (lv' := [(15, .int x54), (0, .ref (a 0)), (3, .int r17), (7, .int v28), (10, .int v32), (11, .int v33), (12, .int x34), (13, .int v36)]) hx hb dX7_four__731 hl (k := 7) rfl (by rw [ex54]; rfl) (by decide) rfl (fun ls hl => ?_)
                                                        refine lv_goto (tgt := 699) hx hb dX7_four__734 (by decide) ?_
                                                        exact ih699 x54 M53 _ _ _ h.1 (Nat.lt_of_lt_of_le h.2 (Nat.le_of_lt_succ hn699)) hI (lv_sub hl [1, 2, 3, 4, 5, 6, 7, 0] rfl)
                                                  exact P699 (m699 (0 : Int32) M44 + 1) (0 : Int32) M44 _ _ _ h (Nat.lt_succ_self _) hI (lv_sub hl [1, 2, 3, 4, 5, 6, 7, 0] rfl)
                                                obtain ⟨K680, hK680, h⟩ := h
                                                have J680 : ∀  (H : Heap) (locs : List Loc) (ls : Array Slot), K680  → rpI dC dI a kA (rpA a sz) s M39 L27 H locs → lv_has ls 16 [(0, .ref (a 0)), (3, .int r17), (7, .int v28), (10, .int v32), (11, .int v33), (12, .int x34), (13, .int v36)] → W p l e rm_X7_four__0 s m (av_X7_four__0 a t ).toArray below meth c H locs 1 11 (MQ below (qc_X7_four__0 dC dI a kA sz M L Z) (av_X7_four__0 a t ).toArray s 1 11 (rpA a sz)) (F0 m 680 ls [.int ((M39 0 33) + x34), .int v41, .int (r17 - (1 : Int32)), .int (((M39 0 20) - r38) - (40 : Int32)), .int r40, .int r38, .ref (a 0)]) := by
                                                  intro  H locs ls h hI hl
                                                  have h := hK680  h
                                                  refine lv_iconst (v := (1 : Int32)) hx hb dX7_four__680 (by decide) ?_
                                                  refine lv_goto (tgt := 685) hx hb dX7_four__681 (by decide) ?_
                                                  exact J685 (1 : Int32) _ _ _ h hI (lv_sub hl [0, 1, 2, 3, 4, 5, 6] rfl)
                                                refine lv_icmp_lt (tgt := 680) hx hb dX7_four__670 (by decide) (fun c55 => ?_) (fun c55 => ?_)
                                                · have h := h.1 c55
                                                  exact J680  _ _ _ h hI (lv_sub hl [0, 1, 2, 3, 4, 5, 6] rfl)
                                                · have h := h.2 c55
                                                  refine lv_aload_n hx hb dX7_four__673 rfl (lv_at hl 0 rfl) ?_
                                                  refine va_get (D := (dC, dI)) (ci := 6) (v := .int (M39 0 34)) (C := RX7) (T := TX7) (N := 44) hx hb hu uX7 hown hK hI.1 0 rfl rfl 34 (by decide) (hu _ uww_670) (fun _ h9 => h9) rfl dX7_four__674 ?_
                                                  refine lv_if_eq (tgt := 684) hx hb dX7_four__677 (by decide) (fun c56 => ?_) (fun c56 => ?_)
                                                  · have h := h.1 c56
                                                    refine lv_iconst (v := (0 : Int32)) hx hb dX7_four__684 (by decide) ?_
                                                    exact J685 (0 : Int32) _ _ _ h hI (lv_sub hl [0, 1, 2, 3, 4, 5, 6] rfl)
                                                  · have h := h.2 c56
                                                    exact J680  _ _ _ h hI (lv_sub hl [0, 1, 2, 3, 4, 5, 6] rfl)
                                              obtain ⟨K649, hK649, h⟩ := h
                                              have J649 : ∀  (H : Heap) (locs : List Loc) (ls : Array Slot), K649  → rpI dC dI a kA (rpA a sz) s M39 L27 H locs → lv_has ls 16 [(0, .ref (a 0)), (3, .int r17), (7, .int v28), (10, .int v32), (11, .int v33), (12, .int x34), (13, .int v36)] → W p l e rm_X7_four__0 s m (av_X7_four__0 a t ).toArray below meth c H locs 1 11 (MQ below (qc_X7_four__0 dC dI a kA sz M L Z) (av_X7_four__0 a t ).toArray s 1 11 (rpA a sz)) (F0 m 649 ls [.int (r17 - (1 : Int32)), .int (((M39 0 20) - r38) - (40 : Int32)), .int r40, .int r38, .ref (a 0)]) := by
                                                intro  H locs ls h hI hl
                                                have h := hK649  h
                                                refine lv_iconst (v := (1 : Int32)) hx hb dX7_four__649 (by decide) ?_
                                                refine lv_goto (tgt := 654) hx hb dX7_four__650 (by decide) ?_
                                                exact J654 (1 : Int32) _ _ _ h hI (lv_sub hl [0, 1, 2, 3, 4, 5, 6] rfl)
                                              refine lv_if_ne (tgt := 649) hx hb dX7_four__641 (by decide) (fun c57 => ?_) (fun c57 => ?_)
                                              · have h := h.1 c57
                                                exact J649  _ _ _ h hI (lv_sub hl [1, 2, 3, 4, 5, 6, 7] rfl)
                                              · have h := h.2 c57
                                                refine lv_iload hx hb dX7_four__644 (lv_at hl 4 rfl) ?_
                                                refine lv_if_eq (tgt := 653) hx hb dX7_four__646 (by decide) (fun c58 => ?_) (fun c58 => ?_)
                                                · have h := h.1 c58
                                                  refine lv_iconst (v := (0 : Int32)) hx hb dX7_four__653 (by decide) ?_
                                                  exact J654 (0 : Int32) _ _ _ h hI (lv_sub hl [1, 2, 3, 4, 5, 6, 7] rfl)
                                                · have h := h.2 c58
                                                  exact J649  _ _ _ h hI (lv_sub hl [1, 2, 3, 4, 5, 6, 7] rfl)
                                            obtain ⟨K600, hK600, h⟩ := h
                                            have J600 : ∀  (H : Heap) (locs : List Loc) (ls : Array Slot), K600  → rpI dC dI a kA (rpA a sz) s M35 L27 H locs → lv_has ls 16 [(0, .ref (a 0)), (3, .int r17), (7, .int v28), (10, .int v32), (11, .int v33), (12, .int x34), (13, .int v36)] → W p l e rm_X7_four__0 s m (av_X7_four__0 a t ).toArray below meth c H locs 1 11 (MQ below (qc_X7_four__0 dC dI a kA sz M L Z) (av_X7_four__0 a t ).toArray s 1 11 (rpA a sz)) (F0 m 600 ls [.int (40 : Int32), .ref (a 0)]) := by
                                              intro  H locs ls h hI hl
                                              have h := hK600  h
                                              refine lv_bipush (v := (8 : Int32)) hx hb dX7_four__600 (by decide) ?_
                                              refine lv_goto (tgt := 606) hx hb dX7_four__602 (by decide) ?_
                                              exact J606 (8 : Int32) _ _ _ h hI (lv_sub hl [0, 1, 2, 3, 4, 5, 6] rfl)
                                            refine lv_if_ne (tgt := 600) hx hb dX7_four__592 (by decide) (fun c59 => ?_) (fun c59 => ?_)
                                            · have h := h.1 c59
                                              exact J600  _ _ _ h hI (lv_sub hl [1, 2, 3, 4, 5, 6, 0] rfl)
                                            · have h := h.2 c59
                                              refine lv_iload hx hb dX7_four__595 (lv_at hl 4 rfl) ?_
                                              refine lv_if_eq (tgt := 605) hx hb dX7_four__597 (by decide) (fun c60 => ?_) (fun c60 => ?_)
                                              · have h := h.1 c60
                                                refine lv_iconst (v := (0 : Int32)) hx hb dX7_four__605 (by decide) ?_
                                                exact J606 (0 : Int32) _ _ _ h hI (lv_sub hl [1, 2, 3, 4, 5, 6, 0] rfl)
                                              · have h := h.2 c60
                                                exact J600  _ _ _ h hI (lv_sub hl [1, 2, 3, 4, 5, 6, 0] rfl)
                                          refine lv_icmp_ge (tgt := 583) hx hb dX7_four__570 (by decide) (fun c61 => ?_) (fun c61 => ?_)
                                          · have h := h.1 c61
                                            refine lv_iload hx hb dX7_four__583 (lv_at hl 4 rfl) ?_
                                            exact J585 v33 _ _ _ h hI (lv_sub hl [0, 1, 2, 3, 4, 5] rfl)
                                          · have h := h.2 c61
                                            refine lv_aload_n hx hb dX7_four__573 rfl (lv_at hl 0 rfl) ?_
                                            refine va_get (D := (dC, dI)) (ci := 6) (v := .int (M35 0 24)) (C := RX7) (T := TX7) (N := 44) hx hb hu uX7 hown hK hI.1 0 rfl rfl 24 (by decide) (hu _ uww_626) (fun _ h9 => h9) rfl dX7_four__574 ?_
                                            refine lv_iload hx hb dX7_four__577 (lv_at hl 5 rfl) ?_
                                            refine lv_isub hx hb dX7_four__579 ?_
                                            refine lv_goto (tgt := 585) hx hb dX7_four__580 (by decide) ?_
                                            exact J585 ((M35 0 24) - x34) _ _ _ h hI (lv_sub hl [0, 1, 2, 3, 4, 5] rfl)
                                      exact P561 (m561 (0 : Int32) M26 + 1) (0 : Int32) M26 _ _ _ h (Nat.lt_succ_self _) hI (lv_sub hl [2, 3, 4, 5, 1, 0] rfl)
                                    refine lv_if_eq (tgt := 552) hx hb dX7_four__543 (by decide) (fun c62 => ?_) (fun c62 => ?_)
                                    · have h := h.1 c62
                                      refine lv_aload_n hx hb dX7_four__552 rfl (lv_at hl 1 rfl) ?_
                                      refine va_get (D := (dC, dI)) (ci := 6) (v := .int (M26 0 24)) (C := RX7) (T := TX7) (N := 44) hx hb hu uX7 hown hK hI.1 0 rfl rfl 24 (by decide) (hu _ uww_626) (fun _ h9 => h9) rfl dX7_four__553 ?_
                                      exact J556 (M26 0 24) _ _ _ h hI (lv_sub hl [1, 2, 3, 0] rfl)
                                    · have h := h.2 c62
                                      refine lv_sipush (v := (1232 : Int32)) hx hb dX7_four__546 (by decide) ?_
                                      refine lv_goto (tgt := 556) hx hb dX7_four__549 (by decide) ?_
                                      exact J556 (1232 : Int32) _ _ _ h hI (lv_sub hl [1, 2, 3, 0] rfl)
                                  obtain ⟨K538, hK538, h⟩ := h
                                  have J538 : ∀  (H : Heap) (locs : List Loc) (ls : Array Slot), K538  → rpI dC dI a kA (rpA a sz) s M26 L27 H locs → lv_has ls 16 [(0, .ref (a 0)), (3, .int r17), (7, .int v28)] → W p l e rm_X7_four__0 s m (av_X7_four__0 a t ).toArray below meth c H locs 1 11 (MQ below (qc_X7_four__0 dC dI a kA sz M L Z) (av_X7_four__0 a t ).toArray s 1 11 (rpA a sz)) (F0 m 538 ls []) := by
                                    intro  H locs ls h hI hl
                                    have h := hK538  h
                                    refine lv_iconst (v := (0 : Int32)) hx hb dX7_four__538 (by decide) ?_
                                    exact J539 (0 : Int32) _ _ _ h hI (lv_sub hl [0, 1, 2] rfl)
                                  refine lv_if_ne (tgt := 538) hx hb dX7_four__523 (by decide) (fun c63 => ?_) (fun c63 => ?_)
                                  · have h := h.1 c63
                                    exact J538  _ _ _ h hI (lv_sub hl [0, 1, 2] rfl)
                                  · have h := h.2 c63
                                    refine lv_iload hx hb dX7_four__526 (lv_at hl 3 rfl) ?_
                                    refine lv_sipush (v := (1280 : Int32)) hx hb dX7_four__528 (by decide) ?_
                                    refine lv_icmp_le (tgt := 538) hx hb dX7_four__531 (by decide) (fun c64 => ?_) (fun c64 => ?_)
                                    · have h := h.1 c64
                                      exact J538  _ _ _ h hI (lv_sub hl [0, 1, 2] rfl)
                                    · have h := h.2 c64
                                      refine lv_iconst (v := (1 : Int32)) hx hb dX7_four__534 (by decide) ?_
                                      refine lv_goto (tgt := 539) hx hb dX7_four__535 (by decide) ?_
                                      exact J539 (1 : Int32) _ _ _ h hI (lv_sub hl [0, 1, 2] rfl)
                                refine lv_if_eq (tgt := 521) hx hb dX7_four__495 (by decide) (fun c65 => ?_) (fun c65 => ?_)
                                · have h := h.1 c65
                                  exact J521  _ _ _ h hI (lv_sub hl [1, 2, 3, 4, 0] rfl)
                                · have h := h.2 c65
                                  refine lv_iload hx hb dX7_four__498 (lv_at hl 4 rfl) ?_
                                  refine lv_aload_n hx hb dX7_four__500 rfl (lv_at hl 1 rfl) ?_
                                  refine va_get (D := (dC, dI)) (ci := 6) (v := .int (M26 0 10)) (C := RX7) (T := TX7) (N := 44) hx hb hu uX7 hown hK hI.1 0 rfl rfl 10 (by decide) (hu _ uww_548) (fun _ h9 => h9) rfl dX7_four__501 ?_
                                  refine lv_icmp_le (tgt := 521) hx hb dX7_four__504 (by decide) (fun c66 => ?_) (fun c66 => ?_)
                                  · have h := h.1 c66
                                    exact J521  _ _ _ h hI (lv_sub hl [1, 2, 3, 4, 0] rfl)
                                  · have h := h.2 c66
                                    refine lv_aload_n hx hb dX7_four__507 rfl (lv_at hl 1 rfl) ?_
                                    refine lv_iconst (v := (3 : Int32)) hx hb dX7_four__508 (by decide) ?_
                                    refine lv_iconst (v := (4 : Int32)) hx hb dX7_four__509 (by decide) ?_
                                    refine lv_aload_n hx hb dX7_four__510 rfl (lv_at hl 1 rfl) ?_
                                    refine va_get (D := (dC, dI)) (ci := 6) (v := .int (M26 0 10)) (C := RX7) (T := TX7) (N := 44) hx hb hu uX7 hown hK hI.1 0 rfl rfl 10 (by decide) (hu _ uww_548) (fun _ h9 => h9) rfl dX7_four__511 ?_
                                    refine lv_bipush (v := (20 : Int32)) hx hb dX7_four__514 (by decide) ?_
                                    refine lv_isub hx hb dX7_four__516 ?_
                                    refine rpcalli hsz hI (va_runV (As := [.int (3 : Int32), .int (4 : Int32), .int ((M26 0 10) - (20 : Int32))]) (rest := []) ⟨hx, hb, hml, hown, hu⟩ (met_X7_answer4_0 l dC dI a kA t _ M26 L27 (3 : Int32) (4 : Int32) ((M26 0 10) - (20 : Int32)) _ h) (cwl_X7_236_X7 hu ⟨by decide, by decide⟩) (rppre (ci := 6) hK hE hsz hI rfl rfl) rfl rfl hl.1 rfl (lv_room (Nat.le_of_ble_eq_true rfl)) dX7_four__517 ⟨by decide, by decide⟩) (fun r67 M68 L69 H locs h hI => ?_)
                                    exact rpiret (Z := (fun r M' L' => Z r M' L')) hx hb hr hlocks hK hI dX7_four__520 h
                              refine lv_if_eq (tgt := 490) hx hb dX7_four__483 (by decide) (fun c70 => ?_) (fun c70 => ?_)
                              · have h := h.1 c70
                                refine lv_iconst (v := (0 : Int32)) hx hb dX7_four__490 (by decide) ?_
                                exact J491 (0 : Int32) _ _ _ h hI (lv_sub hl [1, 2, 3, 0] rfl)
                              · have h := h.2 c70
                                refine lv_iconst (v := (1 : Int32)) hx hb dX7_four__486 (by decide) ?_
                                refine lv_goto (tgt := 491) hx hb dX7_four__487 (by decide) ?_
                                exact J491 (1 : Int32) _ _ _ h hI (lv_sub hl [1, 2, 3, 0] rfl)
                            refine lv_if_eq (tgt := 464) hx hb dX7_four__456 (by decide) (fun c71 => ?_) (fun c71 => ?_)
                            · have h := h.1 c71
                              refine lv_iconst (v := (0 : Int32)) hx hb dX7_four__464 (by decide) ?_
                              exact J465 (0 : Int32) _ _ _ h hI (lv_sub hl [1, 2, 0] rfl)
                            · have h := h.2 c71
                              refine lv_bipush (v := (8 : Int32)) hx hb dX7_four__459 (by decide) ?_
                              refine lv_goto (tgt := 465) hx hb dX7_four__461 (by decide) ?_
                              exact J465 (8 : Int32) _ _ _ h hI (lv_sub hl [1, 2, 0] rfl)
                          obtain ⟨K445, hK445, h⟩ := h
                          have J445 : ∀  (H : Heap) (locs : List Loc) (ls : Array Slot), K445  → rpI dC dI a kA (rpA a sz) s M26 L27 H locs → lv_has ls 16 [(0, .ref (a 0)), (3, .int r17)] → W p l e rm_X7_four__0 s m (av_X7_four__0 a t ).toArray below meth c H locs 1 11 (MQ below (qc_X7_four__0 dC dI a kA sz M L Z) (av_X7_four__0 a t ).toArray s 1 11 (rpA a sz)) (F0 m 445 ls []) := by
                            intro  H locs ls h hI hl
                            have h := hK445  h
                            refine lv_iconst (v := (1 : Int32)) hx hb dX7_four__445 (by decide) ?_
                            refine lv_goto (tgt := 450) hx hb dX7_four__446 (by decide) ?_
                            exact J450 (1 : Int32) _ _ _ h hI (lv_sub hl [0, 1] rfl)
                          refine lv_if_ne (tgt := 445) hx hb dX7_four__435 (by decide) (fun c72 => ?_) (fun c72 => ?_)
                          · have h := h.1 c72
                            exact J445  _ _ _ h hI (lv_sub hl [0, 1] rfl)
                          · have h := h.2 c72
                            refine lv_aload_n hx hb dX7_four__438 rfl (lv_at hl 0 rfl) ?_
                            refine va_get (D := (dC, dI)) (ci := 6) (v := .int (M26 0 33)) (C := RX7) (T := TX7) (N := 44) hx hb hu uX7 hown hK hI.1 0 rfl rfl 33 (by decide) (hu _ uww_669) (fun _ h9 => h9) rfl dX7_four__439 ?_
                            refine lv_if_le (tgt := 449) hx hb dX7_four__442 (by decide) (fun c73 => ?_) (fun c73 => ?_)
                            · have h := h.1 c73
                              refine lv_iconst (v := (0 : Int32)) hx hb dX7_four__449 (by decide) ?_
                              exact J450 (0 : Int32) _ _ _ h hI (lv_sub hl [0, 1] rfl)
                            · have h := h.2 c73
                              exact J445  _ _ _ h hI (lv_sub hl [0, 1] rfl)
                        refine lv_icmp_ne (tgt := 324) hx hb dX7_four__298 (by decide) (fun c74 => ?_) (fun c74 => ?_)
                        · have h := h.1 c74
                          refine lv_aload_n hx hb dX7_four__324 rfl (lv_at hl 0 rfl) ?_
                          refine va_get (D := (dC, dI)) (ci := 6) (v := .int (M25 0 33)) (C := RX7) (T := TX7) (N := 44) hx hb hu uX7 hown hK hI.1 0 rfl rfl 33 (by decide) (hu _ uww_669) (fun _ h9 => h9) rfl dX7_four__325 ?_
                          refine lv_if_ne (tgt := 431) hx hb dX7_four__328 (by decide) (fun c75 => ?_) (fun c75 => ?_)
                          · have h := h.1 c75
                            refine W.widen (k := 1) (n := 11) (by decide) (by decide) ?_
                            exact J431 M25 L12 _ _ _ h hI (lv_sub hl [0, 1] rfl)
                          · have h := h.2 c75
                            refine lv_aload_n hx hb dX7_four__331 rfl (lv_at hl 0 rfl) ?_
                            refine va_get (D := (dC, dI)) (ci := 6) (v := .int (M25 0 35)) (C := RX7) (T := TX7) (N := 44) hx hb hu uX7 hown hK hI.1 0 rfl rfl 35 (by decide) (hu _ uww_671) (fun _ h9 => h9) rfl dX7_four__332 ?_
                            refine lv_bipush (v := (17 : Int32)) hx hb dX7_four__335 (by decide) ?_
                            obtain ⟨K349, hK349, h⟩ := h
                            have J349 : ∀  (H : Heap) (locs : List Loc) (ls : Array Slot), K349  → rpI dC dI a kA (rpA a sz) s M25 L12 H locs → lv_has ls 16 [(0, .ref (a 0)), (3, .int r17), (4, .int x21), (6, .int v24)] → W p l e rm_X7_four__0 s m (av_X7_four__0 a t ).toArray below meth c H locs 0 0 (MQ below (qc_X7_four__0 dC dI a kA sz M L Z) (av_X7_four__0 a t ).toArray s 1 11 (rpA a sz)) (F0 m 349 ls []) := by
                              intro  H locs ls h hI hl
                              have h := hK349  h
                              refine lv_iload hx hb dX7_four__349 (lv_at hl 3 rfl) ?_
                              refine lv_if_ne (tgt := 377) hx hb dX7_four__351 (by decide) (fun c76 => ?_) (fun c76 => ?_)
                              · have h := h.1 c76
                                refine lv_aload_n hx hb dX7_four__377 rfl (lv_at hl 0 rfl) ?_
                                refine lv_lconst (v := (0 : Int64)) hx hb dX7_four__378 (by decide) ?_
                                refine rpputl (ci := 6) (C := RX7) (T := TX7) (N := 44) (ty := .long) hx hb hu uX7 tyX7 tyX7_ok nmX7 hown hK hI 0 rfl rfl 18 (by decide) (hu _ uww_593) (fun _ h9 => h9) rfl (by decide +kernel) rfl rfl (Nat.le_of_ble_eq_true rfl) (rpset_0_18 _ _ _ _ _) dX7_four__379 (fun H locs L77 eL77 hI => ?_)
                                have h := h L77 eL77
                                refine lv_aload_n hx hb dX7_four__382 rfl (lv_at hl 0 rfl) ?_
                                refine lv_iload hx hb dX7_four__383 (lv_at hl 2 rfl) ?_
                                refine lv_bipush (v := (17 : Int32)) hx hb dX7_four__385 (by decide) ?_
                                refine lv_iconst (v := (0 : Int32)) hx hb dX7_four__387 (by decide) ?_
                                refine rpcallv_l hsz hI (va_runV (As := [.int x21, .int (17 : Int32), .int (0 : Int32)]) (rest := []) ⟨hx, hb, hml, hown, hu⟩ (met_X7_pseudo_0 l dC dI a kA t _ M25 L77 x21 (17 : Int32) (0 : Int32) _ h) (cwl_X7_181_X7 hu ⟨by decide, by decide⟩) (rppre (ci := 6) hK hE hsz hI rfl rfl) rfl rfl hl.1 rfl (lv_room (Nat.le_of_ble_eq_true rfl)) dX7_four__388 ⟨by decide, by decide⟩) (fun L78 H locs h hI => ?_)
                                refine lv_aload_n hx hb dX7_four__391 rfl (lv_at hl 0 rfl) ?_
                                refine lv_aload_n hx hb dX7_four__392 rfl (lv_at hl 0 rfl) ?_
                                refine va_get (D := (dC, dI)) (ci := 6) (v := .ref (a 5)) (C := RX7) (T := TX7) (N := 44) hx hb hu uX7 hown hK hI.1 0 rfl rfl 23 (by decide) (hu _ uww_554) (fun _ h9 => h9) rfl dX7_four__393 ?_
                                refine lv_iconst (v := (0 : Int32)) hx hb dX7_four__396 (by decide) ?_
                                refine lv_aload_n hx hb dX7_four__397 rfl (lv_at hl 0 rfl) ?_
                                refine va_get (D := (dC, dI)) (ci := 6) (v := .int (M25 0 24)) (C := RX7) (T := TX7) (N := 44) hx hb hu uX7 hown hK hI.1 0 rfl rfl 24 (by decide) (hu _ uww_626) (fun _ h9 => h9) rfl dX7_four__398 ?_
                                refine rpcallv_l hsz hI (va_runV (As := [.ref (a 5), .int (0 : Int32), .int (M25 0 24)]) (rest := []) ⟨hx, hb, hml, hown, hu⟩ (met_X7_words_0_5 l dC dI a kA t _ M25 L78 (0 : Int32) (M25 0 24) _ h) (cwl_X7_206_X7 hu ⟨by decide, by decide⟩) (rppre (ci := 6) hK hE hsz hI rfl rfl) rfl rfl hl.1 rfl (lv_room (Nat.le_of_ble_eq_true rfl)) dX7_four__401 ⟨by decide, by decide⟩) (fun L79 H locs h hI => ?_)
                                refine lv_aload_n hx hb dX7_four__404 rfl (lv_at hl 0 rfl) ?_
                                refine rpcalli_p hsz hI (va_runV (As := []) (rest := []) ⟨hx, hb, hml, hown, hu⟩ (met_X7_checksum_0 l dC dI a kA t _ M25 L79  _ h) (cwl_X7_177_X7 hu ⟨by decide, by decide⟩) (rppre (ci := 6) hK hE hsz hI rfl rfl) rfl rfl hl.1 rfl (lv_room (Nat.le_of_ble_eq_true rfl)) dX7_four__405 ⟨by decide, by decide⟩) (fun r80 H locs h hI => ?_)
                                refine lv_istore (lv' := [(7, .int r80), (0, .ref (a 0)), (3, .int r17), (4, .int x21), (6, .int v24)]) hx hb dX7_four__408 hl (by decide) rfl (fun ls hl => ?_)
                                refine lv_aload_n hx hb dX7_four__410 rfl (lv_at hl 1 rfl) ?_
                                refine va_get (D := (dC, dI)) (ci := 6) (v := .ref (a 5)) (C := RX7) (T := TX7) (N := 44) hx hb hu uX7 hown hK hI.1 0 rfl rfl 23 (by decide) (hu _ uww_554) (fun _ h9 => h9) rfl dX7_four__411 ?_
                                refine lv_bipush (v := (6 : Int32)) hx hb dX7_four__414 (by decide) ?_
                                refine lv_iload hx hb dX7_four__416 (lv_at hl 0 rfl) ?_
                                obtain ⟨K428, hK428, h⟩ := h
                                have J428 : ∀ (v81 : Int32) (H : Heap) (locs : List Loc) (ls : Array Slot), K428 v81 → rpI dC dI a kA (rpA a sz) s M25 L79 H locs → lv_has ls 16 [(0, .ref (a 0)), (3, .int r17)] → W p l e rm_X7_four__0 s m (av_X7_four__0 a t ).toArray below meth c H locs 0 0 (MQ below (qc_X7_four__0 dC dI a kA sz M L Z) (av_X7_four__0 a t ).toArray s 1 11 (rpA a sz)) (F0 m 428 ls [.int v81, .int (6 : Int32), .ref (a 5)]) := by
                                  intro v81 H locs ls h hI hl
                                  have h := hK428 v81 h
                                  refine rpcallv_m hsz hI (va_runS (As := [.ref (a 5), .int (6 : Int32), .int v81]) (rest := []) ⟨hx, hb, hml, hown, hu⟩ (met_X7_putTwo_5 l dC dI a kA t _ M25 L79 (6 : Int32) v81 _ h) (cwl_X7_121_S hu ⟨by decide, by decide⟩) (rppreS hK hE hsz hI) rfl rfl hl.1 rfl (lv_room (Nat.le_of_ble_eq_true rfl)) dX7_four__428 ⟨by decide, by decide⟩) (fun M82 H locs h hI => ?_)
                                  refine W.widen (k := 1) (n := 11) (by decide) (by decide) ?_
                                  exact J431 M82 L79 _ _ _ h hI (lv_sub hl [0, 1] rfl)
                                refine lv_if_ne (tgt := 426) hx hb dX7_four__418 (by decide) (fun c83 => ?_) (fun c83 => ?_)
                                · have h := h.1 c83
                                  refine lv_iload hx hb dX7_four__426 (lv_at hl 0 rfl) ?_
                                  exact J428 r80 _ _ _ h hI (lv_sub hl [1, 2] rfl)
                                · have h := h.2 c83
                                  refine lv_ldc (own := RX7) (v := (65535 : Int32)) hx hb hown (hu _ uww_596) dX7_four__421 ?_
                                  refine lv_goto (tgt := 428) hx hb dX7_four__423 (by decide) ?_
                                  exact J428 (65535 : Int32) _ _ _ h hI (lv_sub hl [1, 2] rfl)
                              · have h := h.2 c76
                                refine lv_aload_n hx hb dX7_four__354 rfl (lv_at hl 0 rfl) ?_
                                refine lv_aload_n hx hb dX7_four__355 rfl (lv_at hl 0 rfl) ?_
                                refine va_get (D := (dC, dI)) (ci := 6) (v := .ref (a 5)) (C := RX7) (T := TX7) (N := 44) hx hb hu uX7 hown hK hI.1 0 rfl rfl 23 (by decide) (hu _ uww_554) (fun _ h9 => h9) rfl dX7_four__356 ?_
                                refine lv_aload_n hx hb dX7_four__359 rfl (lv_at hl 0 rfl) ?_
                                refine va_get (D := (dC, dI)) (ci := 6) (v := .int (M25 0 35)) (C := RX7) (T := TX7) (N := 44) hx hb hu uX7 hown hK hI.1 0 rfl rfl 35 (by decide) (hu _ uww_671) (fun _ h9 => h9) rfl dX7_four__360 ?_
                                refine rpcalli_p hsz hI (va_runS (As := [.int (M25 0 35)]) (rest := [.ref (a 5), .ref (a 0)]) ⟨hx, hb, hml, hown, hu⟩ (met_X7_sumAt l dC dI a kA t _ M25 L12 (M25 0 35) _ h) (cwl_X7_253_S hu ⟨by decide, by decide⟩) (rppreS hK hE hsz hI) rfl rfl hl.1 rfl (lv_room (Nat.le_of_ble_eq_true rfl)) dX7_four__363 ⟨by decide, by decide⟩) (fun r84 H locs h hI => ?_)
                                refine lv_aload_n hx hb dX7_four__366 rfl (lv_at hl 0 rfl) ?_
                                refine va_get (D := (dC, dI)) (ci := 6) (v := .int (M25 0 35)) (C := RX7) (T := TX7) (N := 44) hx hb hu uX7 hown hK hI.1 0 rfl rfl 35 (by decide) (hu _ uww_671) (fun _ h9 => h9) rfl dX7_four__367 ?_
                                refine lv_iconst (v := (1 : Int32)) hx hb dX7_four__370 (by decide) ?_
                                refine rpcallv hsz hI (va_runV (As := [.ref (a 5), .int r84, .int (M25 0 35), .int (1 : Int32)]) (rest := []) ⟨hx, hb, hml, hown, hu⟩ (met_X7_adjust_0_5 l dC dI a kA t _ M25 L12 r84 (M25 0 35) (1 : Int32) _ h) (cwl_X7_256_X7 hu ⟨by decide, by decide⟩) (rppre (ci := 6) hK hE hsz hI rfl rfl) rfl rfl hl.1 rfl (lv_room (Nat.le_of_ble_eq_true rfl)) dX7_four__371 ⟨by decide, by decide⟩) (fun M85 L86 H locs h hI => ?_)
                                refine lv_goto (tgt := 431) hx hb dX7_four__374 (by decide) ?_
                                refine W.widen (k := 1) (n := 11) (by decide) (by decide) ?_
                                exact J431 M85 L86 _ _ _ h hI (lv_sub hl [0, 1] rfl)
                            refine lv_icmp_eq (tgt := 349) hx hb dX7_four__337 (by decide) (fun c87 => ?_) (fun c87 => ?_)
                            · have h := h.1 c87
                              exact J349  _ _ _ h hI (lv_sub hl [0, 1, 2, 3] rfl)
                            · have h := h.2 c87
                              refine lv_aload_n hx hb dX7_four__340 rfl (lv_at hl 0 rfl) ?_
                              refine va_get (D := (dC, dI)) (ci := 6) (v := .int (M25 0 35)) (C := RX7) (T := TX7) (N := 44) hx hb hu uX7 hown hK hI.1 0 rfl rfl 35 (by decide) (hu _ uww_671) (fun _ h9 => h9) rfl dX7_four__341 ?_
                              refine lv_bipush (v := (6 : Int32)) hx hb dX7_four__344 (by decide) ?_
                              refine lv_icmp_ne (tgt := 431) hx hb dX7_four__346 (by decide) (fun c88 => ?_) (fun c88 => ?_)
                              · have h := h.1 c88
                                refine W.widen (k := 1) (n := 11) (by decide) (by decide) ?_
                                exact J431 M25 L12 _ _ _ h hI (lv_sub hl [0, 1] rfl)
                              · have h := h.2 c88
                                exact J349  _ _ _ h hI (lv_sub hl [0, 1, 2, 3] rfl)
                        · have h := h.2 c74
                          refine lv_aload_n hx hb dX7_four__301 rfl (lv_at hl 0 rfl) ?_
                          refine lv_iload hx hb dX7_four__302 (lv_at hl 2 rfl) ?_
                          refine rpcalli hsz hI (va_runV (As := [.int x21]) (rest := []) ⟨hx, hb, hml, hown, hu⟩ (met_X7_toSix_0 l dC dI a kA t _ M25 L12 x21 _ h) (cwl_X7_250_X7 hu ⟨by decide, by decide⟩) (rppre (ci := 6) hK hE hsz hI rfl rfl) rfl rfl hl.1 rfl (lv_room (Nat.le_of_ble_eq_true rfl)) dX7_four__304 ⟨by decide, by decide⟩) (fun r89 M90 L91 H locs h hI => ?_)
                          refine W.widen (k := 1) (n := 11) (by decide) (by decide) ?_
                          refine lv_istore (lv' := [(7, .int r89), (0, .ref (a 0)), (3, .int r17), (4, .int x21), (6, .int v24)]) hx hb dX7_four__307 hl (by decide) rfl (fun ls hl => ?_)
                          refine lv_iload hx hb dX7_four__309 (lv_at hl 0 rfl) ?_
                          refine lv_if_le (tgt := 321) hx hb dX7_four__311 (by decide) (fun c92 => ?_) (fun c92 => ?_)
                          · have h := h.1 c92
                            refine lv_goto (tgt := 431) hx hb dX7_four__321 (by decide) ?_
                            exact J431 M90 L91 _ _ _ h hI (lv_sub hl [1, 2] rfl)
                          · have h := h.2 c92
                            refine lv_aload_n hx hb dX7_four__314 rfl (lv_at hl 1 rfl) ?_
                            refine lv_iload hx hb dX7_four__315 (lv_at hl 0 rfl) ?_
                            refine rpcalli_m hsz hI (va_runV (As := [.int r89]) (rest := []) ⟨hx, hb, hml, hown, hu⟩ (met_X7_tell_0 l dC dI a kA t _ M90 L91 r89 _ h) (cwl_X7_213_X7 hu ⟨by decide, by decide⟩) (rppre (ci := 6) hK hE hsz hI rfl rfl) rfl rfl hl.1 rfl (lv_room (Nat.le_of_ble_eq_true rfl)) dX7_four__317 ⟨by decide, by decide⟩) (fun r93 M94 H locs h hI => ?_)
                            exact rpiret (Z := (fun r M' L' => Z r M' L')) hx hb hr hlocks hK hI dX7_four__320 h
                      refine lv_if_eq (tgt := 279) hx hb dX7_four__255 (by decide) (fun c95 => ?_) (fun c95 => ?_)
                      · have h := h.1 c95
                        exact J279  _ _ _ h hI (lv_sub hl [1, 2, 3, 0] rfl)
                      · have h := h.2 c95
                        refine lv_aload_n hx hb dX7_four__258 rfl (lv_at hl 1 rfl) ?_
                        refine va_get (D := (dC, dI)) (ci := 6) (v := .int (M11 0 34)) (C := RX7) (T := TX7) (N := 44) hx hb hu uX7 hown hK hI.1 0 rfl rfl 34 (by decide) (hu _ uww_670) (fun _ h9 => h9) rfl dX7_four__259 ?_
                        obtain ⟨K272, hK272, h⟩ := h
                        have J272 : ∀  (H : Heap) (locs : List Loc) (ls : Array Slot), K272  → rpI dC dI a kA (rpA a sz) s M11 L12 H locs → lv_has ls 16 [(0, .ref (a 0))] → W p l e rm_X7_four__0 s m (av_X7_four__0 a t ).toArray below meth c H locs 0 0 (MQ below (qc_X7_four__0 dC dI a kA sz M L Z) (av_X7_four__0 a t ).toArray s 1 11 (rpA a sz)) (F0 m 272 ls []) := by
                          intro  H locs ls h hI hl
                          have h := hK272  h
                          refine lv_aload_n hx hb dX7_four__272 rfl (lv_at hl 0 rfl) ?_
                          refine lv_bipush (v := (7 : Int32)) hx hb dX7_four__273 (by decide) ?_
                          refine rpcalli_m hsz hI (va_runV (As := [.int (7 : Int32)]) (rest := []) ⟨hx, hb, hml, hown, hu⟩ (met_X7_tell_0 l dC dI a kA t _ M11 L12 (7 : Int32) _ h) (cwl_X7_213_X7 hu ⟨by decide, by decide⟩) (rppre (ci := 6) hK hE hsz hI rfl rfl) rfl rfl hl.1 rfl (lv_room (Nat.le_of_ble_eq_true rfl)) dX7_four__275 ⟨by decide, by decide⟩) (fun r96 M97 H locs h hI => ?_)
                          refine W.widen (k := 1) (n := 11) (by decide) (by decide) ?_
                          exact rpiret (Z := (fun r M' L' => Z r M' L')) hx hb hr hlocks hK hI dX7_four__278 h
                        refine lv_if_ne (tgt := 272) hx hb dX7_four__262 (by decide) (fun c98 => ?_) (fun c98 => ?_)
                        · have h := h.1 c98
                          exact J272  _ _ _ h hI (lv_sub hl [1] rfl)
                        · have h := h.2 c98
                          refine lv_aload_n hx hb dX7_four__265 rfl (lv_at hl 1 rfl) ?_
                          refine va_get (D := (dC, dI)) (ci := 6) (v := .int (M11 0 12)) (C := RX7) (T := TX7) (N := 44) hx hb hu uX7 hown hK hI.1 0 rfl rfl 12 (by decide) (hu _ uww_550) (fun _ h9 => h9) rfl dX7_four__266 ?_
                          refine lv_if_ne (tgt := 279) hx hb dX7_four__269 (by decide) (fun c99 => ?_) (fun c99 => ?_)
                          · have h := h.1 c99
                            exact J279  _ _ _ h hI (lv_sub hl [1, 2, 3, 0] rfl)
                          · have h := h.2 c99
                            exact J272  _ _ _ h hI (lv_sub hl [1] rfl)
                    obtain ⟨K250, hK250, h⟩ := h
                    have J250 : ∀  (H : Heap) (locs : List Loc) (ls : Array Slot), K250  → rpI dC dI a kA (rpA a sz) s M11 L12 H locs → lv_has ls 16 [(0, .ref (a 0)), (3, .int r17), (4, .int x21)] → W p l e rm_X7_four__0 s m (av_X7_four__0 a t ).toArray below meth c H locs 0 0 (MQ below (qc_X7_four__0 dC dI a kA sz M L Z) (av_X7_four__0 a t ).toArray s 1 11 (rpA a sz)) (F0 m 250 ls []) := by
                      intro  H locs ls h hI hl
                      have h := hK250  h
                      refine lv_iconst (v := (0 : Int32)) hx hb dX7_four__250 (by decide) ?_
                      exact J251 (0 : Int32) _ _ _ h hI (lv_sub hl [0, 1, 2] rfl)
                    refine lv_icmp_ne (tgt := 250) hx hb dX7_four__219 (by decide) (fun c100 => ?_) (fun c100 => ?_)
                    · have h := h.1 c100
                      exact J250  _ _ _ h hI (lv_sub hl [1, 2, 3] rfl)
                    · have h := h.2 c100
                      refine lv_aload_n hx hb dX7_four__222 rfl (lv_at hl 1 rfl) ?_
                      refine va_get (D := (dC, dI)) (ci := 6) (v := .int (M11 0 33)) (C := RX7) (T := TX7) (N := 44) hx hb hu uX7 hown hK hI.1 0 rfl rfl 33 (by decide) (hu _ uww_669) (fun _ h9 => h9) rfl dX7_four__223 ?_
                      refine lv_if_ne (tgt := 250) hx hb dX7_four__226 (by decide) (fun c101 => ?_) (fun c101 => ?_)
                      · have h := h.1 c101
                        exact J250  _ _ _ h hI (lv_sub hl [1, 2, 3] rfl)
                      · have h := h.2 c101
                        refine lv_aload_n hx hb dX7_four__229 rfl (lv_at hl 1 rfl) ?_
                        refine va_get (D := (dC, dI)) (ci := 6) (v := .ref (a 1)) (C := RX7) (T := TX7) (N := 44) hx hb hu uX7 hown hK hI.1 0 rfl rfl 1 (by decide) (hu _ uww_538) (fun _ h9 => h9) rfl dX7_four__230 ?_
                        refine lv_aload_n hx hb dX7_four__233 rfl (lv_at hl 1 rfl) ?_
                        refine va_get (D := (dC, dI)) (ci := 6) (v := .int (M11 0 31)) (C := RX7) (T := TX7) (N := 44) hx hb hu uX7 hown hK hI.1 0 rfl rfl 31 (by decide) (hu _ uww_667) (fun _ h9 => h9) rfl dX7_four__234 ?_
                        refine lv_bipush (v := (6 : Int32)) hx hb dX7_four__237 (by decide) ?_
                        refine lv_iadd hx hb dX7_four__239 ?_
                        refine rpcalli_p hsz hI (va_runS (As := [.ref (a 1), .int ((M11 0 31) + (6 : Int32))]) (rest := []) ⟨hx, hb, hml, hown, hu⟩ (met_X7_twoAt_1 l dC dI a kA t _ M11 L12 ((M11 0 31) + (6 : Int32)) _ h) (cwl_X7_115_S hu ⟨by decide, by decide⟩) (rppreS hK hE hsz hI) rfl rfl hl.1 rfl (lv_room (Nat.le_of_ble_eq_true rfl)) dX7_four__240 ⟨by decide, by decide⟩) (fun r102 H locs h hI => ?_)
                        refine lv_if_ne (tgt := 250) hx hb dX7_four__243 (by decide) (fun c103 => ?_) (fun c103 => ?_)
                        · have h := h.1 c103
                          exact J250  _ _ _ h hI (lv_sub hl [1, 2, 3] rfl)
                        · have h := h.2 c103
                          refine lv_iconst (v := (1 : Int32)) hx hb dX7_four__246 (by decide) ?_
                          refine lv_goto (tgt := 251) hx hb dX7_four__247 (by decide) ?_
                          exact J251 (1 : Int32) _ _ _ h hI (lv_sub hl [1, 2, 3] rfl)
                  · have h := h.2 c23
                    refine lv_aload_n hx hb dX7_four__206 rfl (lv_at hl 1 rfl) ?_
                    refine lv_iload hx hb dX7_four__207 (lv_at hl 0 rfl) ?_
                    refine rpcalli_m hsz hI (va_runV (As := [.int v22]) (rest := []) ⟨hx, hb, hml, hown, hu⟩ (met_X7_tell_0 l dC dI a kA t _ M11 L12 v22 _ h) (cwl_X7_213_X7 hu ⟨by decide, by decide⟩) (rppre (ci := 6) hK hE hsz hI rfl rfl) rfl rfl hl.1 rfl (lv_room (Nat.le_of_ble_eq_true rfl)) dX7_four__209 ⟨by decide, by decide⟩) (fun r104 M105 H locs h hI => ?_)
                    refine W.widen (k := 1) (n := 11) (by decide) (by decide) ?_
                    exact rpiret (Z := (fun r M' L' => Z r M' L')) hx hb hr hlocks hK hI dX7_four__212 h
                refine lv_if_ne (tgt := 198) hx hb dX7_four__177 (by decide) (fun c106 => ?_) (fun c106 => ?_)
                · have h := h.1 c106
                  refine lv_iconst (v := (0 : Int32)) hx hb dX7_four__198 (by decide) ?_
                  exact J199 (0 : Int32) _ _ _ h hI (lv_sub hl [1, 2, 0] rfl)
                · have h := h.2 c106
                  refine lv_aload_n hx hb dX7_four__180 rfl (lv_at hl 1 rfl) ?_
                  refine lv_aload_n hx hb dX7_four__181 rfl (lv_at hl 1 rfl) ?_
                  refine va_get (D := (dC, dI)) (ci := 6) (v := .int (M11 0 31)) (C := RX7) (T := TX7) (N := 44) hx hb hu uX7 hown hK hI.1 0 rfl rfl 31 (by decide) (hu _ uww_667) (fun _ h9 => h9) rfl dX7_four__182 ?_
                  refine lv_iload hx hb dX7_four__185 (lv_at hl 0 rfl) ?_
                  refine lv_aload_n hx hb dX7_four__187 rfl (lv_at hl 1 rfl) ?_
                  refine va_get (D := (dC, dI)) (ci := 6) (v := .int (M11 0 34)) (C := RX7) (T := TX7) (N := 44) hx hb hu uX7 hown hK hI.1 0 rfl rfl 34 (by decide) (hu _ uww_670) (fun _ h9 => h9) rfl dX7_four__188 ?_
                  refine lv_iconst (v := (1 : Int32)) hx hb dX7_four__191 (by decide) ?_
                  refine rpcalli_p hsz hI (va_runV (As := [.int (M11 0 31), .int x21, .int (M11 0 34), .int (1 : Int32)]) (rest := []) ⟨hx, hb, hml, hown, hu⟩ (met_X7_carried_0 l dC dI a kA t _ M11 L12 (M11 0 31) x21 (M11 0 34) (1 : Int32) _ h) (cwl_X7_243_X7 hu ⟨by decide, by decide⟩) (rppre (ci := 6) hK hE hsz hI rfl rfl) rfl rfl hl.1 rfl (lv_room (Nat.le_of_ble_eq_true rfl)) dX7_four__192 ⟨by decide, by decide⟩) (fun r107 H locs h hI => ?_)
                  refine lv_goto (tgt := 199) hx hb dX7_four__195 (by decide) ?_
                  exact J199 r107 _ _ _ h hI (lv_sub hl [1, 2, 0] rfl)
              refine lv_icmp_ne (tgt := 162) hx hb dX7_four__139 (by decide) (fun c108 => ?_) (fun c108 => ?_)
              · have h := h.1 c108
                exact J162  _ _ _ h hI (lv_sub hl [3, 0] rfl)
              · have h := h.2 c108
                refine lv_aload_n hx hb dX7_four__142 rfl (lv_at hl 3 rfl) ?_
                refine va_get (D := (dC, dI)) (ci := 6) (v := .int (M11 0 34)) (C := RX7) (T := TX7) (N := 44) hx hb hu uX7 hown hK hI.1 0 rfl rfl 34 (by decide) (hu _ uww_670) (fun _ h9 => h9) rfl dX7_four__143 ?_
                obtain ⟨K156, hK156, h⟩ := h
                have J156 : ∀  (H : Heap) (locs : List Loc) (ls : Array Slot), K156  → rpI dC dI a kA (rpA a sz) s M11 L12 H locs → lv_has ls 16 [(0, .ref (a 0))] → W p l e rm_X7_four__0 s m (av_X7_four__0 a t ).toArray below meth c H locs 0 0 (MQ below (qc_X7_four__0 dC dI a kA sz M L Z) (av_X7_four__0 a t ).toArray s 1 11 (rpA a sz)) (F0 m 156 ls []) := by
                  intro  H locs ls h hI hl
                  have h := hK156  h
                  refine lv_aload_n hx hb dX7_four__156 rfl (lv_at hl 0 rfl) ?_
                  refine lv_iconst (v := (5 : Int32)) hx hb dX7_four__157 (by decide) ?_
                  refine rpcalli_m hsz hI (va_runV (As := [.int (5 : Int32)]) (rest := []) ⟨hx, hb, hml, hown, hu⟩ (met_X7_tell_0 l dC dI a kA t _ M11 L12 (5 : Int32) _ h) (cwl_X7_213_X7 hu ⟨by decide, by decide⟩) (rppre (ci := 6) hK hE hsz hI rfl rfl) rfl rfl hl.1 rfl (lv_room (Nat.le_of_ble_eq_true rfl)) dX7_four__158 ⟨by decide, by decide⟩) (fun r109 M110 H locs h hI => ?_)
                  refine W.widen (k := 1) (n := 11) (by decide) (by decide) ?_
                  exact rpiret (Z := (fun r M' L' => Z r M' L')) hx hb hr hlocks hK hI dX7_four__161 h
                refine lv_if_ne (tgt := 156) hx hb dX7_four__146 (by decide) (fun c111 => ?_) (fun c111 => ?_)
                · have h := h.1 c111
                  exact J156  _ _ _ h hI (lv_sub hl [3] rfl)
                · have h := h.2 c111
                  refine lv_aload_n hx hb dX7_four__149 rfl (lv_at hl 3 rfl) ?_
                  refine va_get (D := (dC, dI)) (ci := 6) (v := .int (M11 0 33)) (C := RX7) (T := TX7) (N := 44) hx hb hu uX7 hown hK hI.1 0 rfl rfl 33 (by decide) (hu _ uww_669) (fun _ h9 => h9) rfl dX7_four__150 ?_
                  refine lv_if_le (tgt := 162) hx hb dX7_four__153 (by decide) (fun c112 => ?_) (fun c112 => ?_)
                  · have h := h.1 c112
                    exact J162  _ _ _ h hI (lv_sub hl [3, 0] rfl)
                  · have h := h.2 c112
                    exact J156  _ _ _ h hI (lv_sub hl [3] rfl)
            · have h := h.2 c20
              refine lv_aload_n hx hb dX7_four__127 rfl (lv_at hl 3 rfl) ?_
              refine lv_bipush (v := (6 : Int32)) hx hb dX7_four__128 (by decide) ?_
              refine rpcalli_m hsz hI (va_runV (As := [.int (6 : Int32)]) (rest := []) ⟨hx, hb, hml, hown, hu⟩ (met_X7_tell_0 l dC dI a kA t _ M11 L12 (6 : Int32) _ h) (cwl_X7_213_X7 hu ⟨by decide, by decide⟩) (rppre (ci := 6) hK hE hsz hI rfl rfl) rfl rfl hl.1 rfl (lv_room (Nat.le_of_ble_eq_true rfl)) dX7_four__130 ⟨by decide, by decide⟩) (fun r113 M114 H locs h hI => ?_)
              refine W.widen (k := 1) (n := 11) (by decide) (by decide) ?_
              exact rpiret (Z := (fun r M' L' => Z r M' L')) hx hb hr hlocks hK hI dX7_four__133 h
          · have h := h.2 c18
            refine lv_aload_n hx hb dX7_four__108 rfl (lv_at hl 3 rfl) ?_
            refine lv_bipush (v := (11 : Int32)) hx hb dX7_four__109 (by decide) ?_
            refine lv_iconst (v := (0 : Int32)) hx hb dX7_four__111 (by decide) ?_
            refine lv_iconst (v := (0 : Int32)) hx hb dX7_four__112 (by decide) ?_
            refine rpcalli hsz hI (va_runV (As := [.int (11 : Int32), .int (0 : Int32), .int (0 : Int32)]) (rest := []) ⟨hx, hb, hml, hown, hu⟩ (met_X7_answer4_0 l dC dI a kA t _ M11 L12 (11 : Int32) (0 : Int32) (0 : Int32) _ h) (cwl_X7_236_X7 hu ⟨by decide, by decide⟩) (rppre (ci := 6) hK hE hsz hI rfl rfl) rfl rfl hl.1 rfl (lv_room (Nat.le_of_ble_eq_true rfl)) dX7_four__113 ⟨by decide, by decide⟩) (fun r115 M116 L117 H locs h hI => ?_)
            refine W.widen (k := 1) (n := 11) (by decide) (by decide) ?_
            exact rpiret (Z := (fun r M' L' => Z r M' L')) hx hb hr hlocks hK hI dX7_four__116 h
        · have h := h.2 c16
          refine lv_aload_n hx hb dX7_four__85 rfl (lv_at hl 2 rfl) ?_
          refine lv_iconst (v := (3 : Int32)) hx hb dX7_four__86 (by decide) ?_
          refine lv_iconst (v := (5 : Int32)) hx hb dX7_four__87 (by decide) ?_
          refine lv_iconst (v := (0 : Int32)) hx hb dX7_four__88 (by decide) ?_
          refine rpcalli hsz hI (va_runV (As := [.int (3 : Int32), .int (5 : Int32), .int (0 : Int32)]) (rest := []) ⟨hx, hb, hml, hown, hu⟩ (met_X7_answer4_0 l dC dI a kA t _ M11 L12 (3 : Int32) (5 : Int32) (0 : Int32) _ h) (cwl_X7_236_X7 hu ⟨by decide, by decide⟩) (rppre (ci := 6) hK hE hsz hI rfl rfl) rfl rfl hl.1 rfl (lv_room (Nat.le_of_ble_eq_true rfl)) dX7_four__89 ⟨by decide, by decide⟩) (fun r118 M119 L120 H locs h hI => ?_)
          refine W.widen (k := 1) (n := 11) (by decide) (by decide) ?_
          exact rpiret (Z := (fun r M' L' => Z r M' L')) hx hb hr hlocks hK hI dX7_four__92 h
      · have h := h.2 c15
        refine lv_aload_n hx hb dX7_four__72 rfl (lv_at hl 2 rfl) ?_
        refine lv_iconst (v := (3 : Int32)) hx hb dX7_four__73 (by decide) ?_
        refine rpcalli_m hsz hI (va_runV (As := [.int (3 : Int32)]) (rest := []) ⟨hx, hb, hml, hown, hu⟩ (met_X7_tell_0 l dC dI a kA t _ M11 L12 (3 : Int32) _ h) (cwl_X7_213_X7 hu ⟨by decide, by decide⟩) (rppre (ci := 6) hK hE hsz hI rfl rfl) rfl rfl hl.1 rfl (lv_room (Nat.le_of_ble_eq_true rfl)) dX7_four__74 ⟨by decide, by decide⟩) (fun r121 M122 H locs h hI => ?_)
        refine W.widen (k := 1) (n := 11) (by decide) (by decide) ?_
        exact rpiret (Z := (fun r M' L' => Z r M' L')) hx hb hr hlocks hK hI dX7_four__77 h
    · have h := h.2 c14
      refine lv_aload_n hx hb dX7_four__62 rfl (lv_at hl 2 rfl) ?_
      refine lv_iconst (v := (2 : Int32)) hx hb dX7_four__63 (by decide) ?_
      refine rpcalli_m hsz hI (va_runV (As := [.int (2 : Int32)]) (rest := []) ⟨hx, hb, hml, hown, hu⟩ (met_X7_tell_0 l dC dI a kA t _ M11 L12 (2 : Int32) _ h) (cwl_X7_213_X7 hu ⟨by decide, by decide⟩) (rppre (ci := 6) hK hE hsz hI rfl rfl) rfl rfl hl.1 rfl (lv_room (Nat.le_of_ble_eq_true rfl)) dX7_four__64 ⟨by decide, by decide⟩) (fun r123 M124 H locs h hI => ?_)
      refine W.widen (k := 1) (n := 11) (by decide) (by decide) ?_
      exact rpiret (Z := (fun r M' L' => Z r M' L')) hx hb hr hlocks hK hI dX7_four__67 h
  · have h := h.2 c7
    refine lv_aload_n hx hb dX7_four__22 rfl (lv_at hl 1 rfl) ?_
    refine lv_iconst (v := (1 : Int32)) hx hb dX7_four__23 (by decide) ?_
    refine rpcalli_m hsz hI (va_runV (As := [.int (1 : Int32)]) (rest := []) ⟨hx, hb, hml, hown, hu⟩ (met_X7_tell_0 l dC dI a kA t _ M5 L6 (1 : Int32) _ h) (cwl_X7_213_X7 hu ⟨by decide, by decide⟩) (rppre (ci := 6) hK hE hsz hI rfl rfl) rfl rfl hl.1 rfl (lv_room (Nat.le_of_ble_eq_true rfl)) dX7_four__24 ⟨by decide, by decide⟩) (fun r125 M126 H locs h hI => ?_)
    refine W.widen (k := 1) (n := 11) (by decide) (by decide) ?_
    exact rpiret (Z := (fun r M' L' => Z r M' L')) hx hb hr hlocks hK hI dX7_four__27 h

abbrev rm_X7_headers_0 : Room := { frames := 2, cells := 0, slots := 0, locals := 42 }
abbrev av_X7_headers_0 (a t : Nat → Nat) (p1 : Int32) (p2 : Int32) : List Value := [.ref (a 0), .int p1, .int p2]
abbrev qc_X7_headers_0 (dC : Nat → ClassId) (dI : Nat → Nat → Nat) (a : Nat → Nat) (kA : Nat → ClassId) (sz : Nat) (M : cM) (L : cL) (Z : Int32 → cM → Prop) : Array Value → State → Outcome → State → Prop := va_Qi (fun r (u : cM × cL) => u.2 = L ∧ Z r u.1) (rpAt dC dI a kA (rpA a sz)) (rpA a sz)
set_option maxHeartbeats 4000000 in
set_option maxRecDepth 100000 in
theorem met_X7_headers_0 (l : Launch) (dC : Nat → ClassId) (dI : Nat → Nat → Nat) (a : Nat → Nat) (kA : Nat → ClassId) (t : Nat → Nat) (sz : Nat) (M : cM) (L : cL) (p1 : Int32) (p2 : Int32) (Z : Int32 → cM → Prop) (h : wp_X7_headers_0 M L p1 p2 Z) : Met l yX7_headers (Cond.code yX7_headers cX7_headers 6 (some .boolean) :: uW) rm_X7_headers_0 (va_Pc (av_X7_headers_0 a t p1 p2) (rpPre dC dI a kA t M L sz)) (qc_X7_headers_0 dC dI a kA sz M L Z) 0 0 (rpA a sz) := by
  refine rpenter (cc := cX7_headers) (n := 6) (ret := (some .boolean)) (by decide) rfl (Nat.le_of_ble_eq_true rfl) ?_
  intro p e s m below meth c ls hx hb hml hr hlocks hown hts hK hE hsz hI hl hmn
  have hu : ∀ w ∈ uW, w.before (av_X7_headers_0 a t p1 p2).toArray s = true := fun w h => hts w (List.mem_cons_of_mem _ h)
  have hown : s.vm.findClass RX7 = some m.cls := hown
  have hl : lv_has ls 6 [(0, .ref (a 0)), (1, .int p1), (2, .int p2)] := hl
  unfold wp_X7_headers_0 at h
  refine lv_aload_n hx hb dX7_headers_0 rfl (lv_at hl 0 rfl) ?_
  refine va_get (D := (dC, dI)) (ci := 6) (v := .ref (a 1)) (C := RX7) (T := TX7) (N := 44) hx hb hu uX7 hown hK hI.1 0 rfl rfl 1 (by decide) (hu _ uww_538) (fun _ h9 => h9) rfl dX7_headers_1 ?_
  refine lv_iload_n hx hb dX7_headers_4 rfl (lv_at hl 1 rfl) ?_
  refine lv_bipush (v := (6 : Int32)) hx hb dX7_headers_5 (by decide) ?_
  refine lv_iadd hx hb dX7_headers_7 ?_
  refine rpcalli_p hsz hI (va_runS (As := [.ref (a 1), .int (p1 + (6 : Int32))]) (rest := []) ⟨hx, hb, hml, hown, hu⟩ (met_X7_octetAt_1 l dC dI a kA t _ M L (p1 + (6 : Int32)) _ h) (cwl_X7_111_S hu ⟨by decide, by decide⟩) (rppreS hK hE hsz hI) rfl rfl hl.1 rfl (lv_room (Nat.le_of_ble_eq_true rfl)) dX7_headers_8 ⟨by decide, by decide⟩) (fun r1 H locs h hI => ?_)
  refine lv_istore_n (lv' := [(3, .int r1), (0, .ref (a 0)), (1, .int p1), (2, .int p2)]) hx hb dX7_headers_11 rfl hl (by decide) rfl (fun ls hl => ?_)
  refine lv_iload_n hx hb dX7_headers_12 rfl (lv_at hl 2 rfl) ?_
  refine lv_bipush (v := (40 : Int32)) hx hb dX7_headers_13 (by decide) ?_
  refine lv_iadd hx hb dX7_headers_15 ?_
  refine lv_topi (fun x2 ex2 => ?_)
  have h := h x2 ex2
  refine lv_istore (lv' := [(4, .int x2), (3, .int r1), (0, .ref (a 0)), (1, .int p1), (2, .int p2)]) hx hb dX7_headers_16 hl (by decide) rfl (fun ls hl => ?_)
  refine lv_aload_n hx hb dX7_headers_18 rfl (lv_at hl 2 rfl) ?_
  refine lv_iconst (v := (-1 : Int32)) hx hb dX7_headers_19 (by decide) ?_
  refine rpput (ci := 6) (C := RX7) (T := TX7) (N := 44) (ty := .int) hx hb hu uX7 tyX7 tyX7_ok nmX7 hown hK hI 0 rfl rfl 41 (by decide) (hu _ uww_764) (fun _ h9 => h9) rfl (by decide +kernel) rfl rfl (Nat.le_of_ble_eq_true rfl) (rpset_0_41 _ _ _ _ _) dX7_headers_20 (fun H locs M3 eM3 hI => ?_)
  have h := h M3 eM3
  refine lv_aload_n hx hb dX7_headers_23 rfl (lv_at hl 2 rfl) ?_
  refine lv_iconst (v := (-1 : Int32)) hx hb dX7_headers_24 (by decide) ?_
  refine rpput (ci := 6) (C := RX7) (T := TX7) (N := 44) (ty := .int) hx hb hu uX7 tyX7 tyX7_ok nmX7 hown hK hI 0 rfl rfl 42 (by decide) (hu _ uww_765) (fun _ h9 => h9) rfl (by decide +kernel) rfl rfl (Nat.le_of_ble_eq_true rfl) (rpset_0_42 _ _ _ _ _) dX7_headers_25 (fun H locs M4 eM4 hI => ?_)
  have h := h M4 eM4
  refine lv_aload_n hx hb dX7_headers_28 rfl (lv_at hl 2 rfl) ?_
  refine lv_iconst (v := (0 : Int32)) hx hb dX7_headers_29 (by decide) ?_
  refine rpput (ci := 6) (C := RX7) (T := TX7) (N := 44) (ty := .int) hx hb hu uX7 tyX7 tyX7_ok nmX7 hown hK hI 0 rfl rfl 33 (by decide) (hu _ uww_669) (fun _ h9 => h9) rfl (by decide +kernel) rfl rfl (Nat.le_of_ble_eq_true rfl) (rpset_0_33 _ _ _ _ _) dX7_headers_30 (fun H locs M5 eM5 hI => ?_)
  have h := h M5 eM5
  refine lv_aload_n hx hb dX7_headers_33 rfl (lv_at hl 2 rfl) ?_
  refine lv_iconst (v := (0 : Int32)) hx hb dX7_headers_34 (by decide) ?_
  refine rpput (ci := 6) (C := RX7) (T := TX7) (N := 44) (ty := .boolean) hx hb hu uX7 tyX7 tyX7_ok nmX7 hown hK hI 0 rfl rfl 34 (by decide) (hu _ uww_670) (fun _ h9 => h9) rfl (by decide +kernel) isB_0.1 isB_0.2 (Nat.le_of_ble_eq_true rfl) (rpset_0_34 _ _ _ _ _) dX7_headers_35 (fun H locs M6 eM6 hI => ?_)
  have h := h M6 eM6
  obtain ⟨I38, m38, h, hs38⟩ := h
  have P38 : ∀ (n38 : Nat) (x7 : Int32) (x8 : Int32) (M9 : cM) (H : Heap) (locs : List Loc) (ls : Array Slot), I38 x7 x8 M9 → m38 x7 x8 M9 < n38 → rpI dC dI a kA (rpA a sz) s M9 L H locs → lv_has ls 6 [(0, .ref (a 0)), (2, .int p2), (3, .int x7), (4, .int x8)] → W p l e rm_X7_headers_0 s m (av_X7_headers_0 a t p1 p2).toArray below meth c H locs 0 0 (MQ below (qc_X7_headers_0 dC dI a kA sz M L Z) (av_X7_headers_0 a t p1 p2).toArray s 0 0 (rpA a sz)) (F0 m 38 ls []) := by
    intro n38
    induction n38 with
    | zero => intro x7 x8 M9 H locs ls _ hn; exact absurd hn (Nat.not_lt_zero _)
    | succ n38 ih38 =>
      intro x7 x8 M9 H locs ls h hn38 hI hl
      have h := hs38 x7 x8 M9 h
      refine lv_aload_n hx hb dX7_headers_38 rfl (lv_at hl 0 rfl) ?_
      refine va_get (D := (dC, dI)) (ci := 6) (v := .int (M9 0 33)) (C := RX7) (T := TX7) (N := 44) hx hb hu uX7 hown hK hI.1 0 rfl rfl 33 (by decide) (hu _ uww_669) (fun _ h9 => h9) rfl dX7_headers_39 ?_
      obtain ⟨K239, hK239, h⟩ := h
      have J239 : ∀  (H : Heap) (locs : List Loc) (ls : Array Slot), K239  → rpI dC dI a kA (rpA a sz) s M9 L H locs → lv_has ls 6 [(0, .ref (a 0)), (3, .int x7), (4, .int x8)] → W p l e rm_X7_headers_0 s m (av_X7_headers_0 a t p1 p2).toArray below meth c H locs 0 0 (MQ below (qc_X7_headers_0 dC dI a kA sz M L Z) (av_X7_headers_0 a t p1 p2).toArray s 0 0 (rpA a sz)) (F0 m 239 ls []) := by
        intro  H locs ls h hI hl
        have h := hK239  h
        refine lv_aload_n hx hb dX7_headers_239 rfl (lv_at hl 0 rfl) ?_
        refine lv_iload_n hx hb dX7_headers_240 rfl (lv_at hl 1 rfl) ?_
        refine rpput (ci := 6) (C := RX7) (T := TX7) (N := 44) (ty := .int) hx hb hu uX7 tyX7 tyX7_ok nmX7 hown hK hI 0 rfl rfl 35 (by decide) (hu _ uww_671) (fun _ h9 => h9) rfl (by decide +kernel) rfl rfl (Nat.le_of_ble_eq_true rfl) (rpset_0_35 _ _ _ _ _) dX7_headers_241 (fun H locs M10 eM10 hI => ?_)
        have h := h M10 eM10
        refine lv_aload_n hx hb dX7_headers_244 rfl (lv_at hl 0 rfl) ?_
        refine lv_iload hx hb dX7_headers_245 (lv_at hl 2 rfl) ?_
        refine rpput (ci := 6) (C := RX7) (T := TX7) (N := 44) (ty := .int) hx hb hu uX7 tyX7 tyX7_ok nmX7 hown hK hI 0 rfl rfl 40 (by decide) (hu _ uww_767) (fun _ h9 => h9) rfl (by decide +kernel) rfl rfl (Nat.le_of_ble_eq_true rfl) (rpset_0_40 _ _ _ _ _) dX7_headers_247 (fun H locs M11 eM11 hI => ?_)
        have h := h M11 eM11
        refine lv_iconst (v := (1 : Int32)) hx hb dX7_headers_250 (by decide) ?_
        exact rpzret (Z := (fun r M' L' => L' = L ∧ Z r M')) hx hb hr hlocks hK hI dX7_headers_251 ⟨isB_1, ⟨rfl, h⟩⟩
      refine lv_if_ne (tgt := 239) hx hb dX7_headers_42 (by decide) (fun c12 => ?_) (fun c12 => ?_)
      · have h := h.1 c12
        exact J239  _ _ _ h hI (lv_sub hl [0, 2, 3] rfl)
      · have h := h.2 c12
        refine lv_iload_n hx hb dX7_headers_45 rfl (lv_at hl 2 rfl) ?_
        obtain ⟨K67, hK67, h⟩ := h
        have J67 : ∀  (H : Heap) (locs : List Loc) (ls : Array Slot), K67  → rpI dC dI a kA (rpA a sz) s M9 L H locs → lv_has ls 6 [(0, .ref (a 0)), (2, .int p2), (3, .int x7), (4, .int x8)] → W p l e rm_X7_headers_0 s m (av_X7_headers_0 a t p1 p2).toArray below meth c H locs 0 0 (MQ below (qc_X7_headers_0 dC dI a kA sz M L Z) (av_X7_headers_0 a t p1 p2).toArray s 0 0 (rpA a sz)) (F0 m 67 ls []) := by
          intro  H locs ls h hI hl
          have h := hK67  h
          refine lv_iload hx hb dX7_headers_67 (lv_at hl 3 rfl) ?_
          refine lv_bipush (v := (8 : Int32)) hx hb dX7_headers_69 (by decide) ?_
          refine lv_iadd hx hb dX7_headers_71 ?_
          refine lv_iload_n hx hb dX7_headers_72 rfl (lv_at hl 1 rfl) ?_
          refine lv_icmp_le (tgt := 78) hx hb dX7_headers_73 (by decide) (fun c13 => ?_) (fun c13 => ?_)
          · have h := h.1 c13
            refine lv_iload_n hx hb dX7_headers_78 rfl (lv_at hl 2 rfl) ?_
            refine lv_bipush (v := (44 : Int32)) hx hb dX7_headers_79 (by decide) ?_
            obtain ⟨K106, hK106, h⟩ := h
            have J106 : ∀ (v14 : Int32) (H : Heap) (locs : List Loc) (ls : Array Slot), K106 v14 → rpI dC dI a kA (rpA a sz) s M9 L H locs → lv_has ls 6 [(0, .ref (a 0)), (2, .int p2), (3, .int x7), (4, .int x8)] → W p l e rm_X7_headers_0 s m (av_X7_headers_0 a t p1 p2).toArray below meth c H locs 0 0 (MQ below (qc_X7_headers_0 dC dI a kA sz M L Z) (av_X7_headers_0 a t p1 p2).toArray s 0 0 (rpA a sz)) (F0 m 106 ls [.int v14]) := by
              intro v14 H locs ls h hI hl
              have h := hK106 v14 h
              refine lv_istore (lv' := [(5, .int v14), (0, .ref (a 0)), (2, .int p2), (3, .int x7), (4, .int x8)]) hx hb dX7_headers_106 hl (by decide) rfl (fun ls hl => ?_)
              refine lv_iload hx hb dX7_headers_108 (lv_at hl 4 rfl) ?_
              refine lv_iload hx hb dX7_headers_110 (lv_at hl 0 rfl) ?_
              refine lv_iadd hx hb dX7_headers_112 ?_
              refine lv_iload_n hx hb dX7_headers_113 rfl (lv_at hl 2 rfl) ?_
              refine lv_icmp_gt (tgt := 130) hx hb dX7_headers_114 (by decide) (fun c15 => ?_) (fun c15 => ?_)
              · have h := h.1 c15
                refine lv_iconst (v := (0 : Int32)) hx hb dX7_headers_130 (by decide) ?_
                exact rpzret (Z := (fun r M' L' => L' = L ∧ Z r M')) hx hb hr hlocks hK hI dX7_headers_131 ⟨isB_0, ⟨rfl, h⟩⟩
              · have h := h.2 c15
                refine lv_iload_n hx hb dX7_headers_117 rfl (lv_at hl 3 rfl) ?_
                refine lv_bipush (v := (44 : Int32)) hx hb dX7_headers_118 (by decide) ?_
                obtain ⟨K132, hK132, h⟩ := h
                have J132 : ∀  (H : Heap) (locs : List Loc) (ls : Array Slot), K132  → rpI dC dI a kA (rpA a sz) s M9 L H locs → lv_has ls 6 [(0, .ref (a 0)), (2, .int p2), (3, .int x7), (4, .int x8), (5, .int v14)] → W p l e rm_X7_headers_0 s m (av_X7_headers_0 a t p1 p2).toArray below meth c H locs 0 0 (MQ below (qc_X7_headers_0 dC dI a kA sz M L Z) (av_X7_headers_0 a t p1 p2).toArray s 0 0 (rpA a sz)) (F0 m 132 ls []) := by
                  intro  H locs ls h hI hl
                  have h := hK132  h
                  refine lv_iload_n hx hb dX7_headers_132 rfl (lv_at hl 2 rfl) ?_
                  refine lv_bipush (v := (43 : Int32)) hx hb dX7_headers_133 (by decide) ?_
                  obtain ⟨K165, hK165, h⟩ := h
                  have J165 : ∀ (M16 : cM) (H : Heap) (locs : List Loc) (ls : Array Slot), K165 M16 → rpI dC dI a kA (rpA a sz) s M16 L H locs → lv_has ls 6 [(0, .ref (a 0)), (2, .int p2), (3, .int x7), (4, .int x8), (5, .int v14)] → W p l e rm_X7_headers_0 s m (av_X7_headers_0 a t p1 p2).toArray below meth c H locs 0 0 (MQ below (qc_X7_headers_0 dC dI a kA sz M L Z) (av_X7_headers_0 a t p1 p2).toArray s 0 0 (rpA a sz)) (F0 m 165 ls []) := by
                    intro M16 H locs ls h hI hl
                    have h := hK165 M16 h
                    refine lv_iload_n hx hb dX7_headers_165 rfl (lv_at hl 2 rfl) ?_
                    refine lv_bipush (v := (44 : Int32)) hx hb dX7_headers_166 (by decide) ?_
                    obtain ⟨K219, hK219, h⟩ := h
                    have J219 : ∀ (M17 : cM) (H : Heap) (locs : List Loc) (ls : Array Slot), K219 M17 → rpI dC dI a kA (rpA a sz) s M17 L H locs → lv_has ls 6 [(0, .ref (a 0)), (2, .int p2), (4, .int x8), (5, .int v14)] → W p l e rm_X7_headers_0 s m (av_X7_headers_0 a t p1 p2).toArray below meth c H locs 0 0 (MQ below (qc_X7_headers_0 dC dI a kA sz M L Z) (av_X7_headers_0 a t p1 p2).toArray s 0 0 (rpA a sz)) (F0 m 219 ls []) := by
                      intro M17 H locs ls h hI hl
                      have h := hK219 M17 h
                      refine lv_aload_n hx hb dX7_headers_219 rfl (lv_at hl 0 rfl) ?_
                      refine va_get (D := (dC, dI)) (ci := 6) (v := .ref (a 1)) (C := RX7) (T := TX7) (N := 44) hx hb hu uX7 hown hK hI.1 0 rfl rfl 1 (by decide) (hu _ uww_538) (fun _ h9 => h9) rfl dX7_headers_220 ?_
                      refine lv_iload hx hb dX7_headers_223 (lv_at hl 2 rfl) ?_
                      refine rpcalli_p hsz hI (va_runS (As := [.ref (a 1), .int x8]) (rest := []) ⟨hx, hb, hml, hown, hu⟩ (met_X7_octetAt_1 l dC dI a kA t _ M17 L x8 _ h) (cwl_X7_111_S hu ⟨by decide, by decide⟩) (rppreS hK hE hsz hI) rfl rfl hl.1 rfl (lv_room (Nat.le_of_ble_eq_true rfl)) dX7_headers_225 ⟨by decide, by decide⟩) (fun r18 H locs h hI => ?_)
                      refine lv_istore_n (lv' := [(3, .int r18), (0, .ref (a 0)), (2, .int p2), (4, .int x8), (5, .int v14)]) hx hb dX7_headers_228 rfl hl (by decide) rfl (fun ls hl => ?_)
                      refine lv_iload hx hb dX7_headers_229 (lv_at hl 3 rfl) ?_
                      refine lv_iload hx hb dX7_headers_231 (lv_at hl 4 rfl) ?_
                      refine lv_iadd hx hb dX7_headers_233 ?_
                      refine lv_topi (fun x19 ex19 => ?_)
                      have h := h x19 ex19
                      refine lv_istore (lv' := [(4, .int x19), (3, .int r18), (0, .ref (a 0)), (2, .int p2), (5, .int v14)]) hx hb dX7_headers_234 hl (by decide) rfl (fun ls hl => ?_)
                      refine lv_goto (tgt := 38) hx hb dX7_headers_236 (by decide) ?_
                      exact ih38 r18 x19 M17 _ _ _ h.1 (Nat.lt_of_lt_of_le h.2 (Nat.le_of_lt_succ hn38)) hI (lv_sub hl [2, 3, 1, 0] rfl)
                    refine lv_icmp_ne (tgt := 219) hx hb dX7_headers_168 (by decide) (fun c20 => ?_) (fun c20 => ?_)
                    · have h := h.1 c20
                      exact J219 M16 _ _ _ h hI (lv_sub hl [0, 1, 3, 4] rfl)
                    · have h := h.2 c20
                      refine lv_aload_n hx hb dX7_headers_171 rfl (lv_at hl 0 rfl) ?_
                      refine lv_iload hx hb dX7_headers_172 (lv_at hl 3 rfl) ?_
                      refine rpput (ci := 6) (C := RX7) (T := TX7) (N := 44) (ty := .int) hx hb hu uX7 tyX7 tyX7_ok nmX7 hown hK hI 0 rfl rfl 41 (by decide) (hu _ uww_764) (fun _ h9 => h9) rfl (by decide +kernel) rfl rfl (Nat.le_of_ble_eq_true rfl) (rpset_0_41 _ _ _ _ _) dX7_headers_174 (fun H locs M21 eM21 hI => ?_)
                      have h := h M21 eM21
                      refine lv_aload_n hx hb dX7_headers_177 rfl (lv_at hl 0 rfl) ?_
                      refine lv_aload_n hx hb dX7_headers_178 rfl (lv_at hl 0 rfl) ?_
                      refine va_get (D := (dC, dI)) (ci := 6) (v := .ref (a 1)) (C := RX7) (T := TX7) (N := 44) hx hb hu uX7 hown hK hI.1 0 rfl rfl 1 (by decide) (hu _ uww_538) (fun _ h9 => h9) rfl dX7_headers_179 ?_
                      refine lv_iload hx hb dX7_headers_182 (lv_at hl 3 rfl) ?_
                      refine lv_iconst (v := (2 : Int32)) hx hb dX7_headers_184 (by decide) ?_
                      refine lv_iadd hx hb dX7_headers_185 ?_
                      refine rpcalli_p hsz hI (va_runS (As := [.ref (a 1), .int (x8 + (2 : Int32))]) (rest := [.ref (a 0)]) ⟨hx, hb, hml, hown, hu⟩ (met_X7_twoAt_1 l dC dI a kA t _ M21 L (x8 + (2 : Int32)) _ h) (cwl_X7_115_S hu ⟨by decide, by decide⟩) (rppreS hK hE hsz hI) rfl rfl hl.1 rfl (lv_room (Nat.le_of_ble_eq_true rfl)) dX7_headers_186 ⟨by decide, by decide⟩) (fun r22 H locs h hI => ?_)
                      refine lv_ldcw (own := RX7) (v := (65528 : Int32)) hx hb hown (hu _ uww_766) dX7_headers_189 ?_
                      refine lv_iand hx hb dX7_headers_192 ?_
                      refine rpput (ci := 6) (C := RX7) (T := TX7) (N := 44) (ty := .int) hx hb hu uX7 tyX7 tyX7_ok nmX7 hown hK hI 0 rfl rfl 33 (by decide) (hu _ uww_669) (fun _ h9 => h9) rfl (by decide +kernel) rfl rfl (Nat.le_of_ble_eq_true rfl) (rpset_0_33 _ _ _ _ _) dX7_headers_193 (fun H locs M23 eM23 hI => ?_)
                      have h := h M23 eM23
                      refine lv_aload_n hx hb dX7_headers_196 rfl (lv_at hl 0 rfl) ?_
                      refine lv_aload_n hx hb dX7_headers_197 rfl (lv_at hl 0 rfl) ?_
                      refine va_get (D := (dC, dI)) (ci := 6) (v := .ref (a 1)) (C := RX7) (T := TX7) (N := 44) hx hb hu uX7 hown hK hI.1 0 rfl rfl 1 (by decide) (hu _ uww_538) (fun _ h9 => h9) rfl dX7_headers_198 ?_
                      refine lv_iload hx hb dX7_headers_201 (lv_at hl 3 rfl) ?_
                      refine lv_iconst (v := (3 : Int32)) hx hb dX7_headers_203 (by decide) ?_
                      refine lv_iadd hx hb dX7_headers_204 ?_
                      refine va_bald hx hb hK hI.1 1 0 rfl rfl h.1 dX7_headers_205 ?_
                      have h := h.2
                      refine lv_iconst (v := (1 : Int32)) hx hb dX7_headers_206 (by decide) ?_
                      refine lv_iand hx hb dX7_headers_207 ?_
                      obtain ⟨K216, hK216, h⟩ := h
                      have J216 : ∀ (v24 : Int32) (H : Heap) (locs : List Loc) (ls : Array Slot), K216 v24 → rpI dC dI a kA (rpA a sz) s M23 L H locs → lv_has ls 6 [(0, .ref (a 0)), (2, .int p2), (4, .int x8), (5, .int v14)] → W p l e rm_X7_headers_0 s m (av_X7_headers_0 a t p1 p2).toArray below meth c H locs 0 0 (MQ below (qc_X7_headers_0 dC dI a kA sz M L Z) (av_X7_headers_0 a t p1 p2).toArray s 0 0 (rpA a sz)) (F0 m 216 ls [.int v24, .ref (a 0)]) := by
                        intro v24 H locs ls h hI hl
                        have h := hK216 v24 h
                        refine rpput (ci := 6) (C := RX7) (T := TX7) (N := 44) (ty := .boolean) hx hb hu uX7 tyX7 tyX7_ok nmX7 hown hK hI 0 rfl rfl 34 (by decide) (hu _ uww_670) (fun _ h9 => h9) rfl (by decide +kernel) h.1.1 h.1.2 (Nat.le_of_ble_eq_true rfl) (rpset_0_34 _ _ _ _ _) dX7_headers_216 (fun H locs M25 eM25 hI => ?_)
                        have h := h.2 M25 eM25
                        exact J219 M25 _ _ _ h hI (lv_sub hl [0, 1, 2, 3] rfl)
                      refine lv_if_eq (tgt := 215) hx hb dX7_headers_208 (by decide) (fun c26 => ?_) (fun c26 => ?_)
                      · have h := h.1 c26
                        refine lv_iconst (v := (0 : Int32)) hx hb dX7_headers_215 (by decide) ?_
                        exact J216 (0 : Int32) _ _ _ h hI (lv_sub hl [0, 1, 3, 4] rfl)
                      · have h := h.2 c26
                        refine lv_iconst (v := (1 : Int32)) hx hb dX7_headers_211 (by decide) ?_
                        refine lv_goto (tgt := 216) hx hb dX7_headers_212 (by decide) ?_
                        exact J216 (1 : Int32) _ _ _ h hI (lv_sub hl [0, 1, 3, 4] rfl)
                  refine lv_icmp_ne (tgt := 165) hx hb dX7_headers_135 (by decide) (fun c27 => ?_) (fun c27 => ?_)
                  · have h := h.1 c27
                    exact J165 M9 _ _ _ h hI (lv_sub hl [0, 1, 2, 3, 4] rfl)
                  · have h := h.2 c27
                    refine lv_aload_n hx hb dX7_headers_138 rfl (lv_at hl 0 rfl) ?_
                    refine va_get (D := (dC, dI)) (ci := 6) (v := .ref (a 1)) (C := RX7) (T := TX7) (N := 44) hx hb hu uX7 hown hK hI.1 0 rfl rfl 1 (by decide) (hu _ uww_538) (fun _ h9 => h9) rfl dX7_headers_139 ?_
                    refine lv_iload hx hb dX7_headers_142 (lv_at hl 3 rfl) ?_
                    refine lv_iconst (v := (3 : Int32)) hx hb dX7_headers_144 (by decide) ?_
                    refine lv_iadd hx hb dX7_headers_145 ?_
                    refine va_bald hx hb hK hI.1 1 0 rfl rfl h.1 dX7_headers_146 ?_
                    have h := h.2
                    refine lv_if_eq (tgt := 165) hx hb dX7_headers_147 (by decide) (fun c28 => ?_) (fun c28 => ?_)
                    · have h := h.1 c28
                      exact J165 M9 _ _ _ h hI (lv_sub hl [0, 1, 2, 3, 4] rfl)
                    · have h := h.2 c28
                      refine lv_aload_n hx hb dX7_headers_150 rfl (lv_at hl 0 rfl) ?_
                      refine va_get (D := (dC, dI)) (ci := 6) (v := .int (M9 0 42)) (C := RX7) (T := TX7) (N := 44) hx hb hu uX7 hown hK hI.1 0 rfl rfl 42 (by decide) (hu _ uww_765) (fun _ h9 => h9) rfl dX7_headers_151 ?_
                      refine lv_if_ge (tgt := 165) hx hb dX7_headers_154 (by decide) (fun c29 => ?_) (fun c29 => ?_)
                      · have h := h.1 c29
                        exact J165 M9 _ _ _ h hI (lv_sub hl [0, 1, 2, 3, 4] rfl)
                      · have h := h.2 c29
                        refine lv_aload_n hx hb dX7_headers_157 rfl (lv_at hl 0 rfl) ?_
                        refine lv_iload hx hb dX7_headers_158 (lv_at hl 3 rfl) ?_
                        refine lv_iconst (v := (3 : Int32)) hx hb dX7_headers_160 (by decide) ?_
                        refine lv_iadd hx hb dX7_headers_161 ?_
                        refine rpput (ci := 6) (C := RX7) (T := TX7) (N := 44) (ty := .int) hx hb hu uX7 tyX7 tyX7_ok nmX7 hown hK hI 0 rfl rfl 42 (by decide) (hu _ uww_765) (fun _ h9 => h9) rfl (by decide +kernel) rfl rfl (Nat.le_of_ble_eq_true rfl) (rpset_0_42 _ _ _ _ _) dX7_headers_162 (fun H locs M30 eM30 hI => ?_)
                        have h := h M30 eM30
                        exact J165 M30 _ _ _ h hI (lv_sub hl [0, 1, 2, 3, 4] rfl)
                refine lv_icmp_ne (tgt := 132) hx hb dX7_headers_120 (by decide) (fun c31 => ?_) (fun c31 => ?_)
                · have h := h.1 c31
                  exact J132  _ _ _ h hI (lv_sub hl [1, 2, 3, 4, 0] rfl)
                · have h := h.2 c31
                  refine lv_aload_n hx hb dX7_headers_123 rfl (lv_at hl 1 rfl) ?_
                  refine va_get (D := (dC, dI)) (ci := 6) (v := .int (M9 0 41)) (C := RX7) (T := TX7) (N := 44) hx hb hu uX7 hown hK hI.1 0 rfl rfl 41 (by decide) (hu _ uww_764) (fun _ h9 => h9) rfl dX7_headers_124 ?_
                  refine lv_if_lt (tgt := 132) hx hb dX7_headers_127 (by decide) (fun c32 => ?_) (fun c32 => ?_)
                  · have h := h.1 c32
                    exact J132  _ _ _ h hI (lv_sub hl [1, 2, 3, 4, 0] rfl)
                  · have h := h.2 c32
                    refine lv_iconst (v := (0 : Int32)) hx hb dX7_headers_130 (by decide) ?_
                    exact rpzret (Z := (fun r M' L' => L' = L ∧ Z r M')) hx hb hr hlocks hK hI dX7_headers_131 ⟨isB_0, ⟨rfl, h⟩⟩
            refine lv_icmp_ne (tgt := 89) hx hb dX7_headers_81 (by decide) (fun c33 => ?_) (fun c33 => ?_)
            · have h := h.1 c33
              refine lv_bipush (v := (8 : Int32)) hx hb dX7_headers_89 (by decide) ?_
              refine lv_bipush (v := (8 : Int32)) hx hb dX7_headers_91 (by decide) ?_
              refine lv_aload_n hx hb dX7_headers_93 rfl (lv_at hl 0 rfl) ?_
              refine va_get (D := (dC, dI)) (ci := 6) (v := .ref (a 1)) (C := RX7) (T := TX7) (N := 44) hx hb hu uX7 hown hK hI.1 0 rfl rfl 1 (by decide) (hu _ uww_538) (fun _ h9 => h9) rfl dX7_headers_94 ?_
              refine lv_iload hx hb dX7_headers_97 (lv_at hl 3 rfl) ?_
              refine lv_iconst (v := (1 : Int32)) hx hb dX7_headers_99 (by decide) ?_
              refine lv_iadd hx hb dX7_headers_100 ?_
              refine rpcalli_p hsz hI (va_runS (As := [.ref (a 1), .int (x8 + (1 : Int32))]) (rest := [.int (8 : Int32), .int (8 : Int32)]) ⟨hx, hb, hml, hown, hu⟩ (met_X7_octetAt_1 l dC dI a kA t _ M9 L (x8 + (1 : Int32)) _ h) (cwl_X7_111_S hu ⟨by decide, by decide⟩) (rppreS hK hE hsz hI) rfl rfl hl.1 rfl (lv_room (Nat.le_of_ble_eq_true rfl)) dX7_headers_101 ⟨by decide, by decide⟩) (fun r34 H locs h hI => ?_)
              refine lv_imul hx hb dX7_headers_104 ?_
              refine lv_iadd hx hb dX7_headers_105 ?_
              exact J106 ((8 : Int32) + ((8 : Int32) * r34)) _ _ _ h hI (lv_sub hl [0, 1, 2, 3] rfl)
            · have h := h.2 c33
              refine lv_bipush (v := (8 : Int32)) hx hb dX7_headers_84 (by decide) ?_
              refine lv_goto (tgt := 106) hx hb dX7_headers_86 (by decide) ?_
              exact J106 (8 : Int32) _ _ _ h hI (lv_sub hl [0, 1, 2, 3] rfl)
          · have h := h.2 c13
            refine lv_iconst (v := (0 : Int32)) hx hb dX7_headers_76 (by decide) ?_
            exact rpzret (Z := (fun r M' L' => L' = L ∧ Z r M')) hx hb hr hlocks hK hI dX7_headers_77 ⟨isB_0, ⟨rfl, h⟩⟩
        refine lv_if_eq (tgt := 67) hx hb dX7_headers_46 (by decide) (fun c35 => ?_) (fun c35 => ?_)
        · have h := h.1 c35
          exact J67  _ _ _ h hI (lv_sub hl [0, 1, 2, 3] rfl)
        · have h := h.2 c35
          refine lv_iload_n hx hb dX7_headers_49 rfl (lv_at hl 2 rfl) ?_
          refine lv_bipush (v := (43 : Int32)) hx hb dX7_headers_50 (by decide) ?_
          refine lv_icmp_eq (tgt := 67) hx hb dX7_headers_52 (by decide) (fun c36 => ?_) (fun c36 => ?_)
          · have h := h.1 c36
            exact J67  _ _ _ h hI (lv_sub hl [0, 1, 2, 3] rfl)
          · have h := h.2 c36
            refine lv_iload_n hx hb dX7_headers_55 rfl (lv_at hl 2 rfl) ?_
            refine lv_bipush (v := (60 : Int32)) hx hb dX7_headers_56 (by decide) ?_
            refine lv_icmp_eq (tgt := 67) hx hb dX7_headers_58 (by decide) (fun c37 => ?_) (fun c37 => ?_)
            · have h := h.1 c37
              exact J67  _ _ _ h hI (lv_sub hl [0, 1, 2, 3] rfl)
            · have h := h.2 c37
              refine lv_iload_n hx hb dX7_headers_61 rfl (lv_at hl 2 rfl) ?_
              refine lv_bipush (v := (44 : Int32)) hx hb dX7_headers_62 (by decide) ?_
              refine lv_icmp_ne (tgt := 239) hx hb dX7_headers_64 (by decide) (fun c38 => ?_) (fun c38 => ?_)
              · have h := h.1 c38
                exact J239  _ _ _ h hI (lv_sub hl [0, 2, 3] rfl)
              · have h := h.2 c38
                exact J67  _ _ _ h hI (lv_sub hl [0, 1, 2, 3] rfl)
  exact P38 (m38 r1 x2 M6 + 1) r1 x2 M6 _ _ _ h (Nat.lt_succ_self _) hI (lv_sub hl [2, 4, 1, 0] rfl)

abbrev rm_X7_isFormed6_0 : Room := { frames := 3, cells := 0, slots := 0, locals := 67 }
abbrev av_X7_isFormed6_0 (a t : Nat → Nat) (p1 : Int32) : List Value := [.ref (a 0), .int p1]
abbrev qc_X7_isFormed6_0 (dC : Nat → ClassId) (dI : Nat → Nat → Nat) (a : Nat → Nat) (kA : Nat → ClassId) (sz : Nat) (M : cM) (L : cL) (Z : Int32 → cM → Prop) : Array Value → State → Outcome → State → Prop := va_Qi (fun r (u : cM × cL) => u.2 = L ∧ Z r u.1) (rpAt dC dI a kA (rpA a sz)) (rpA a sz)
set_option maxHeartbeats 4000000 in
set_option maxRecDepth 100000 in
theorem met_X7_isFormed6_0 (l : Launch) (dC : Nat → ClassId) (dI : Nat → Nat → Nat) (a : Nat → Nat) (kA : Nat → ClassId) (t : Nat → Nat) (sz : Nat) (M : cM) (L : cL) (p1 : Int32) (Z : Int32 → cM → Prop) (h : wp_X7_isFormed6_0 M L p1 Z) : Met l yX7_isFormed6 (Cond.code yX7_isFormed6 cX7_isFormed6 3 (some .boolean) :: uW) rm_X7_isFormed6_0 (va_Pc (av_X7_isFormed6_0 a t p1) (rpPre dC dI a kA t M L sz)) (qc_X7_isFormed6_0 dC dI a kA sz M L Z) 0 0 (rpA a sz) := by
  refine rpenter (cc := cX7_isFormed6) (n := 3) (ret := (some .boolean)) (by decide) rfl (Nat.le_of_ble_eq_true rfl) ?_
  intro p e s m below meth c ls hx hb hml hr hlocks hown hts hK hE hsz hI hl hmn
  have hu : ∀ w ∈ uW, w.before (av_X7_isFormed6_0 a t p1).toArray s = true := fun w h => hts w (List.mem_cons_of_mem _ h)
  have hown : s.vm.findClass RX7 = some m.cls := hown
  have hl : lv_has ls 3 [(0, .ref (a 0)), (1, .int p1)] := hl
  unfold wp_X7_isFormed6_0 at h
  refine lv_iload_n hx hb dX7_isFormed6_0 rfl (lv_at hl 1 rfl) ?_
  refine lv_bipush (v := (40 : Int32)) hx hb dX7_isFormed6_1 (by decide) ?_
  refine lv_icmp_lt (tgt := 21) hx hb dX7_isFormed6_3 (by decide) (fun c1 => ?_) (fun c1 => ?_)
  · have h := h.1 c1
    refine lv_iconst (v := (0 : Int32)) hx hb dX7_isFormed6_21 (by decide) ?_
    exact rpzret (Z := (fun r M' L' => L' = L ∧ Z r M')) hx hb hr hlocks hK hI dX7_isFormed6_22 ⟨isB_0, ⟨rfl, h⟩⟩
  · have h := h.2 c1
    refine lv_aload_n hx hb dX7_isFormed6_6 rfl (lv_at hl 0 rfl) ?_
    refine va_get (D := (dC, dI)) (ci := 6) (v := .ref (a 1)) (C := RX7) (T := TX7) (N := 44) hx hb hu uX7 hown hK hI.1 0 rfl rfl 1 (by decide) (hu _ uww_538) (fun _ h9 => h9) rfl dX7_isFormed6_7 ?_
    refine lv_iconst (v := (0 : Int32)) hx hb dX7_isFormed6_10 (by decide) ?_
    refine rpcalli_p hsz hI (va_runS (As := [.ref (a 1), .int (0 : Int32)]) (rest := []) ⟨hx, hb, hml, hown, hu⟩ (met_X7_octetAt_1 l dC dI a kA t _ M L (0 : Int32) _ h) (cwl_X7_111_S hu ⟨by decide, by decide⟩) (rppreS hK hE hsz hI) rfl rfl hl.1 rfl (lv_room (Nat.le_of_ble_eq_true rfl)) dX7_isFormed6_11 ⟨by decide, by decide⟩) (fun r2 H locs h hI => ?_)
    refine lv_iconst (v := (4 : Int32)) hx hb dX7_isFormed6_14 (by decide) ?_
    refine lv_ishr hx hb dX7_isFormed6_15 ?_
    refine lv_bipush (v := (6 : Int32)) hx hb dX7_isFormed6_16 (by decide) ?_
    refine lv_icmp_eq (tgt := 23) hx hb dX7_isFormed6_18 (by decide) (fun c3 => ?_) (fun c3 => ?_)
    · have h := h.1 c3
      refine lv_aload_n hx hb dX7_isFormed6_23 rfl (lv_at hl 0 rfl) ?_
      refine lv_aload_n hx hb dX7_isFormed6_24 rfl (lv_at hl 0 rfl) ?_
      refine va_get (D := (dC, dI)) (ci := 6) (v := .ref (a 1)) (C := RX7) (T := TX7) (N := 44) hx hb hu uX7 hown hK hI.1 0 rfl rfl 1 (by decide) (hu _ uww_538) (fun _ h9 => h9) rfl dX7_isFormed6_25 ?_
      refine lv_iconst (v := (4 : Int32)) hx hb dX7_isFormed6_28 (by decide) ?_
      refine rpcalli_p hsz hI (va_runS (As := [.ref (a 1), .int (4 : Int32)]) (rest := [.ref (a 0)]) ⟨hx, hb, hml, hown, hu⟩ (met_X7_twoAt_1 l dC dI a kA t _ M L (4 : Int32) _ h) (cwl_X7_115_S hu ⟨by decide, by decide⟩) (rppreS hK hE hsz hI) rfl rfl hl.1 rfl (lv_room (Nat.le_of_ble_eq_true rfl)) dX7_isFormed6_29 ⟨by decide, by decide⟩) (fun r4 H locs h hI => ?_)
      refine rpput (ci := 6) (C := RX7) (T := TX7) (N := 44) (ty := .int) hx hb hu uX7 tyX7 tyX7_ok nmX7 hown hK hI 0 rfl rfl 43 (by decide) (hu _ uww_769) (fun _ h9 => h9) rfl (by decide +kernel) rfl rfl (Nat.le_of_ble_eq_true rfl) (rpset_0_43 _ _ _ _ _) dX7_isFormed6_32 (fun H locs M5 eM5 hI => ?_)
      have h := h M5 eM5
      refine lv_aload_n hx hb dX7_isFormed6_35 rfl (lv_at hl 0 rfl) ?_
      refine va_get (D := (dC, dI)) (ci := 6) (v := .int (M5 0 43)) (C := RX7) (T := TX7) (N := 44) hx hb hu uX7 hown hK hI.1 0 rfl rfl 43 (by decide) (hu _ uww_769) (fun _ h9 => h9) rfl dX7_isFormed6_36 ?_
      refine lv_iload_n hx hb dX7_isFormed6_39 rfl (lv_at hl 1 rfl) ?_
      refine lv_bipush (v := (40 : Int32)) hx hb dX7_isFormed6_40 (by decide) ?_
      refine lv_isub hx hb dX7_isFormed6_42 ?_
      refine lv_icmp_gt (tgt := 61) hx hb dX7_isFormed6_43 (by decide) (fun c6 => ?_) (fun c6 => ?_)
      · have h := h.1 c6
        refine lv_iconst (v := (0 : Int32)) hx hb dX7_isFormed6_61 (by decide) ?_
        exact rpzret (Z := (fun r M' L' => L' = L ∧ Z r M')) hx hb hr hlocks hK hI dX7_isFormed6_62 ⟨isB_0, ⟨rfl, h⟩⟩
      · have h := h.2 c6
        refine lv_aload_n hx hb dX7_isFormed6_46 rfl (lv_at hl 0 rfl) ?_
        refine lv_iconst (v := (0 : Int32)) hx hb dX7_isFormed6_47 (by decide) ?_
        refine lv_bipush (v := (40 : Int32)) hx hb dX7_isFormed6_48 (by decide) ?_
        refine lv_aload_n hx hb dX7_isFormed6_50 rfl (lv_at hl 0 rfl) ?_
        refine va_get (D := (dC, dI)) (ci := 6) (v := .int (M5 0 43)) (C := RX7) (T := TX7) (N := 44) hx hb hu uX7 hown hK hI.1 0 rfl rfl 43 (by decide) (hu _ uww_769) (fun _ h9 => h9) rfl dX7_isFormed6_51 ?_
        refine lv_iadd hx hb dX7_isFormed6_54 ?_
        refine rpcalli_m hsz hI (va_runV (As := [.int (0 : Int32), .int ((40 : Int32) + (M5 0 43))]) (rest := []) ⟨hx, hb, hml, hown, hu⟩ (met_X7_headers_0 l dC dI a kA t _ M5 L (0 : Int32) ((40 : Int32) + (M5 0 43)) _ h) (cwl_X7_312_X7 hu ⟨by decide, by decide⟩) (rppre (ci := 6) hK hE hsz hI rfl rfl) rfl rfl hl.1 rfl (lv_room (Nat.le_of_ble_eq_true rfl)) dX7_isFormed6_55 ⟨by decide, by decide⟩) (fun r7 M8 H locs h hI => ?_)
        refine lv_if_ne (tgt := 63) hx hb dX7_isFormed6_58 (by decide) (fun c9 => ?_) (fun c9 => ?_)
        · have h := h.1 c9
          refine lv_bipush (v := (40 : Int32)) hx hb dX7_isFormed6_63 (by decide) ?_
          refine lv_aload_n hx hb dX7_isFormed6_65 rfl (lv_at hl 0 rfl) ?_
          refine va_get (D := (dC, dI)) (ci := 6) (v := .int (M8 0 43)) (C := RX7) (T := TX7) (N := 44) hx hb hu uX7 hown hK hI.1 0 rfl rfl 43 (by decide) (hu _ uww_769) (fun _ h9 => h9) rfl dX7_isFormed6_66 ?_
          refine lv_iadd hx hb dX7_isFormed6_69 ?_
          refine lv_aload_n hx hb dX7_isFormed6_70 rfl (lv_at hl 0 rfl) ?_
          refine va_get (D := (dC, dI)) (ci := 6) (v := .int (M8 0 40)) (C := RX7) (T := TX7) (N := 44) hx hb hu uX7 hown hK hI.1 0 rfl rfl 40 (by decide) (hu _ uww_767) (fun _ h9 => h9) rfl dX7_isFormed6_71 ?_
          refine lv_isub hx hb dX7_isFormed6_74 ?_
          refine lv_topi (fun x10 ex10 => ?_)
          have h := h x10 ex10
          refine lv_istore_n (lv' := [(2, .int x10), (0, .ref (a 0)), (1, .int p1)]) hx hb dX7_isFormed6_75 rfl hl (by decide) rfl (fun ls hl => ?_)
          refine lv_aload_n hx hb dX7_isFormed6_76 rfl (lv_at hl 1 rfl) ?_
          refine va_get (D := (dC, dI)) (ci := 6) (v := .int (M8 0 41)) (C := RX7) (T := TX7) (N := 44) hx hb hu uX7 hown hK hI.1 0 rfl rfl 41 (by decide) (hu _ uww_764) (fun _ h9 => h9) rfl dX7_isFormed6_77 ?_
          refine lv_if_lt (tgt := 108) hx hb dX7_isFormed6_80 (by decide) (fun c11 => ?_) (fun c11 => ?_)
          · have h := h.1 c11
            refine lv_iconst (v := (1 : Int32)) hx hb dX7_isFormed6_108 (by decide) ?_
            refine lv_goto (tgt := 113) hx hb dX7_isFormed6_109 (by decide) ?_
            exact rpzret (Z := (fun r M' L' => L' = L ∧ Z r M')) hx hb hr hlocks hK hI dX7_isFormed6_113 ⟨isB_1, ⟨rfl, h⟩⟩
          · have h := h.2 c11
            refine lv_aload_n hx hb dX7_isFormed6_83 rfl (lv_at hl 1 rfl) ?_
            refine va_get (D := (dC, dI)) (ci := 6) (v := .int (M8 0 34)) (C := RX7) (T := TX7) (N := 44) hx hb hu uX7 hown hK hI.1 0 rfl rfl 34 (by decide) (hu _ uww_670) (fun _ h9 => h9) rfl dX7_isFormed6_84 ?_
            obtain ⟨K97, hK97, h⟩ := h
            have J97 : ∀  (H : Heap) (locs : List Loc) (ls : Array Slot), K97  → rpI dC dI a kA (rpA a sz) s M8 L H locs → lv_has ls 3 [(0, .ref (a 0)), (2, .int x10)] → W p l e rm_X7_isFormed6_0 s m (av_X7_isFormed6_0 a t p1).toArray below meth c H locs 0 0 (MQ below (qc_X7_isFormed6_0 dC dI a kA sz M L Z) (av_X7_isFormed6_0 a t p1).toArray s 0 0 (rpA a sz)) (F0 m 97 ls []) := by
              intro  H locs ls h hI hl
              have h := hK97  h
              refine lv_aload_n hx hb dX7_isFormed6_97 rfl (lv_at hl 0 rfl) ?_
              refine va_get (D := (dC, dI)) (ci := 6) (v := .int (M8 0 33)) (C := RX7) (T := TX7) (N := 44) hx hb hu uX7 hown hK hI.1 0 rfl rfl 33 (by decide) (hu _ uww_669) (fun _ h9 => h9) rfl dX7_isFormed6_98 ?_
              refine lv_iload_n hx hb dX7_isFormed6_101 rfl (lv_at hl 1 rfl) ?_
              refine lv_iadd hx hb dX7_isFormed6_102 ?_
              refine lv_ldc (own := RX7) (v := (65535 : Int32)) hx hb hown (hu _ uww_596) dX7_isFormed6_103 ?_
              refine lv_icmp_gt (tgt := 112) hx hb dX7_isFormed6_105 (by decide) (fun c12 => ?_) (fun c12 => ?_)
              · have h := h.1 c12
                refine lv_iconst (v := (0 : Int32)) hx hb dX7_isFormed6_112 (by decide) ?_
                exact rpzret (Z := (fun r M' L' => L' = L ∧ Z r M')) hx hb hr hlocks hK hI dX7_isFormed6_113 ⟨isB_0, ⟨rfl, h⟩⟩
              · have h := h.2 c12
                refine lv_iconst (v := (1 : Int32)) hx hb dX7_isFormed6_108 (by decide) ?_
                refine lv_goto (tgt := 113) hx hb dX7_isFormed6_109 (by decide) ?_
                exact rpzret (Z := (fun r M' L' => L' = L ∧ Z r M')) hx hb hr hlocks hK hI dX7_isFormed6_113 ⟨isB_1, ⟨rfl, h⟩⟩
            refine lv_if_eq (tgt := 97) hx hb dX7_isFormed6_87 (by decide) (fun c13 => ?_) (fun c13 => ?_)
            · have h := h.1 c13
              exact J97  _ _ _ h hI (lv_sub hl [1, 0] rfl)
            · have h := h.2 c13
              refine lv_iload_n hx hb dX7_isFormed6_90 rfl (lv_at hl 0 rfl) ?_
              refine lv_bipush (v := (8 : Int32)) hx hb dX7_isFormed6_91 (by decide) ?_
              refine lv_irem hx hb dX7_isFormed6_93 (by decide) ?_
              refine lv_if_ne (tgt := 112) hx hb dX7_isFormed6_94 (by decide) (fun c14 => ?_) (fun c14 => ?_)
              · have h := h.1 c14
                refine lv_iconst (v := (0 : Int32)) hx hb dX7_isFormed6_112 (by decide) ?_
                exact rpzret (Z := (fun r M' L' => L' = L ∧ Z r M')) hx hb hr hlocks hK hI dX7_isFormed6_113 ⟨isB_0, ⟨rfl, h⟩⟩
              · have h := h.2 c14
                exact J97  _ _ _ h hI (lv_sub hl [1, 0] rfl)
        · have h := h.2 c9
          refine lv_iconst (v := (0 : Int32)) hx hb dX7_isFormed6_61 (by decide) ?_
          exact rpzret (Z := (fun r M' L' => L' = L ∧ Z r M')) hx hb hr hlocks hK hI dX7_isFormed6_62 ⟨isB_0, ⟨rfl, h⟩⟩
    · have h := h.2 c3
      refine lv_iconst (v := (0 : Int32)) hx hb dX7_isFormed6_21 (by decide) ?_
      exact rpzret (Z := (fun r M' L' => L' = L ∧ Z r M')) hx hb hr hlocks hK hI dX7_isFormed6_22 ⟨isB_0, ⟨rfl, h⟩⟩

abbrev rm_X7_longAt_1 : Room := { frames := 3, cells := 0, slots := 0, locals := 63 }
abbrev av_X7_longAt_1 (a t : Nat → Nat) (p1 : Int32) : List Value := [.ref (a 1), .int p1]
abbrev qc_X7_longAt_1 (dC : Nat → ClassId) (dI : Nat → Nat → Nat) (a : Nat → Nat) (kA : Nat → ClassId) (sz : Nat) (M : cM) (L : cL) (Z : Int64 → Prop) : Array Value → State → Outcome → State → Prop := va_Ql (fun r (u : cM × cL) => u.1 = M ∧ u.2 = L ∧ Z r) (rpAt dC dI a kA (rpA a sz)) (rpA a sz)
set_option maxHeartbeats 4000000 in
set_option maxRecDepth 100000 in
theorem met_X7_longAt_1 (l : Launch) (dC : Nat → ClassId) (dI : Nat → Nat → Nat) (a : Nat → Nat) (kA : Nat → ClassId) (t : Nat → Nat) (sz : Nat) (M : cM) (L : cL) (p1 : Int32) (Z : Int64 → Prop) (h : wp_X7_longAt_1 M L p1 Z) : Met l yX7_longAt (Cond.code yX7_longAt cX7_longAt 2 (some .long) :: uW) rm_X7_longAt_1 (va_Pc (av_X7_longAt_1 a t p1) (rpPre dC dI a kA t M L sz)) (qc_X7_longAt_1 dC dI a kA sz M L Z) 0 0 (rpA a sz) := by
  refine rpenter (cc := cX7_longAt) (n := 2) (ret := (some .long)) (by decide) rfl (Nat.le_of_ble_eq_true rfl) ?_
  intro p e s m below meth c ls hx hb hml hr hlocks hown hts hK hE hsz hI hl hmn
  have hu : ∀ w ∈ uW, w.before (av_X7_longAt_1 a t p1).toArray s = true := fun w h => hts w (List.mem_cons_of_mem _ h)
  have hown : s.vm.findClass RX7 = some m.cls := hown
  have hl : lv_has ls 2 [(0, .ref (a 1)), (1, .int p1)] := hl
  unfold wp_X7_longAt_1 at h
  refine lv_aload_n hx hb dX7_longAt_0 rfl (lv_at hl 0 rfl) ?_
  refine lv_iload_n hx hb dX7_longAt_1 rfl (lv_at hl 1 rfl) ?_
  refine rpcalli_p hsz hI (va_runS (As := [.ref (a 1), .int p1]) (rest := []) ⟨hx, hb, hml, hown, hu⟩ (met_X7_intAt_1 l dC dI a kA t _ M L p1 _ h) (cwl_X7_118_S hu ⟨by decide, by decide⟩) (rppreS hK hE hsz hI) rfl rfl hl.1 rfl (lv_room (Nat.le_of_ble_eq_true rfl)) dX7_longAt_2 ⟨by decide, by decide⟩) (fun r1 H locs h hI => ?_)
  refine lv_i2l hx hb dX7_longAt_5 rfl ?_
  refine lv_bipush (v := (32 : Int32)) hx hb dX7_longAt_6 (by decide) ?_
  refine lv_lshl hx hb dX7_longAt_8 rfl ?_
  refine lv_aload_n hx hb dX7_longAt_9 rfl (lv_at hl 0 rfl) ?_
  refine lv_iload_n hx hb dX7_longAt_10 rfl (lv_at hl 1 rfl) ?_
  refine lv_iconst (v := (4 : Int32)) hx hb dX7_longAt_11 (by decide) ?_
  refine lv_iadd hx hb dX7_longAt_12 ?_
  refine rpcalli_p hsz hI (va_runS (As := [.ref (a 1), .int (p1 + (4 : Int32))]) (rest := [.long ((r1.toInt64) <<< ((32 : Int32).toInt64 &&& 63))]) ⟨hx, hb, hml, hown, hu⟩ (met_X7_intAt_1 l dC dI a kA t _ M L (p1 + (4 : Int32)) _ h) (cwl_X7_118_S hu ⟨by decide, by decide⟩) (rppreS hK hE hsz hI) rfl rfl hl.1 rfl (lv_room (Nat.le_of_ble_eq_true rfl)) dX7_longAt_13 ⟨by decide, by decide⟩) (fun r2 H locs h hI => ?_)
  refine lv_i2l hx hb dX7_longAt_16 rfl ?_
  refine lv_ldc2 (own := RX7) (v := (4294967295 : Int64)) hx hb hown (hu _ uww_587) dX7_longAt_17 ?_
  refine lv_land hx hb dX7_longAt_20 ?_
  refine lv_lor hx hb dX7_longAt_21 ?_
  exact rplret (Z := (fun r M' L' => M' = M ∧ L' = L ∧ Z r)) hx hb hr hlocks hK hI dX7_longAt_22 ⟨rfl, rfl, h⟩

abbrev rm_X7_addressesOf_0_1 : Room := { frames := 4, cells := 0, slots := 0, locals := 84 }
abbrev av_X7_addressesOf_0_1 (a t : Nat → Nat) (p2 : Int32) : List Value := [.ref (a 0), .ref (a 1), .int p2]
abbrev qc_X7_addressesOf_0_1 (dC : Nat → ClassId) (dI : Nat → Nat → Nat) (a : Nat → Nat) (kA : Nat → ClassId) (sz : Nat) (M : cM) (L : cL) (Z : Int32 → cM → cL → Prop) : Array Value → State → Outcome → State → Prop := va_Qi (fun r (u : cM × cL) => Z r u.1 u.2) (rpAt dC dI a kA (rpA a sz)) (rpA a sz)
set_option maxHeartbeats 4000000 in
set_option maxRecDepth 100000 in
theorem met_X7_addressesOf_0_1 (l : Launch) (dC : Nat → ClassId) (dI : Nat → Nat → Nat) (a : Nat → Nat) (kA : Nat → ClassId) (t : Nat → Nat) (sz : Nat) (M : cM) (L : cL) (p2 : Int32) (Z : Int32 → cM → cL → Prop) (h : wp_X7_addressesOf_0_1 M L p2 Z) : Met l yX7_addressesOf (Cond.code yX7_addressesOf cX7_addressesOf 5 (some .boolean) :: uW) rm_X7_addressesOf_0_1 (va_Pc (av_X7_addressesOf_0_1 a t p2) (rpPre dC dI a kA t M L sz)) (qc_X7_addressesOf_0_1 dC dI a kA sz M L Z) 0 0 (rpA a sz) := by
  refine rpenter (cc := cX7_addressesOf) (n := 5) (ret := (some .boolean)) (by decide) rfl (Nat.le_of_ble_eq_true rfl) ?_
  intro p e s m below meth c ls hx hb hml hr hlocks hown hts hK hE hsz hI hl hmn
  have hu : ∀ w ∈ uW, w.before (av_X7_addressesOf_0_1 a t p2).toArray s = true := fun w h => hts w (List.mem_cons_of_mem _ h)
  have hown : s.vm.findClass RX7 = some m.cls := hown
  have hl : lv_has ls 5 [(0, .ref (a 0)), (1, .ref (a 1)), (2, .int p2)] := hl
  unfold wp_X7_addressesOf_0_1 at h
  refine lv_aload_n hx hb dX7_addressesOf_0 rfl (lv_at hl 0 rfl) ?_
  refine lv_aload_n hx hb dX7_addressesOf_1 rfl (lv_at hl 1 rfl) ?_
  refine lv_iload_n hx hb dX7_addressesOf_2 rfl (lv_at hl 2 rfl) ?_
  refine lv_bipush (v := (8 : Int32)) hx hb dX7_addressesOf_3 (by decide) ?_
  refine lv_iadd hx hb dX7_addressesOf_5 ?_
  refine rpcalll_p hsz hI (va_runS (As := [.ref (a 1), .int (p2 + (8 : Int32))]) (rest := [.ref (a 0)]) ⟨hx, hb, hml, hown, hu⟩ (met_X7_longAt_1 l dC dI a kA t _ M L (p2 + (8 : Int32)) _ h) (cwl_X7_155_S hu ⟨by decide, by decide⟩) (rppreS hK hE hsz hI) rfl rfl hl.1 rfl (lv_room (Nat.le_of_ble_eq_true rfl)) dX7_addressesOf_6 ⟨by decide, by decide⟩) (fun r1 H locs h hI => ?_)
  refine rpputl (ci := 6) (C := RX7) (T := TX7) (N := 44) (ty := .long) hx hb hu uX7 tyX7 tyX7_ok nmX7 hown hK hI 0 rfl rfl 27 (by decide) (hu _ uww_630) (fun _ h9 => h9) rfl (by decide +kernel) rfl rfl (Nat.le_of_ble_eq_true rfl) (rpset_0_27 _ _ _ _ _) dX7_addressesOf_9 (fun H locs L2 eL2 hI => ?_)
  have h := h L2 eL2
  refine lv_aload_n hx hb dX7_addressesOf_12 rfl (lv_at hl 0 rfl) ?_
  refine lv_aload_n hx hb dX7_addressesOf_13 rfl (lv_at hl 1 rfl) ?_
  refine lv_iload_n hx hb dX7_addressesOf_14 rfl (lv_at hl 2 rfl) ?_
  refine lv_bipush (v := (16 : Int32)) hx hb dX7_addressesOf_15 (by decide) ?_
  refine lv_iadd hx hb dX7_addressesOf_17 ?_
  refine rpcalll_p hsz hI (va_runS (As := [.ref (a 1), .int (p2 + (16 : Int32))]) (rest := [.ref (a 0)]) ⟨hx, hb, hml, hown, hu⟩ (met_X7_longAt_1 l dC dI a kA t _ M L2 (p2 + (16 : Int32)) _ h) (cwl_X7_155_S hu ⟨by decide, by decide⟩) (rppreS hK hE hsz hI) rfl rfl hl.1 rfl (lv_room (Nat.le_of_ble_eq_true rfl)) dX7_addressesOf_18 ⟨by decide, by decide⟩) (fun r3 H locs h hI => ?_)
  refine rpputl (ci := 6) (C := RX7) (T := TX7) (N := 44) (ty := .long) hx hb hu uX7 tyX7 tyX7_ok nmX7 hown hK hI 0 rfl rfl 28 (by decide) (hu _ uww_631) (fun _ h9 => h9) rfl (by decide +kernel) rfl rfl (Nat.le_of_ble_eq_true rfl) (rpset_0_28 _ _ _ _ _) dX7_addressesOf_21 (fun H locs L4 eL4 hI => ?_)
  have h := h L4 eL4
  refine lv_aload_n hx hb dX7_addressesOf_24 rfl (lv_at hl 0 rfl) ?_
  refine lv_aload_n hx hb dX7_addressesOf_25 rfl (lv_at hl 1 rfl) ?_
  refine lv_iload_n hx hb dX7_addressesOf_26 rfl (lv_at hl 2 rfl) ?_
  refine lv_bipush (v := (24 : Int32)) hx hb dX7_addressesOf_27 (by decide) ?_
  refine lv_iadd hx hb dX7_addressesOf_29 ?_
  refine rpcalll_p hsz hI (va_runS (As := [.ref (a 1), .int (p2 + (24 : Int32))]) (rest := [.ref (a 0)]) ⟨hx, hb, hml, hown, hu⟩ (met_X7_longAt_1 l dC dI a kA t _ M L4 (p2 + (24 : Int32)) _ h) (cwl_X7_155_S hu ⟨by decide, by decide⟩) (rppreS hK hE hsz hI) rfl rfl hl.1 rfl (lv_room (Nat.le_of_ble_eq_true rfl)) dX7_addressesOf_30 ⟨by decide, by decide⟩) (fun r5 H locs h hI => ?_)
  refine rpputl (ci := 6) (C := RX7) (T := TX7) (N := 44) (ty := .long) hx hb hu uX7 tyX7 tyX7_ok nmX7 hown hK hI 0 rfl rfl 29 (by decide) (hu _ uww_632) (fun _ h9 => h9) rfl (by decide +kernel) rfl rfl (Nat.le_of_ble_eq_true rfl) (rpset_0_29 _ _ _ _ _) dX7_addressesOf_33 (fun H locs L6 eL6 hI => ?_)
  have h := h L6 eL6
  refine lv_aload_n hx hb dX7_addressesOf_36 rfl (lv_at hl 0 rfl) ?_
  refine lv_aload_n hx hb dX7_addressesOf_37 rfl (lv_at hl 1 rfl) ?_
  refine lv_iload_n hx hb dX7_addressesOf_38 rfl (lv_at hl 2 rfl) ?_
  refine lv_bipush (v := (32 : Int32)) hx hb dX7_addressesOf_39 (by decide) ?_
  refine lv_iadd hx hb dX7_addressesOf_41 ?_
  refine rpcalll_p hsz hI (va_runS (As := [.ref (a 1), .int (p2 + (32 : Int32))]) (rest := [.ref (a 0)]) ⟨hx, hb, hml, hown, hu⟩ (met_X7_longAt_1 l dC dI a kA t _ M L6 (p2 + (32 : Int32)) _ h) (cwl_X7_155_S hu ⟨by decide, by decide⟩) (rppreS hK hE hsz hI) rfl rfl hl.1 rfl (lv_room (Nat.le_of_ble_eq_true rfl)) dX7_addressesOf_42 ⟨by decide, by decide⟩) (fun r7 H locs h hI => ?_)
  refine rpputl (ci := 6) (C := RX7) (T := TX7) (N := 44) (ty := .long) hx hb hu uX7 tyX7 tyX7_ok nmX7 hown hK hI 0 rfl rfl 30 (by decide) (hu _ uww_633) (fun _ h9 => h9) rfl (by decide +kernel) rfl rfl (Nat.le_of_ble_eq_true rfl) (rpset_0_30 _ _ _ _ _) dX7_addressesOf_45 (fun H locs L8 eL8 hI => ?_)
  have h := h L8 eL8
  refine lv_aload_n hx hb dX7_addressesOf_48 rfl (lv_at hl 0 rfl) ?_
  refine lv_aload_n hx hb dX7_addressesOf_49 rfl (lv_at hl 0 rfl) ?_
  refine va_get (D := (dC, dI)) (ci := 6) (v := .long (L8 0 27)) (C := RX7) (T := TX7) (N := 44) hx hb hu uX7 hown hK hI.1 0 rfl rfl 27 (by decide) (hu _ uww_630) (fun _ h9 => h9) rfl dX7_addressesOf_50 ?_
  refine lv_aload_n hx hb dX7_addressesOf_53 rfl (lv_at hl 0 rfl) ?_
  refine va_get (D := (dC, dI)) (ci := 6) (v := .long (L8 0 28)) (C := RX7) (T := TX7) (N := 44) hx hb hu uX7 hown hK hI.1 0 rfl rfl 28 (by decide) (hu _ uww_631) (fun _ h9 => h9) rfl dX7_addressesOf_54 ?_
  refine rpcalli hsz hI (va_runV (As := [.long (L8 0 27), .long (L8 0 28)]) (rest := []) ⟨hx, hb, hml, hown, hu⟩ (met_X7_isImage_0 l dC dI a kA t _ M L8 (L8 0 27) (L8 0 28) _ h) (cwl_X7_94_X7 hu ⟨by decide, by decide⟩) (rppre (ci := 6) hK hE hsz hI rfl rfl) rfl rfl hl.1 rfl (lv_room (Nat.le_of_ble_eq_true rfl)) dX7_addressesOf_57 ⟨by decide, by decide⟩) (fun r9 M10 L11 H locs h hI => ?_)
  refine lv_istore_n (lv' := [(3, .int r9), (0, .ref (a 0)), (1, .ref (a 1)), (2, .int p2)]) hx hb dX7_addressesOf_60 rfl hl (by decide) rfl (fun ls hl => ?_)
  refine lv_aload_n hx hb dX7_addressesOf_61 rfl (lv_at hl 1 rfl) ?_
  refine lv_aload_n hx hb dX7_addressesOf_62 rfl (lv_at hl 1 rfl) ?_
  refine va_get (D := (dC, dI)) (ci := 6) (v := .int (M10 0 17)) (C := RX7) (T := TX7) (N := 44) hx hb hu uX7 hown hK hI.1 0 rfl rfl 17 (by decide) (hu _ uww_578) (fun _ h9 => h9) rfl dX7_addressesOf_63 ?_
  refine rpput (ci := 6) (C := RX7) (T := TX7) (N := 44) (ty := .int) hx hb hu uX7 tyX7 tyX7_ok nmX7 hown hK hI 0 rfl rfl 25 (by decide) (hu _ uww_628) (fun _ h9 => h9) rfl (by decide +kernel) rfl rfl (Nat.le_of_ble_eq_true rfl) (rpset_0_25 _ _ _ _ _) dX7_addressesOf_66 (fun H locs M12 eM12 hI => ?_)
  have h := h M12 eM12
  refine lv_aload_n hx hb dX7_addressesOf_69 rfl (lv_at hl 1 rfl) ?_
  refine lv_aload_n hx hb dX7_addressesOf_70 rfl (lv_at hl 1 rfl) ?_
  refine va_get (D := (dC, dI)) (ci := 6) (v := .long (L11 0 29)) (C := RX7) (T := TX7) (N := 44) hx hb hu uX7 hown hK hI.1 0 rfl rfl 29 (by decide) (hu _ uww_632) (fun _ h9 => h9) rfl dX7_addressesOf_71 ?_
  refine lv_aload_n hx hb dX7_addressesOf_74 rfl (lv_at hl 1 rfl) ?_
  refine va_get (D := (dC, dI)) (ci := 6) (v := .long (L11 0 30)) (C := RX7) (T := TX7) (N := 44) hx hb hu uX7 hown hK hI.1 0 rfl rfl 30 (by decide) (hu _ uww_633) (fun _ h9 => h9) rfl dX7_addressesOf_75 ?_
  refine rpcalli hsz hI (va_runV (As := [.long (L11 0 29), .long (L11 0 30)]) (rest := []) ⟨hx, hb, hml, hown, hu⟩ (met_X7_isImage_0 l dC dI a kA t _ M12 L11 (L11 0 29) (L11 0 30) _ h) (cwl_X7_94_X7 hu ⟨by decide, by decide⟩) (rppre (ci := 6) hK hE hsz hI rfl rfl) rfl rfl hl.1 rfl (lv_room (Nat.le_of_ble_eq_true rfl)) dX7_addressesOf_78 ⟨by decide, by decide⟩) (fun r13 M14 L15 H locs h hI => ?_)
  refine lv_istore (lv' := [(4, .int r13), (3, .int r9), (0, .ref (a 0)), (1, .ref (a 1)), (2, .int p2)]) hx hb dX7_addressesOf_81 hl (by decide) rfl (fun ls hl => ?_)
  refine lv_aload_n hx hb dX7_addressesOf_83 rfl (lv_at hl 2 rfl) ?_
  refine lv_aload_n hx hb dX7_addressesOf_84 rfl (lv_at hl 2 rfl) ?_
  refine va_get (D := (dC, dI)) (ci := 6) (v := .int (M14 0 17)) (C := RX7) (T := TX7) (N := 44) hx hb hu uX7 hown hK hI.1 0 rfl rfl 17 (by decide) (hu _ uww_578) (fun _ h9 => h9) rfl dX7_addressesOf_85 ?_
  refine rpput (ci := 6) (C := RX7) (T := TX7) (N := 44) (ty := .int) hx hb hu uX7 tyX7 tyX7_ok nmX7 hown hK hI 0 rfl rfl 26 (by decide) (hu _ uww_629) (fun _ h9 => h9) rfl (by decide +kernel) rfl rfl (Nat.le_of_ble_eq_true rfl) (rpset_0_26 _ _ _ _ _) dX7_addressesOf_88 (fun H locs M16 eM16 hI => ?_)
  have h := h M16 eM16
  refine lv_iload_n hx hb dX7_addressesOf_91 rfl (lv_at hl 1 rfl) ?_
  refine lv_if_eq (tgt := 104) hx hb dX7_addressesOf_92 (by decide) (fun c17 => ?_) (fun c17 => ?_)
  · have h := h.1 c17
    refine lv_iconst (v := (0 : Int32)) hx hb dX7_addressesOf_104 (by decide) ?_
    exact rpzret (Z := (fun r M' L' => Z r M' L')) hx hb hr hlocks hK hI dX7_addressesOf_105 ⟨isB_0, h⟩
  · have h := h.2 c17
    refine lv_iload hx hb dX7_addressesOf_95 (lv_at hl 0 rfl) ?_
    refine lv_if_eq (tgt := 104) hx hb dX7_addressesOf_97 (by decide) (fun c18 => ?_) (fun c18 => ?_)
    · have h := h.1 c18
      refine lv_iconst (v := (0 : Int32)) hx hb dX7_addressesOf_104 (by decide) ?_
      exact rpzret (Z := (fun r M' L' => Z r M' L')) hx hb hr hlocks hK hI dX7_addressesOf_105 ⟨isB_0, h⟩
    · have h := h.2 c18
      refine lv_iconst (v := (1 : Int32)) hx hb dX7_addressesOf_100 (by decide) ?_
      refine lv_goto (tgt := 105) hx hb dX7_addressesOf_101 (by decide) ?_
      exact rpzret (Z := (fun r M' L' => Z r M' L')) hx hb hr hlocks hK hI dX7_addressesOf_105 ⟨isB_1, h⟩

abbrev rm_X7_isBarred6 : Room := { frames := 0, cells := 0, slots := 0, locals := 0 }
abbrev av_X7_isBarred6 (a t : Nat → Nat) (p0 : Int32) : List Value := [.int p0]
abbrev qc_X7_isBarred6 (dC : Nat → ClassId) (dI : Nat → Nat → Nat) (a : Nat → Nat) (kA : Nat → ClassId) (sz : Nat) (M : cM) (L : cL) (Z : Int32 → Prop) : Array Value → State → Outcome → State → Prop := va_Qi (fun r (u : cM × cL) => u.1 = M ∧ u.2 = L ∧ Z r) (rpAt dC dI a kA (rpA a sz)) (rpA a sz)
set_option maxHeartbeats 4000000 in
set_option maxRecDepth 100000 in
theorem met_X7_isBarred6 (l : Launch) (dC : Nat → ClassId) (dI : Nat → Nat → Nat) (a : Nat → Nat) (kA : Nat → ClassId) (t : Nat → Nat) (sz : Nat) (M : cM) (L : cL) (p0 : Int32) (Z : Int32 → Prop) (h : wp_X7_isBarred6 M L p0 Z) : Met l yX7_isBarred6 (Cond.code yX7_isBarred6 cX7_isBarred6 1 (some .boolean) :: uW) rm_X7_isBarred6 (va_Pc (av_X7_isBarred6 a t p0) (rpPre dC dI a kA t M L sz)) (qc_X7_isBarred6 dC dI a kA sz M L Z) 0 0 (rpA a sz) := by
  refine rpenter (cc := cX7_isBarred6) (n := 1) (ret := (some .boolean)) (by decide) rfl (Nat.le_of_ble_eq_true rfl) ?_
  intro p e s m below meth c ls hx hb hml hr hlocks hown hts hK hE hsz hI hl hmn
  have hu : ∀ w ∈ uW, w.before (av_X7_isBarred6 a t p0).toArray s = true := fun w h => hts w (List.mem_cons_of_mem _ h)
  have hown : s.vm.findClass RX7 = some m.cls := hown
  have hl : lv_has ls 1 [(0, .int p0)] := hl
  unfold wp_X7_isBarred6 at h
  refine lv_iload_n hx hb dX7_isBarred6_0 rfl (lv_at hl 0 rfl) ?_
  refine lv_if_eq (tgt := 38) hx hb dX7_isBarred6_1 (by decide) (fun c1 => ?_) (fun c1 => ?_)
  · have h := h.1 c1
    refine lv_iconst (v := (1 : Int32)) hx hb dX7_isBarred6_38 (by decide) ?_
    refine lv_goto (tgt := 43) hx hb dX7_isBarred6_39 (by decide) ?_
    exact rpzret (Z := (fun r M' L' => M' = M ∧ L' = L ∧ Z r)) hx hb hr hlocks hK hI dX7_isBarred6_43 ⟨isB_1, ⟨rfl, rfl, h⟩⟩
  · have h := h.2 c1
    refine lv_iload_n hx hb dX7_isBarred6_4 rfl (lv_at hl 0 rfl) ?_
    refine lv_iconst (v := (1 : Int32)) hx hb dX7_isBarred6_5 (by decide) ?_
    refine lv_icmp_eq (tgt := 38) hx hb dX7_isBarred6_6 (by decide) (fun c2 => ?_) (fun c2 => ?_)
    · have h := h.1 c2
      refine lv_iconst (v := (1 : Int32)) hx hb dX7_isBarred6_38 (by decide) ?_
      refine lv_goto (tgt := 43) hx hb dX7_isBarred6_39 (by decide) ?_
      exact rpzret (Z := (fun r M' L' => M' = M ∧ L' = L ∧ Z r)) hx hb hr hlocks hK hI dX7_isBarred6_43 ⟨isB_1, ⟨rfl, rfl, h⟩⟩
    · have h := h.2 c2
      refine lv_iload_n hx hb dX7_isBarred6_9 rfl (lv_at hl 0 rfl) ?_
      refine lv_iconst (v := (2 : Int32)) hx hb dX7_isBarred6_10 (by decide) ?_
      refine lv_icmp_eq (tgt := 38) hx hb dX7_isBarred6_11 (by decide) (fun c3 => ?_) (fun c3 => ?_)
      · have h := h.1 c3
        refine lv_iconst (v := (1 : Int32)) hx hb dX7_isBarred6_38 (by decide) ?_
        refine lv_goto (tgt := 43) hx hb dX7_isBarred6_39 (by decide) ?_
        exact rpzret (Z := (fun r M' L' => M' = M ∧ L' = L ∧ Z r)) hx hb hr hlocks hK hI dX7_isBarred6_43 ⟨isB_1, ⟨rfl, rfl, h⟩⟩
      · have h := h.2 c3
        refine lv_iload_n hx hb dX7_isBarred6_14 rfl (lv_at hl 0 rfl) ?_
        refine lv_bipush (v := (43 : Int32)) hx hb dX7_isBarred6_15 (by decide) ?_
        refine lv_icmp_eq (tgt := 38) hx hb dX7_isBarred6_17 (by decide) (fun c4 => ?_) (fun c4 => ?_)
        · have h := h.1 c4
          refine lv_iconst (v := (1 : Int32)) hx hb dX7_isBarred6_38 (by decide) ?_
          refine lv_goto (tgt := 43) hx hb dX7_isBarred6_39 (by decide) ?_
          exact rpzret (Z := (fun r M' L' => M' = M ∧ L' = L ∧ Z r)) hx hb hr hlocks hK hI dX7_isBarred6_43 ⟨isB_1, ⟨rfl, rfl, h⟩⟩
        · have h := h.2 c4
          refine lv_iload_n hx hb dX7_isBarred6_20 rfl (lv_at hl 0 rfl) ?_
          refine lv_bipush (v := (44 : Int32)) hx hb dX7_isBarred6_21 (by decide) ?_
          refine lv_icmp_eq (tgt := 38) hx hb dX7_isBarred6_23 (by decide) (fun c5 => ?_) (fun c5 => ?_)
          · have h := h.1 c5
            refine lv_iconst (v := (1 : Int32)) hx hb dX7_isBarred6_38 (by decide) ?_
            refine lv_goto (tgt := 43) hx hb dX7_isBarred6_39 (by decide) ?_
            exact rpzret (Z := (fun r M' L' => M' = M ∧ L' = L ∧ Z r)) hx hb hr hlocks hK hI dX7_isBarred6_43 ⟨isB_1, ⟨rfl, rfl, h⟩⟩
          · have h := h.2 c5
            refine lv_iload_n hx hb dX7_isBarred6_26 rfl (lv_at hl 0 rfl) ?_
            refine lv_bipush (v := (59 : Int32)) hx hb dX7_isBarred6_27 (by decide) ?_
            refine lv_icmp_eq (tgt := 38) hx hb dX7_isBarred6_29 (by decide) (fun c6 => ?_) (fun c6 => ?_)
            · have h := h.1 c6
              refine lv_iconst (v := (1 : Int32)) hx hb dX7_isBarred6_38 (by decide) ?_
              refine lv_goto (tgt := 43) hx hb dX7_isBarred6_39 (by decide) ?_
              exact rpzret (Z := (fun r M' L' => M' = M ∧ L' = L ∧ Z r)) hx hb hr hlocks hK hI dX7_isBarred6_43 ⟨isB_1, ⟨rfl, rfl, h⟩⟩
            · have h := h.2 c6
              refine lv_iload_n hx hb dX7_isBarred6_32 rfl (lv_at hl 0 rfl) ?_
              refine lv_bipush (v := (60 : Int32)) hx hb dX7_isBarred6_33 (by decide) ?_
              refine lv_icmp_ne (tgt := 42) hx hb dX7_isBarred6_35 (by decide) (fun c7 => ?_) (fun c7 => ?_)
              · have h := h.1 c7
                refine lv_iconst (v := (0 : Int32)) hx hb dX7_isBarred6_42 (by decide) ?_
                exact rpzret (Z := (fun r M' L' => M' = M ∧ L' = L ∧ Z r)) hx hb hr hlocks hK hI dX7_isBarred6_43 ⟨isB_0, ⟨rfl, rfl, h⟩⟩
              · have h := h.2 c7
                refine lv_iconst (v := (1 : Int32)) hx hb dX7_isBarred6_38 (by decide) ?_
                refine lv_goto (tgt := 43) hx hb dX7_isBarred6_39 (by decide) ?_
                exact rpzret (Z := (fun r M' L' => M' = M ∧ L' = L ∧ Z r)) hx hb hr hlocks hK hI dX7_isBarred6_43 ⟨isB_1, ⟨rfl, rfl, h⟩⟩

abbrev rm_X7_class6_0 : Room := { frames := 3, cells := 0, slots := 0, locals := 63 }
abbrev av_X7_class6_0 (a t : Nat → Nat) (p1 : Int32) : List Value := [.ref (a 0), .int p1]
abbrev qc_X7_class6_0 (dC : Nat → ClassId) (dI : Nat → Nat → Nat) (a : Nat → Nat) (kA : Nat → ClassId) (sz : Nat) (M : cM) (L : cL) (Z : Int32 → Prop) : Array Value → State → Outcome → State → Prop := va_Qi (fun r (u : cM × cL) => u.1 = M ∧ u.2 = L ∧ Z r) (rpAt dC dI a kA (rpA a sz)) (rpA a sz)
set_option maxHeartbeats 4000000 in
set_option maxRecDepth 100000 in
theorem met_X7_class6_0 (l : Launch) (dC : Nat → ClassId) (dI : Nat → Nat → Nat) (a : Nat → Nat) (kA : Nat → ClassId) (t : Nat → Nat) (sz : Nat) (M : cM) (L : cL) (p1 : Int32) (Z : Int32 → Prop) (h : wp_X7_class6_0 M L p1 Z) : Met l yX7_class6 (Cond.code yX7_class6 cX7_class6 2 (some .int) :: uW) rm_X7_class6_0 (va_Pc (av_X7_class6_0 a t p1) (rpPre dC dI a kA t M L sz)) (qc_X7_class6_0 dC dI a kA sz M L Z) 0 0 (rpA a sz) := by
  refine rpenter (cc := cX7_class6) (n := 2) (ret := (some .int)) (by decide) rfl (Nat.le_of_ble_eq_true rfl) ?_
  intro p e s m below meth c ls hx hb hml hr hlocks hown hts hK hE hsz hI hl hmn
  have hu : ∀ w ∈ uW, w.before (av_X7_class6_0 a t p1).toArray s = true := fun w h => hts w (List.mem_cons_of_mem _ h)
  have hown : s.vm.findClass RX7 = some m.cls := hown
  have hl : lv_has ls 2 [(0, .ref (a 0)), (1, .int p1)] := hl
  unfold wp_X7_class6_0 at h
  refine lv_aload_n hx hb dX7_class6_0 rfl (lv_at hl 0 rfl) ?_
  refine va_get (D := (dC, dI)) (ci := 6) (v := .ref (a 1)) (C := RX7) (T := TX7) (N := 44) hx hb hu uX7 hown hK hI.1 0 rfl rfl 1 (by decide) (hu _ uww_538) (fun _ h9 => h9) rfl dX7_class6_1 ?_
  refine lv_iload_n hx hb dX7_class6_4 rfl (lv_at hl 1 rfl) ?_
  refine rpcalli_p hsz hI (va_runS (As := [.ref (a 1), .int p1]) (rest := []) ⟨hx, hb, hml, hown, hu⟩ (met_X7_intAt_1 l dC dI a kA t _ M L p1 _ h) (cwl_X7_118_S hu ⟨by decide, by decide⟩) (rppreS hK hE hsz hI) rfl rfl hl.1 rfl (lv_room (Nat.le_of_ble_eq_true rfl)) dX7_class6_5 ⟨by decide, by decide⟩) (fun r1 H locs h hI => ?_)
  refine lv_bipush (v := (20 : Int32)) hx hb dX7_class6_8 (by decide) ?_
  refine lv_ishr hx hb dX7_class6_10 ?_
  refine lv_sipush (v := (255 : Int32)) hx hb dX7_class6_11 (by decide) ?_
  refine lv_iand hx hb dX7_class6_14 ?_
  exact rpiret (Z := (fun r M' L' => M' = M ∧ L' = L ∧ Z r)) hx hb hr hlocks hK hI dX7_class6_15 ⟨rfl, rfl, h⟩
