abbrev rm_X7_innerToSix_0 : Room := { frames := 6, cells := 0, slots := 0, locals := 140 }
abbrev av_X7_innerToSix_0 (a t : Nat → Nat) (p1 : Int32) (p2 : Int32) : List Value := [.ref (a 0), .int p1, .int p2]
abbrev qc_X7_innerToSix_0 (dC : Nat → ClassId) (dI : Nat → Nat → Nat) (a : Nat → Nat) (kA : Nat → ClassId) (sz : Nat) (M : cM) (L : cL) (Z : Int32 → cM → cL → Prop) : Array Value → State → Outcome → State → Prop := va_Qi (fun r (u : cM × cL) => Z r u.1 u.2) (rpAt dC dI a kA (rpA a sz)) (rpA a sz)
set_option maxHeartbeats 4000000 in
set_option maxRecDepth 100000 in
theorem met_X7_innerToSix_0 (l : Launch) (dC : Nat → ClassId) (dI : Nat → Nat → Nat) (a : Nat → Nat) (kA : Nat → ClassId) (t : Nat → Nat) (sz : Nat) (M : cM) (L : cL) (p1 : Int32) (p2 : Int32) (Z : Int32 → cM → cL → Prop) (h : wp_X7_innerToSix_0 M L p1 p2 Z) : Met l yX7_innerToSix (Cond.code yX7_innerToSix cX7_innerToSix 9 (some .boolean) :: uW) rm_X7_innerToSix_0 (va_Pc (av_X7_innerToSix_0 a t p1 p2) (rpPre dC dI a kA t M L sz)) (qc_X7_innerToSix_0 dC dI a kA sz M L Z) 0 0 (rpA a sz) := by
  refine rpenter (cc := cX7_innerToSix) (n := 9) (ret := (some .boolean)) (by decide) rfl (Nat.le_of_ble_eq_true rfl) ?_
  intro p e s m below meth c ls hx hb hml hr hlocks hown hts hK hE hsz hI hl hmn
  have hu : ∀ w ∈ uW, w.before (av_X7_innerToSix_0 a t p1 p2).toArray s = true := fun w h => hts w (List.mem_cons_of_mem _ h)
  have hown : s.vm.findClass RX7 = some m.cls := hown
  have hl : lv_has ls 9 [(0, .ref (a 0)), (1, .int p1), (2, .int p2)] := hl
  unfold wp_X7_innerToSix_0 at h
  refine lv_iload_n hx hb dX7_innerToSix_0 rfl (lv_at hl 2 rfl) ?_
  refine lv_bipush (v := (20 : Int32)) hx hb dX7_innerToSix_1 (by decide) ?_
  refine lv_icmp_lt (tgt := 20) hx hb dX7_innerToSix_3 (by decide) (fun c1 => ?_) (fun c1 => ?_)
  · have h := h.1 c1
    refine lv_iconst (v := (0 : Int32)) hx hb dX7_innerToSix_20 (by decide) ?_
    exact rpzret (Z := (fun r M' L' => Z r M' L')) hx hb hr hlocks hK hI dX7_innerToSix_21 ⟨isB_0, h⟩
  · have h := h.2 c1
    refine lv_aload_n hx hb dX7_innerToSix_6 rfl (lv_at hl 0 rfl) ?_
    refine va_get (D := (dC, dI)) (ci := 6) (v := .ref (a 1)) (C := RX7) (T := TX7) (N := 44) hx hb hu uX7 hown hK hI.1 0 rfl rfl 1 (by decide) (hu _ uww_538) (fun _ h9 => h9) rfl dX7_innerToSix_7 ?_
    refine lv_iload_n hx hb dX7_innerToSix_10 rfl (lv_at hl 1 rfl) ?_
    refine rpcalli_p hsz hI (va_runS (As := [.ref (a 1), .int p1]) (rest := []) ⟨hx, hb, hml, hown, hu⟩ (met_X7_octetAt_1 l dC dI a kA t _ M L p1 _ h) (cwl_X7_111_S hu ⟨by decide, by decide⟩) (rppreS hK hE hsz hI) rfl rfl hl.1 rfl (lv_room (Nat.le_of_ble_eq_true rfl)) dX7_innerToSix_11 ⟨by decide, by decide⟩) (fun r2 H locs h hI => ?_)
    refine lv_iconst (v := (4 : Int32)) hx hb dX7_innerToSix_14 (by decide) ?_
    refine lv_ishr hx hb dX7_innerToSix_15 ?_
    refine lv_iconst (v := (4 : Int32)) hx hb dX7_innerToSix_16 (by decide) ?_
    refine lv_icmp_eq (tgt := 22) hx hb dX7_innerToSix_17 (by decide) (fun c3 => ?_) (fun c3 => ?_)
    · have h := h.1 c3
      refine lv_aload_n hx hb dX7_innerToSix_22 rfl (lv_at hl 0 rfl) ?_
      refine lv_iload_n hx hb dX7_innerToSix_23 rfl (lv_at hl 1 rfl) ?_
      refine rpcallv_m hsz hI (va_runV (As := [.int p1]) (rest := []) ⟨hx, hb, hml, hown, hu⟩ (met_X7_header4_0 l dC dI a kA t _ M L p1 _ h) (cwl_X7_203_X7 hu ⟨by decide, by decide⟩) (rppre (ci := 6) hK hE hsz hI rfl rfl) rfl rfl hl.1 rfl (lv_room (Nat.le_of_ble_eq_true rfl)) dX7_innerToSix_24 ⟨by decide, by decide⟩) (fun M4 H locs h hI => ?_)
      refine lv_aload_n hx hb dX7_innerToSix_27 rfl (lv_at hl 0 rfl) ?_
      refine va_get (D := (dC, dI)) (ci := 6) (v := .int (M4 0 31)) (C := RX7) (T := TX7) (N := 44) hx hb hu uX7 hown hK hI.1 0 rfl rfl 31 (by decide) (hu _ uww_667) (fun _ h9 => h9) rfl dX7_innerToSix_28 ?_
      refine lv_bipush (v := (20 : Int32)) hx hb dX7_innerToSix_31 (by decide) ?_
      refine lv_icmp_lt (tgt := 94) hx hb dX7_innerToSix_33 (by decide) (fun c5 => ?_) (fun c5 => ?_)
      · have h := h.1 c5
        refine lv_iconst (v := (0 : Int32)) hx hb dX7_innerToSix_94 (by decide) ?_
        exact rpzret (Z := (fun r M' L' => Z r M' L')) hx hb hr hlocks hK hI dX7_innerToSix_95 ⟨isB_0, h⟩
      · have h := h.2 c5
        refine lv_iload_n hx hb dX7_innerToSix_36 rfl (lv_at hl 2 rfl) ?_
        refine lv_aload_n hx hb dX7_innerToSix_37 rfl (lv_at hl 0 rfl) ?_
        refine va_get (D := (dC, dI)) (ci := 6) (v := .int (M4 0 31)) (C := RX7) (T := TX7) (N := 44) hx hb hu uX7 hown hK hI.1 0 rfl rfl 31 (by decide) (hu _ uww_667) (fun _ h9 => h9) rfl dX7_innerToSix_38 ?_
        refine lv_icmp_lt (tgt := 94) hx hb dX7_innerToSix_41 (by decide) (fun c6 => ?_) (fun c6 => ?_)
        · have h := h.1 c6
          refine lv_iconst (v := (0 : Int32)) hx hb dX7_innerToSix_94 (by decide) ?_
          exact rpzret (Z := (fun r M' L' => Z r M' L')) hx hb hr hlocks hK hI dX7_innerToSix_95 ⟨isB_0, h⟩
        · have h := h.2 c6
          refine lv_aload_n hx hb dX7_innerToSix_44 rfl (lv_at hl 0 rfl) ?_
          refine va_get (D := (dC, dI)) (ci := 6) (v := .int (M4 0 32)) (C := RX7) (T := TX7) (N := 44) hx hb hu uX7 hown hK hI.1 0 rfl rfl 32 (by decide) (hu _ uww_668) (fun _ h9 => h9) rfl dX7_innerToSix_45 ?_
          refine lv_aload_n hx hb dX7_innerToSix_48 rfl (lv_at hl 0 rfl) ?_
          refine va_get (D := (dC, dI)) (ci := 6) (v := .int (M4 0 31)) (C := RX7) (T := TX7) (N := 44) hx hb hu uX7 hown hK hI.1 0 rfl rfl 31 (by decide) (hu _ uww_667) (fun _ h9 => h9) rfl dX7_innerToSix_49 ?_
          refine lv_icmp_lt (tgt := 94) hx hb dX7_innerToSix_52 (by decide) (fun c7 => ?_) (fun c7 => ?_)
          · have h := h.1 c7
            refine lv_iconst (v := (0 : Int32)) hx hb dX7_innerToSix_94 (by decide) ?_
            exact rpzret (Z := (fun r M' L' => Z r M' L')) hx hb hr hlocks hK hI dX7_innerToSix_95 ⟨isB_0, h⟩
          · have h := h.2 c7
            refine lv_aload_n hx hb dX7_innerToSix_55 rfl (lv_at hl 0 rfl) ?_
            refine lv_aload_n hx hb dX7_innerToSix_56 rfl (lv_at hl 0 rfl) ?_
            refine va_get (D := (dC, dI)) (ci := 6) (v := .ref (a 1)) (C := RX7) (T := TX7) (N := 44) hx hb hu uX7 hown hK hI.1 0 rfl rfl 1 (by decide) (hu _ uww_538) (fun _ h9 => h9) rfl dX7_innerToSix_57 ?_
            refine lv_iload_n hx hb dX7_innerToSix_60 rfl (lv_at hl 1 rfl) ?_
            refine lv_bipush (v := (12 : Int32)) hx hb dX7_innerToSix_61 (by decide) ?_
            refine lv_iadd hx hb dX7_innerToSix_63 ?_
            refine rpcalli_p hsz hI (va_runS (As := [.ref (a 1), .int (p1 + (12 : Int32))]) (rest := [.ref (a 0)]) ⟨hx, hb, hml, hown, hu⟩ (met_X7_intAt_1 l dC dI a kA t _ M4 L (p1 + (12 : Int32)) _ h) (cwl_X7_118_S hu ⟨by decide, by decide⟩) (rppreS hK hE hsz hI) rfl rfl hl.1 rfl (lv_room (Nat.le_of_ble_eq_true rfl)) dX7_innerToSix_64 ⟨by decide, by decide⟩) (fun r8 H locs h hI => ?_)
            refine lv_aload_n hx hb dX7_innerToSix_67 rfl (lv_at hl 0 rfl) ?_
            refine va_get (D := (dC, dI)) (ci := 6) (v := .ref (a 1)) (C := RX7) (T := TX7) (N := 44) hx hb hu uX7 hown hK hI.1 0 rfl rfl 1 (by decide) (hu _ uww_538) (fun _ h9 => h9) rfl dX7_innerToSix_68 ?_
            refine lv_iload_n hx hb dX7_innerToSix_71 rfl (lv_at hl 1 rfl) ?_
            refine lv_bipush (v := (16 : Int32)) hx hb dX7_innerToSix_72 (by decide) ?_
            refine lv_iadd hx hb dX7_innerToSix_74 ?_
            refine rpcalli_p hsz hI (va_runS (As := [.ref (a 1), .int (p1 + (16 : Int32))]) (rest := [.int r8, .ref (a 0)]) ⟨hx, hb, hml, hown, hu⟩ (met_X7_intAt_1 l dC dI a kA t _ M4 L (p1 + (16 : Int32)) _ h) (cwl_X7_118_S hu ⟨by decide, by decide⟩) (rppreS hK hE hsz hI) rfl rfl hl.1 rfl (lv_room (Nat.le_of_ble_eq_true rfl)) dX7_innerToSix_75 ⟨by decide, by decide⟩) (fun r9 H locs h hI => ?_)
            refine rpcalli hsz hI (va_runV (As := [.int r8, .int r9]) (rest := []) ⟨hx, hb, hml, hown, hu⟩ (met_X7_imagesOf_0 l dC dI a kA t _ M4 L r8 r9 _ h) (cwl_X7_232_X7 hu ⟨by decide, by decide⟩) (rppre (ci := 6) hK hE hsz hI rfl rfl) rfl rfl hl.1 rfl (lv_room (Nat.le_of_ble_eq_true rfl)) dX7_innerToSix_78 ⟨by decide, by decide⟩) (fun r10 M11 L12 H locs h hI => ?_)
            refine lv_if_eq (tgt := 94) hx hb dX7_innerToSix_81 (by decide) (fun c13 => ?_) (fun c13 => ?_)
            · have h := h.1 c13
              refine lv_iconst (v := (0 : Int32)) hx hb dX7_innerToSix_94 (by decide) ?_
              exact rpzret (Z := (fun r M' L' => Z r M' L')) hx hb hr hlocks hK hI dX7_innerToSix_95 ⟨isB_0, h⟩
            · have h := h.2 c13
              refine lv_aload_n hx hb dX7_innerToSix_84 rfl (lv_at hl 0 rfl) ?_
              refine va_get (D := (dC, dI)) (ci := 6) (v := .int (M11 0 35)) (C := RX7) (T := TX7) (N := 44) hx hb hu uX7 hown hK hI.1 0 rfl rfl 35 (by decide) (hu _ uww_671) (fun _ h9 => h9) rfl dX7_innerToSix_85 ?_
              refine rpcalli_p hsz hI (va_runS (As := [.int (M11 0 35)]) (rest := []) ⟨hx, hb, hml, hown, hu⟩ (met_X7_isBarred4 l dC dI a kA t _ M11 L12 (M11 0 35) _ h) (cwl_X7_240_S hu ⟨by decide, by decide⟩) (rppreS hK hE hsz hI) rfl rfl hl.1 rfl (lv_room (Nat.le_of_ble_eq_true rfl)) dX7_innerToSix_88 ⟨by decide, by decide⟩) (fun r14 H locs h hI => ?_)
              refine lv_if_eq (tgt := 96) hx hb dX7_innerToSix_91 (by decide) (fun c15 => ?_) (fun c15 => ?_)
              · have h := h.1 c15
                refine lv_iload_n hx hb dX7_innerToSix_96 rfl (lv_at hl 2 rfl) ?_
                refine lv_aload_n hx hb dX7_innerToSix_97 rfl (lv_at hl 0 rfl) ?_
                refine va_get (D := (dC, dI)) (ci := 6) (v := .int (M11 0 32)) (C := RX7) (T := TX7) (N := 44) hx hb hu uX7 hown hK hI.1 0 rfl rfl 32 (by decide) (hu _ uww_668) (fun _ h9 => h9) rfl dX7_innerToSix_98 ?_
                obtain ⟨K112, hK112, h⟩ := h
                have J112 : ∀ (v16 : Int32) (H : Heap) (locs : List Loc) (ls : Array Slot), K112 v16 → rpI dC dI a kA (rpA a sz) s M11 L12 H locs → lv_has ls 9 [(0, .ref (a 0)), (1, .int p1)] → W p l e rm_X7_innerToSix_0 s m (av_X7_innerToSix_0 a t p1 p2).toArray below meth c H locs 0 0 (MQ below (qc_X7_innerToSix_0 dC dI a kA sz M L Z) (av_X7_innerToSix_0 a t p1 p2).toArray s 0 0 (rpA a sz)) (F0 m 112 ls [.int v16]) := by
                  intro v16 H locs ls h hI hl
                  have h := hK112 v16 h
                  refine lv_aload_n hx hb dX7_innerToSix_112 rfl (lv_at hl 0 rfl) ?_
                  refine va_get (D := (dC, dI)) (ci := 6) (v := .int (M11 0 31)) (C := RX7) (T := TX7) (N := 44) hx hb hu uX7 hown hK hI.1 0 rfl rfl 31 (by decide) (hu _ uww_667) (fun _ h9 => h9) rfl dX7_innerToSix_113 ?_
                  refine lv_isub hx hb dX7_innerToSix_116 ?_
                  refine lv_topi (fun x17 ex17 => ?_)
                  have h := h x17 ex17
                  refine lv_istore_n (lv' := [(3, .int x17), (0, .ref (a 0)), (1, .int p1)]) hx hb dX7_innerToSix_117 rfl hl (by decide) rfl (fun ls hl => ?_)
                  refine lv_aload_n hx hb dX7_innerToSix_118 rfl (lv_at hl 1 rfl) ?_
                  refine va_get (D := (dC, dI)) (ci := 6) (v := .int (M11 0 34)) (C := RX7) (T := TX7) (N := 44) hx hb hu uX7 hown hK hI.1 0 rfl rfl 34 (by decide) (hu _ uww_670) (fun _ h9 => h9) rfl dX7_innerToSix_119 ?_
                  obtain ⟨K137, hK137, h⟩ := h
                  have J137 : ∀ (v18 : Int32) (H : Heap) (locs : List Loc) (ls : Array Slot), K137 v18 → rpI dC dI a kA (rpA a sz) s M11 L12 H locs → lv_has ls 9 [(0, .ref (a 0)), (1, .int p1), (3, .int x17)] → W p l e rm_X7_innerToSix_0 s m (av_X7_innerToSix_0 a t p1 p2).toArray below meth c H locs 0 0 (MQ below (qc_X7_innerToSix_0 dC dI a kA sz M L Z) (av_X7_innerToSix_0 a t p1 p2).toArray s 0 0 (rpA a sz)) (F0 m 137 ls [.int v18]) := by
                    intro v18 H locs ls h hI hl
                    have h := hK137 v18 h
                    refine lv_istore (lv' := [(4, .int v18), (0, .ref (a 0)), (1, .int p1), (3, .int x17)]) hx hb dX7_innerToSix_137 hl (by decide) rfl (fun ls hl => ?_)
                    refine lv_aload_n hx hb dX7_innerToSix_139 rfl (lv_at hl 1 rfl) ?_
                    refine va_get (D := (dC, dI)) (ci := 6) (v := .int (M11 0 35)) (C := RX7) (T := TX7) (N := 44) hx hb hu uX7 hown hK hI.1 0 rfl rfl 35 (by decide) (hu _ uww_671) (fun _ h9 => h9) rfl dX7_innerToSix_140 ?_
                    refine lv_iconst (v := (1 : Int32)) hx hb dX7_innerToSix_143 (by decide) ?_
                    obtain ⟨K189, hK189, h⟩ := h
                    have J189 : ∀  (H : Heap) (locs : List Loc) (ls : Array Slot), K189  → rpI dC dI a kA (rpA a sz) s M11 L12 H locs → lv_has ls 9 [(0, .ref (a 0)), (1, .int p1), (3, .int x17), (4, .int v18)] → W p l e rm_X7_innerToSix_0 s m (av_X7_innerToSix_0 a t p1 p2).toArray below meth c H locs 0 0 (MQ below (qc_X7_innerToSix_0 dC dI a kA sz M L Z) (av_X7_innerToSix_0 a t p1 p2).toArray s 0 0 (rpA a sz)) (F0 m 189 ls []) := by
                      intro  H locs ls h hI hl
                      have h := hK189  h
                      refine lv_iload hx hb dX7_innerToSix_189 (lv_at hl 3 rfl) ?_
                      obtain ⟨K201, hK201, h⟩ := h
                      have J201 : ∀ (v19 : Int32) (H : Heap) (locs : List Loc) (ls : Array Slot), K201 v19 → rpI dC dI a kA (rpA a sz) s M11 L12 H locs → lv_has ls 9 [(0, .ref (a 0)), (1, .int p1), (3, .int x17), (4, .int v18)] → W p l e rm_X7_innerToSix_0 s m (av_X7_innerToSix_0 a t p1 p2).toArray below meth c H locs 0 0 (MQ below (qc_X7_innerToSix_0 dC dI a kA sz M L Z) (av_X7_innerToSix_0 a t p1 p2).toArray s 0 0 (rpA a sz)) (F0 m 201 ls [.int v19]) := by
                        intro v19 H locs ls h hI hl
                        have h := hK201 v19 h
                        refine lv_istore (lv' := [(5, .int v19), (0, .ref (a 0)), (1, .int p1), (3, .int x17), (4, .int v18)]) hx hb dX7_innerToSix_201 hl (by decide) rfl (fun ls hl => ?_)
                        refine lv_aload_n hx hb dX7_innerToSix_203 rfl (lv_at hl 1 rfl) ?_
                        refine va_get (D := (dC, dI)) (ci := 6) (v := .int (M11 0 20)) (C := RX7) (T := TX7) (N := 44) hx hb hu uX7 hown hK hI.1 0 rfl rfl 20 (by decide) (hu _ uww_622) (fun _ h9 => h9) rfl dX7_innerToSix_204 ?_
                        refine lv_topi (fun x20 ex20 => ?_)
                        have h := h x20 ex20
                        refine lv_istore (lv' := [(6, .int x20), (5, .int v19), (0, .ref (a 0)), (1, .int p1), (3, .int x17), (4, .int v18)]) hx hb dX7_innerToSix_207 hl (by decide) rfl (fun ls hl => ?_)
                        refine lv_aload_n hx hb dX7_innerToSix_209 rfl (lv_at hl 2 rfl) ?_
                        refine lv_iload hx hb dX7_innerToSix_210 (lv_at hl 1 rfl) ?_
                        refine rpcalli_m hsz hI (va_runV (As := [.int v19]) (rest := []) ⟨hx, hb, hml, hown, hu⟩ (met_X7_more_0 l dC dI a kA t _ M11 L12 v19 _ h) (cwl_X7_217_X7 hu ⟨by decide, by decide⟩) (rppre (ci := 6) hK hE hsz hI rfl rfl) rfl rfl hl.1 rfl (lv_room (Nat.le_of_ble_eq_true rfl)) dX7_innerToSix_212 ⟨by decide, by decide⟩) (fun r21 M22 H locs h hI => ?_)
                        refine lv_istore (lv' := [(7, .int r21), (6, .int x20), (5, .int v19), (0, .ref (a 0)), (1, .int p1), (3, .int x17), (4, .int v18)]) hx hb dX7_innerToSix_215 hl (by decide) rfl (fun ls hl => ?_)
                        refine lv_aload_n hx hb dX7_innerToSix_217 rfl (lv_at hl 3 rfl) ?_
                        refine lv_iload hx hb dX7_innerToSix_218 (lv_at hl 0 rfl) ?_
                        refine lv_aload_n hx hb dX7_innerToSix_220 rfl (lv_at hl 3 rfl) ?_
                        refine va_get (D := (dC, dI)) (ci := 6) (v := .ref (a 1)) (C := RX7) (T := TX7) (N := 44) hx hb hu uX7 hown hK hI.1 0 rfl rfl 1 (by decide) (hu _ uww_538) (fun _ h9 => h9) rfl dX7_innerToSix_221 ?_
                        refine lv_iload_n hx hb dX7_innerToSix_224 rfl (lv_at hl 4 rfl) ?_
                        refine lv_iconst (v := (1 : Int32)) hx hb dX7_innerToSix_225 (by decide) ?_
                        refine lv_iadd hx hb dX7_innerToSix_226 ?_
                        refine rpcalli_p hsz hI (va_runS (As := [.ref (a 1), .int (p1 + (1 : Int32))]) (rest := [.int r21, .ref (a 0)]) ⟨hx, hb, hml, hown, hu⟩ (met_X7_octetAt_1 l dC dI a kA t _ M22 L12 (p1 + (1 : Int32)) _ h) (cwl_X7_111_S hu ⟨by decide, by decide⟩) (rppreS hK hE hsz hI) rfl rfl hl.1 rfl (lv_room (Nat.le_of_ble_eq_true rfl)) dX7_innerToSix_227 ⟨by decide, by decide⟩) (fun r23 H locs h hI => ?_)
                        refine lv_iload hx hb dX7_innerToSix_230 (lv_at hl 2 rfl) ?_
                        refine lv_bipush (v := (40 : Int32)) hx hb dX7_innerToSix_232 (by decide) ?_
                        refine lv_isub hx hb dX7_innerToSix_234 ?_
                        refine lv_aload_n hx hb dX7_innerToSix_235 rfl (lv_at hl 3 rfl) ?_
                        refine va_get (D := (dC, dI)) (ci := 6) (v := .int (M22 0 32)) (C := RX7) (T := TX7) (N := 44) hx hb hu uX7 hown hK hI.1 0 rfl rfl 32 (by decide) (hu _ uww_668) (fun _ h9 => h9) rfl dX7_innerToSix_236 ?_
                        refine lv_iadd hx hb dX7_innerToSix_239 ?_
                        refine lv_aload_n hx hb dX7_innerToSix_240 rfl (lv_at hl 3 rfl) ?_
                        refine va_get (D := (dC, dI)) (ci := 6) (v := .int (M22 0 31)) (C := RX7) (T := TX7) (N := 44) hx hb hu uX7 hown hK hI.1 0 rfl rfl 31 (by decide) (hu _ uww_667) (fun _ h9 => h9) rfl dX7_innerToSix_241 ?_
                        refine lv_isub hx hb dX7_innerToSix_244 ?_
                        refine lv_aload_n hx hb dX7_innerToSix_245 rfl (lv_at hl 3 rfl) ?_
                        refine va_get (D := (dC, dI)) (ci := 6) (v := .ref (a 1)) (C := RX7) (T := TX7) (N := 44) hx hb hu uX7 hown hK hI.1 0 rfl rfl 1 (by decide) (hu _ uww_538) (fun _ h9 => h9) rfl dX7_innerToSix_246 ?_
                        refine lv_iload_n hx hb dX7_innerToSix_249 rfl (lv_at hl 4 rfl) ?_
                        refine lv_bipush (v := (8 : Int32)) hx hb dX7_innerToSix_250 (by decide) ?_
                        refine lv_iadd hx hb dX7_innerToSix_252 ?_
                        refine rpcalli_p hsz hI (va_runS (As := [.ref (a 1), .int (p1 + (8 : Int32))]) (rest := [.int (((v19 - (40 : Int32)) + (M22 0 32)) - (M22 0 31)), .int r23, .int r21, .ref (a 0)]) ⟨hx, hb, hml, hown, hu⟩ (met_X7_octetAt_1 l dC dI a kA t _ M22 L12 (p1 + (8 : Int32)) _ h) (cwl_X7_111_S hu ⟨by decide, by decide⟩) (rppreS hK hE hsz hI) rfl rfl hl.1 rfl (lv_room (Nat.le_of_ble_eq_true rfl)) dX7_innerToSix_253 ⟨by decide, by decide⟩) (fun r24 H locs h hI => ?_)
                        refine lv_iload hx hb dX7_innerToSix_256 (lv_at hl 6 rfl) ?_
                        refine lv_aload_n hx hb dX7_innerToSix_258 rfl (lv_at hl 3 rfl) ?_
                        refine va_get (D := (dC, dI)) (ci := 6) (v := .int (M22 0 33)) (C := RX7) (T := TX7) (N := 44) hx hb hu uX7 hown hK hI.1 0 rfl rfl 33 (by decide) (hu _ uww_669) (fun _ h9 => h9) rfl dX7_innerToSix_259 ?_
                        refine lv_aload_n hx hb dX7_innerToSix_262 rfl (lv_at hl 3 rfl) ?_
                        refine va_get (D := (dC, dI)) (ci := 6) (v := .int (M22 0 34)) (C := RX7) (T := TX7) (N := 44) hx hb hu uX7 hown hK hI.1 0 rfl rfl 34 (by decide) (hu _ uww_670) (fun _ h9 => h9) rfl dX7_innerToSix_263 ?_
                        refine lv_aload_n hx hb dX7_innerToSix_266 rfl (lv_at hl 3 rfl) ?_
                        refine va_get (D := (dC, dI)) (ci := 6) (v := .ref (a 1)) (C := RX7) (T := TX7) (N := 44) hx hb hu uX7 hown hK hI.1 0 rfl rfl 1 (by decide) (hu _ uww_538) (fun _ h9 => h9) rfl dX7_innerToSix_267 ?_
                        refine lv_iload_n hx hb dX7_innerToSix_270 rfl (lv_at hl 4 rfl) ?_
                        refine lv_iconst (v := (4 : Int32)) hx hb dX7_innerToSix_271 (by decide) ?_
                        refine lv_iadd hx hb dX7_innerToSix_272 ?_
                        refine rpcalli_p hsz hI (va_runS (As := [.ref (a 1), .int (p1 + (4 : Int32))]) (rest := [.int (M22 0 34), .int (M22 0 33), .int v18, .int r24, .int (((v19 - (40 : Int32)) + (M22 0 32)) - (M22 0 31)), .int r23, .int r21, .ref (a 0)]) ⟨hx, hb, hml, hown, hu⟩ (met_X7_twoAt_1 l dC dI a kA t _ M22 L12 (p1 + (4 : Int32)) _ h) (cwl_X7_115_S hu ⟨by decide, by decide⟩) (rppreS hK hE hsz hI) rfl rfl hl.1 rfl (lv_room (Nat.le_of_ble_eq_true rfl)) dX7_innerToSix_273 ⟨by decide, by decide⟩) (fun r25 H locs h hI => ?_)
                        refine rpcallv_m hsz hI (va_runV (As := [.int r21, .int r23, .int (((v19 - (40 : Int32)) + (M22 0 32)) - (M22 0 31)), .int r24, .int v18, .int (M22 0 33), .int (M22 0 34), .int r25]) (rest := []) ⟨hx, hb, hml, hown, hu⟩ (met_X7_head6_0 l dC dI a kA t _ M22 L12 r21 r23 (((v19 - (40 : Int32)) + (M22 0 32)) - (M22 0 31)) r24 v18 (M22 0 33) (M22 0 34) r25 _ h) (cwl_X7_260_X7 hu ⟨by decide, by decide⟩) (rppre (ci := 6) hK hE hsz hI rfl rfl) rfl rfl hl.1 rfl (lv_room (Nat.le_of_ble_eq_true rfl)) dX7_innerToSix_276 ⟨by decide, by decide⟩) (fun M26 H locs h hI => ?_)
                        refine lv_iconst (v := (0 : Int32)) hx hb dX7_innerToSix_279 (by decide) ?_
                        refine lv_istore (lv' := [(8, .int (0 : Int32)), (7, .int r21), (6, .int x20), (5, .int v19), (0, .ref (a 0)), (1, .int p1), (3, .int x17), (4, .int v18)]) hx hb dX7_innerToSix_280 hl (by decide) rfl (fun ls hl => ?_)
                        obtain ⟨I282, m282, h, hs282⟩ := h
                        have P282 : ∀ (n282 : Nat) (x27 : Int32) (M28 : cM) (H : Heap) (locs : List Loc) (ls : Array Slot), I282 x27 M28 → m282 x27 M28 < n282 → rpI dC dI a kA (rpA a sz) s M28 L12 H locs → lv_has ls 9 [(0, .ref (a 0)), (1, .int p1), (3, .int x17), (5, .int v19), (6, .int x20), (7, .int r21), (8, .int x27)] → W p l e rm_X7_innerToSix_0 s m (av_X7_innerToSix_0 a t p1 p2).toArray below meth c H locs 0 0 (MQ below (qc_X7_innerToSix_0 dC dI a kA sz M L Z) (av_X7_innerToSix_0 a t p1 p2).toArray s 0 0 (rpA a sz)) (F0 m 282 ls []) := by
                          intro n282
                          induction n282 with
                          | zero => intro x27 M28 H locs ls _ hn; exact absurd hn (Nat.not_lt_zero _)
                          | succ n282 ih282 =>
                            intro x27 M28 H locs ls h hn282 hI hl
                            have h := hs282 x27 M28 h
                            refine lv_iload hx hb dX7_innerToSix_282 (lv_at hl 6 rfl) ?_
                            refine lv_iload hx hb dX7_innerToSix_284 (lv_at hl 3 rfl) ?_
                            refine lv_icmp_ge (tgt := 315) hx hb dX7_innerToSix_286 (by decide) (fun c29 => ?_) (fun c29 => ?_)
                            · have h := h.1 c29
                              refine lv_aload_n hx hb dX7_innerToSix_315 rfl (lv_at hl 0 rfl) ?_
                              refine lv_iload hx hb dX7_innerToSix_316 (lv_at hl 4 rfl) ?_
                              refine rpput (ci := 6) (C := RX7) (T := TX7) (N := 44) (ty := .int) hx hb hu uX7 tyX7 tyX7_ok nmX7 hown hK hI 0 rfl rfl 20 (by decide) (hu _ uww_622) (fun _ h9 => h9) rfl (by decide +kernel) rfl rfl (Nat.le_of_ble_eq_true rfl) (rpset_0_20 _ _ _ _ _) dX7_innerToSix_318 (fun H locs M30 eM30 hI => ?_)
                              have h := h M30 eM30
                              refine lv_iconst (v := (0 : Int32)) hx hb dX7_innerToSix_321 (by decide) ?_
                              refine lv_istore (lv' := [(8, .int (0 : Int32)), (0, .ref (a 0)), (1, .int p1), (3, .int x17), (5, .int v19), (6, .int x20), (7, .int r21)]) hx hb dX7_innerToSix_322 hl (by decide) rfl (fun ls hl => ?_)
                              obtain ⟨I324, m324, h, hs324⟩ := h
                              have P324 : ∀ (n324 : Nat) (x31 : Int32) (M32 : cM) (H : Heap) (locs : List Loc) (ls : Array Slot), I324 x31 M32 → m324 x31 M32 < n324 → rpI dC dI a kA (rpA a sz) s M32 L12 H locs → lv_has ls 9 [(0, .ref (a 0)), (1, .int p1), (3, .int x17), (5, .int v19), (8, .int x31)] → W p l e rm_X7_innerToSix_0 s m (av_X7_innerToSix_0 a t p1 p2).toArray below meth c H locs 0 0 (MQ below (qc_X7_innerToSix_0 dC dI a kA sz M L Z) (av_X7_innerToSix_0 a t p1 p2).toArray s 0 0 (rpA a sz)) (F0 m 324 ls []) := by
                                intro n324
                                induction n324 with
                                | zero => intro x31 M32 H locs ls _ hn; exact absurd hn (Nat.not_lt_zero _)
                                | succ n324 ih324 =>
                                  intro x31 M32 H locs ls h hn324 hI hl
                                  have h := hs324 x31 M32 h
                                  refine lv_iload hx hb dX7_innerToSix_324 (lv_at hl 4 rfl) ?_
                                  refine lv_iload_n hx hb dX7_innerToSix_326 rfl (lv_at hl 2 rfl) ?_
                                  refine lv_icmp_ge (tgt := 363) hx hb dX7_innerToSix_327 (by decide) (fun c33 => ?_) (fun c33 => ?_)
                                  · have h := h.1 c33
                                    refine lv_aload_n hx hb dX7_innerToSix_363 rfl (lv_at hl 0 rfl) ?_
                                    refine lv_bipush (v := (8 : Int32)) hx hb dX7_innerToSix_364 (by decide) ?_
                                    refine lv_iload hx hb dX7_innerToSix_366 (lv_at hl 3 rfl) ?_
                                    refine lv_iadd hx hb dX7_innerToSix_368 ?_
                                    refine lv_iload_n hx hb dX7_innerToSix_369 rfl (lv_at hl 2 rfl) ?_
                                    refine lv_iadd hx hb dX7_innerToSix_370 ?_
                                    refine rpput (ci := 6) (C := RX7) (T := TX7) (N := 44) (ty := .int) hx hb hu uX7 tyX7 tyX7_ok nmX7 hown hK hI 0 rfl rfl 24 (by decide) (hu _ uww_626) (fun _ h9 => h9) rfl (by decide +kernel) rfl rfl (Nat.le_of_ble_eq_true rfl) (rpset_0_24 _ _ _ _ _) dX7_innerToSix_371 (fun H locs M34 eM34 hI => ?_)
                                    have h := h M34 eM34
                                    refine lv_aload_n hx hb dX7_innerToSix_374 rfl (lv_at hl 0 rfl) ?_
                                    refine lv_bipush (v := (8 : Int32)) hx hb dX7_innerToSix_375 (by decide) ?_
                                    refine lv_iload hx hb dX7_innerToSix_377 (lv_at hl 3 rfl) ?_
                                    refine lv_iadd hx hb dX7_innerToSix_379 ?_
                                    refine lv_iload_n hx hb dX7_innerToSix_380 rfl (lv_at hl 2 rfl) ?_
                                    refine lv_aload_n hx hb dX7_innerToSix_381 rfl (lv_at hl 0 rfl) ?_
                                    refine va_get (D := (dC, dI)) (ci := 6) (v := .int (M34 0 32)) (C := RX7) (T := TX7) (N := 44) hx hb hu uX7 hown hK hI.1 0 rfl rfl 32 (by decide) (hu _ uww_668) (fun _ h9 => h9) rfl dX7_innerToSix_382 ?_
                                    refine lv_aload_n hx hb dX7_innerToSix_385 rfl (lv_at hl 0 rfl) ?_
                                    refine va_get (D := (dC, dI)) (ci := 6) (v := .int (M34 0 31)) (C := RX7) (T := TX7) (N := 44) hx hb hu uX7 hown hK hI.1 0 rfl rfl 31 (by decide) (hu _ uww_667) (fun _ h9 => h9) rfl dX7_innerToSix_386 ?_
                                    refine lv_isub hx hb dX7_innerToSix_389 ?_
                                    refine lv_aload_n hx hb dX7_innerToSix_390 rfl (lv_at hl 0 rfl) ?_
                                    refine va_get (D := (dC, dI)) (ci := 6) (v := .int (M34 0 33)) (C := RX7) (T := TX7) (N := 44) hx hb hu uX7 hown hK hI.1 0 rfl rfl 33 (by decide) (hu _ uww_669) (fun _ h9 => h9) rfl dX7_innerToSix_391 ?_
                                    refine lv_iconst (v := (1 : Int32)) hx hb dX7_innerToSix_394 (by decide) ?_
                                    refine rpcallv hsz hI (va_runV (As := [.int ((8 : Int32) + v19), .int x17, .int ((M34 0 32) - (M34 0 31)), .int (M34 0 33), .int (1 : Int32)]) (rest := []) ⟨hx, hb, hml, hown, hu⟩ (met_X7_mendInner_0 l dC dI a kA t _ M34 L12 ((8 : Int32) + v19) x17 ((M34 0 32) - (M34 0 31)) (M34 0 33) (1 : Int32) _ h) (cwl_X7_295_X7 hu ⟨by decide, by decide⟩) (rppre (ci := 6) hK hE hsz hI rfl rfl) rfl rfl hl.1 rfl (lv_room (Nat.le_of_ble_eq_true rfl)) dX7_innerToSix_395 ⟨by decide, by decide⟩) (fun M35 L36 H locs h hI => ?_)
                                    refine lv_iconst (v := (1 : Int32)) hx hb dX7_innerToSix_398 (by decide) ?_
                                    exact rpzret (Z := (fun r M' L' => Z r M' L')) hx hb hr hlocks hK hI dX7_innerToSix_399 ⟨isB_1, h⟩
                                  · have h := h.2 c33
                                    refine lv_aload_n hx hb dX7_innerToSix_330 rfl (lv_at hl 0 rfl) ?_
                                    refine va_get (D := (dC, dI)) (ci := 6) (v := .ref (a 5)) (C := RX7) (T := TX7) (N := 44) hx hb hu uX7 hown hK hI.1 0 rfl rfl 23 (by decide) (hu _ uww_554) (fun _ h9 => h9) rfl dX7_innerToSix_331 ?_
                                    refine lv_bipush (v := (8 : Int32)) hx hb dX7_innerToSix_334 (by decide) ?_
                                    refine lv_iload hx hb dX7_innerToSix_336 (lv_at hl 3 rfl) ?_
                                    refine lv_iadd hx hb dX7_innerToSix_338 ?_
                                    refine lv_iload hx hb dX7_innerToSix_339 (lv_at hl 4 rfl) ?_
                                    refine lv_iadd hx hb dX7_innerToSix_341 ?_
                                    refine lv_aload_n hx hb dX7_innerToSix_342 rfl (lv_at hl 0 rfl) ?_
                                    refine va_get (D := (dC, dI)) (ci := 6) (v := .ref (a 1)) (C := RX7) (T := TX7) (N := 44) hx hb hu uX7 hown hK hI.1 0 rfl rfl 1 (by decide) (hu _ uww_538) (fun _ h9 => h9) rfl dX7_innerToSix_343 ?_
                                    refine lv_iload_n hx hb dX7_innerToSix_346 rfl (lv_at hl 1 rfl) ?_
                                    refine lv_aload_n hx hb dX7_innerToSix_347 rfl (lv_at hl 0 rfl) ?_
                                    refine va_get (D := (dC, dI)) (ci := 6) (v := .int (M32 0 31)) (C := RX7) (T := TX7) (N := 44) hx hb hu uX7 hown hK hI.1 0 rfl rfl 31 (by decide) (hu _ uww_667) (fun _ h9 => h9) rfl dX7_innerToSix_348 ?_
                                    refine lv_iadd hx hb dX7_innerToSix_351 ?_
                                    refine lv_iload hx hb dX7_innerToSix_352 (lv_at hl 4 rfl) ?_
                                    refine lv_iadd hx hb dX7_innerToSix_354 ?_
                                    refine va_bald hx hb hK hI.1 1 0 rfl rfl h.1 dX7_innerToSix_355 ?_
                                    have h := h.2
                                    refine rpbast hx hb hK hI 5 4 rfl rfl h.1 (rpset_5 _ _ _ _ _ _) dX7_innerToSix_356 (fun H locs M37 eM37 hI => ?_)
                                    have h := h.2 M37 eM37
                                    obtain ⟨x38, ex38⟩ : ∃ y : Int32, y = (x31 + (1 : Int32)) := ⟨_, rfl⟩
                                    have h := h x38 ex38
                                    refine lv_iinc (v := x38) (lv' := [(8, .int x38), (0, .ref (a 0)), (1, .int p1), (3, .int x17), (5, .int v19)]) hx hb dX7_innerToSix_357 hl (k := 4) rfl (by rw [ex38]; rfl) (by decide) rfl (fun ls hl => ?_)
                                    refine lv_goto (tgt := 324) hx hb dX7_innerToSix_360 (by decide) ?_
                                    exact ih324 x38 M37 _ _ _ h.1 (Nat.lt_of_lt_of_le h.2 (Nat.le_of_lt_succ hn324)) hI (lv_sub hl [1, 2, 3, 4, 0] rfl)
                              exact P324 (m324 (0 : Int32) M30 + 1) (0 : Int32) M30 _ _ _ h (Nat.lt_succ_self _) hI (lv_sub hl [1, 2, 3, 4, 0] rfl)
                            · have h := h.2 c29
                              refine lv_aload_n hx hb dX7_innerToSix_289 rfl (lv_at hl 0 rfl) ?_
                              refine va_get (D := (dC, dI)) (ci := 6) (v := .ref (a 5)) (C := RX7) (T := TX7) (N := 44) hx hb hu uX7 hown hK hI.1 0 rfl rfl 23 (by decide) (hu _ uww_554) (fun _ h9 => h9) rfl dX7_innerToSix_290 ?_
                              refine lv_bipush (v := (8 : Int32)) hx hb dX7_innerToSix_293 (by decide) ?_
                              refine lv_iload hx hb dX7_innerToSix_295 (lv_at hl 6 rfl) ?_
                              refine lv_iadd hx hb dX7_innerToSix_297 ?_
                              refine lv_aload_n hx hb dX7_innerToSix_298 rfl (lv_at hl 0 rfl) ?_
                              refine va_get (D := (dC, dI)) (ci := 6) (v := .ref (a 3)) (C := RX7) (T := TX7) (N := 44) hx hb hu uX7 hown hK hI.1 0 rfl rfl 19 (by decide) (hu _ uww_552) (fun _ h9 => h9) rfl dX7_innerToSix_299 ?_
                              refine lv_iload hx hb dX7_innerToSix_302 (lv_at hl 5 rfl) ?_
                              refine lv_iload hx hb dX7_innerToSix_304 (lv_at hl 6 rfl) ?_
                              refine lv_iadd hx hb dX7_innerToSix_306 ?_
                              refine va_bald hx hb hK hI.1 3 2 rfl rfl h.1 dX7_innerToSix_307 ?_
                              have h := h.2
                              refine rpbast hx hb hK hI 5 4 rfl rfl h.1 (rpset_5 _ _ _ _ _ _) dX7_innerToSix_308 (fun H locs M39 eM39 hI => ?_)
                              have h := h.2 M39 eM39
                              obtain ⟨x40, ex40⟩ : ∃ y : Int32, y = (x27 + (1 : Int32)) := ⟨_, rfl⟩
                              have h := h x40 ex40
                              refine lv_iinc (v := x40) (lv' := [(8, .int x40), (0, .ref (a 0)), (1, .int p1), (3, .int x17), (5, .int v19), (6, .int x20), (7, .int r21)]) hx hb dX7_innerToSix_309 hl (k := 6) rfl (by rw [ex40]; rfl) (by decide) rfl (fun ls hl => ?_)
                              refine lv_goto (tgt := 282) hx hb dX7_innerToSix_312 (by decide) ?_
                              exact ih282 x40 M39 _ _ _ h.1 (Nat.lt_of_lt_of_le h.2 (Nat.le_of_lt_succ hn282)) hI (lv_sub hl [1, 2, 3, 4, 5, 6, 0] rfl)
                        exact P282 (m282 (0 : Int32) M26 + 1) (0 : Int32) M26 _ _ _ h (Nat.lt_succ_self _) hI (lv_sub hl [4, 5, 6, 3, 2, 1, 0] rfl)
                      refine lv_if_eq (tgt := 199) hx hb dX7_innerToSix_191 (by decide) (fun c41 => ?_) (fun c41 => ?_)
                      · have h := h.1 c41
                        refine lv_bipush (v := (40 : Int32)) hx hb dX7_innerToSix_199 (by decide) ?_
                        exact J201 (40 : Int32) _ _ _ h hI (lv_sub hl [0, 1, 2, 3] rfl)
                      · have h := h.2 c41
                        refine lv_bipush (v := (48 : Int32)) hx hb dX7_innerToSix_194 (by decide) ?_
                        refine lv_goto (tgt := 201) hx hb dX7_innerToSix_196 (by decide) ?_
                        exact J201 (48 : Int32) _ _ _ h hI (lv_sub hl [0, 1, 2, 3] rfl)
                    refine lv_icmp_ne (tgt := 189) hx hb dX7_innerToSix_144 (by decide) (fun c42 => ?_) (fun c42 => ?_)
                    · have h := h.1 c42
                      exact J189  _ _ _ h hI (lv_sub hl [1, 2, 3, 0] rfl)
                    · have h := h.2 c42
                      refine lv_iload hx hb dX7_innerToSix_147 (lv_at hl 0 rfl) ?_
                      refine lv_if_ne (tgt := 187) hx hb dX7_innerToSix_149 (by decide) (fun c43 => ?_) (fun c43 => ?_)
                      · have h := h.1 c43
                        refine lv_iconst (v := (0 : Int32)) hx hb dX7_innerToSix_187 (by decide) ?_
                        exact rpzret (Z := (fun r M' L' => Z r M' L')) hx hb hr hlocks hK hI dX7_innerToSix_188 ⟨isB_0, h⟩
                      · have h := h.2 c43
                        refine lv_iload_n hx hb dX7_innerToSix_152 rfl (lv_at hl 3 rfl) ?_
                        refine lv_iconst (v := (4 : Int32)) hx hb dX7_innerToSix_153 (by decide) ?_
                        refine lv_icmp_lt (tgt := 187) hx hb dX7_innerToSix_154 (by decide) (fun c44 => ?_) (fun c44 => ?_)
                        · have h := h.1 c44
                          refine lv_iconst (v := (0 : Int32)) hx hb dX7_innerToSix_187 (by decide) ?_
                          exact rpzret (Z := (fun r M' L' => Z r M' L')) hx hb hr hlocks hK hI dX7_innerToSix_188 ⟨isB_0, h⟩
                        · have h := h.2 c44
                          refine lv_aload_n hx hb dX7_innerToSix_157 rfl (lv_at hl 1 rfl) ?_
                          refine va_get (D := (dC, dI)) (ci := 6) (v := .ref (a 1)) (C := RX7) (T := TX7) (N := 44) hx hb hu uX7 hown hK hI.1 0 rfl rfl 1 (by decide) (hu _ uww_538) (fun _ h9 => h9) rfl dX7_innerToSix_158 ?_
                          refine lv_iload_n hx hb dX7_innerToSix_161 rfl (lv_at hl 2 rfl) ?_
                          refine lv_aload_n hx hb dX7_innerToSix_162 rfl (lv_at hl 1 rfl) ?_
                          refine va_get (D := (dC, dI)) (ci := 6) (v := .int (M11 0 31)) (C := RX7) (T := TX7) (N := 44) hx hb hu uX7 hown hK hI.1 0 rfl rfl 31 (by decide) (hu _ uww_667) (fun _ h9 => h9) rfl dX7_innerToSix_163 ?_
                          refine lv_iadd hx hb dX7_innerToSix_166 ?_
                          refine va_bald hx hb hK hI.1 1 0 rfl rfl h.1 dX7_innerToSix_167 ?_
                          have h := h.2
                          refine lv_bipush (v := (8 : Int32)) hx hb dX7_innerToSix_168 (by decide) ?_
                          refine lv_icmp_eq (tgt := 189) hx hb dX7_innerToSix_170 (by decide) (fun c45 => ?_) (fun c45 => ?_)
                          · have h := h.1 c45
                            exact J189  _ _ _ h hI (lv_sub hl [1, 2, 3, 0] rfl)
                          · have h := h.2 c45
                            refine lv_aload_n hx hb dX7_innerToSix_173 rfl (lv_at hl 1 rfl) ?_
                            refine va_get (D := (dC, dI)) (ci := 6) (v := .ref (a 1)) (C := RX7) (T := TX7) (N := 44) hx hb hu uX7 hown hK hI.1 0 rfl rfl 1 (by decide) (hu _ uww_538) (fun _ h9 => h9) rfl dX7_innerToSix_174 ?_
                            refine lv_iload_n hx hb dX7_innerToSix_177 rfl (lv_at hl 2 rfl) ?_
                            refine lv_aload_n hx hb dX7_innerToSix_178 rfl (lv_at hl 1 rfl) ?_
                            refine va_get (D := (dC, dI)) (ci := 6) (v := .int (M11 0 31)) (C := RX7) (T := TX7) (N := 44) hx hb hu uX7 hown hK hI.1 0 rfl rfl 31 (by decide) (hu _ uww_667) (fun _ h9 => h9) rfl dX7_innerToSix_179 ?_
                            refine lv_iadd hx hb dX7_innerToSix_182 ?_
                            refine va_bald hx hb hK hI.1 1 0 rfl rfl h.1 dX7_innerToSix_183 ?_
                            have h := h.2
                            refine lv_if_eq (tgt := 189) hx hb dX7_innerToSix_184 (by decide) (fun c46 => ?_) (fun c46 => ?_)
                            · have h := h.1 c46
                              exact J189  _ _ _ h hI (lv_sub hl [1, 2, 3, 0] rfl)
                            · have h := h.2 c46
                              refine lv_iconst (v := (0 : Int32)) hx hb dX7_innerToSix_187 (by decide) ?_
                              exact rpzret (Z := (fun r M' L' => Z r M' L')) hx hb hr hlocks hK hI dX7_innerToSix_188 ⟨isB_0, h⟩
                  obtain ⟨K132, hK132, h⟩ := h
                  have J132 : ∀  (H : Heap) (locs : List Loc) (ls : Array Slot), K132  → rpI dC dI a kA (rpA a sz) s M11 L12 H locs → lv_has ls 9 [(0, .ref (a 0)), (1, .int p1), (3, .int x17)] → W p l e rm_X7_innerToSix_0 s m (av_X7_innerToSix_0 a t p1 p2).toArray below meth c H locs 0 0 (MQ below (qc_X7_innerToSix_0 dC dI a kA sz M L Z) (av_X7_innerToSix_0 a t p1 p2).toArray s 0 0 (rpA a sz)) (F0 m 132 ls []) := by
                    intro  H locs ls h hI hl
                    have h := hK132  h
                    refine lv_iconst (v := (1 : Int32)) hx hb dX7_innerToSix_132 (by decide) ?_
                    refine lv_goto (tgt := 137) hx hb dX7_innerToSix_133 (by decide) ?_
                    exact J137 (1 : Int32) _ _ _ h hI (lv_sub hl [0, 1, 2] rfl)
                  refine lv_if_ne (tgt := 132) hx hb dX7_innerToSix_122 (by decide) (fun c47 => ?_) (fun c47 => ?_)
                  · have h := h.1 c47
                    exact J132  _ _ _ h hI (lv_sub hl [1, 2, 0] rfl)
                  · have h := h.2 c47
                    refine lv_aload_n hx hb dX7_innerToSix_125 rfl (lv_at hl 1 rfl) ?_
                    refine va_get (D := (dC, dI)) (ci := 6) (v := .int (M11 0 33)) (C := RX7) (T := TX7) (N := 44) hx hb hu uX7 hown hK hI.1 0 rfl rfl 33 (by decide) (hu _ uww_669) (fun _ h9 => h9) rfl dX7_innerToSix_126 ?_
                    refine lv_if_le (tgt := 136) hx hb dX7_innerToSix_129 (by decide) (fun c48 => ?_) (fun c48 => ?_)
                    · have h := h.1 c48
                      refine lv_iconst (v := (0 : Int32)) hx hb dX7_innerToSix_136 (by decide) ?_
                      exact J137 (0 : Int32) _ _ _ h hI (lv_sub hl [1, 2, 0] rfl)
                    · have h := h.2 c48
                      exact J132  _ _ _ h hI (lv_sub hl [1, 2, 0] rfl)
                refine lv_icmp_ge (tgt := 108) hx hb dX7_innerToSix_101 (by decide) (fun c49 => ?_) (fun c49 => ?_)
                · have h := h.1 c49
                  refine lv_aload_n hx hb dX7_innerToSix_108 rfl (lv_at hl 0 rfl) ?_
                  refine va_get (D := (dC, dI)) (ci := 6) (v := .int (M11 0 32)) (C := RX7) (T := TX7) (N := 44) hx hb hu uX7 hown hK hI.1 0 rfl rfl 32 (by decide) (hu _ uww_668) (fun _ h9 => h9) rfl dX7_innerToSix_109 ?_
                  exact J112 (M11 0 32) _ _ _ h hI (lv_sub hl [0, 1] rfl)
                · have h := h.2 c49
                  refine lv_iload_n hx hb dX7_innerToSix_104 rfl (lv_at hl 2 rfl) ?_
                  refine lv_goto (tgt := 112) hx hb dX7_innerToSix_105 (by decide) ?_
                  exact J112 p2 _ _ _ h hI (lv_sub hl [0, 1] rfl)
              · have h := h.2 c15
                refine lv_iconst (v := (0 : Int32)) hx hb dX7_innerToSix_94 (by decide) ?_
                exact rpzret (Z := (fun r M' L' => Z r M' L')) hx hb hr hlocks hK hI dX7_innerToSix_95 ⟨isB_0, h⟩
    · have h := h.2 c3
      refine lv_iconst (v := (0 : Int32)) hx hb dX7_innerToSix_20 (by decide) ?_
      exact rpzret (Z := (fun r M' L' => Z r M' L')) hx hb hr hlocks hK hI dX7_innerToSix_21 ⟨isB_0, h⟩

abbrev rm_X7_putInt_5 : Room := { frames := 1, cells := 0, slots := 0, locals := 22 }
abbrev av_X7_putInt_5 (a t : Nat → Nat) (p1 : Int32) (p2 : Int32) : List Value := [.ref (a 5), .int p1, .int p2]
abbrev qc_X7_putInt_5 (dC : Nat → ClassId) (dI : Nat → Nat → Nat) (a : Nat → Nat) (kA : Nat → ClassId) (sz : Nat) (M : cM) (L : cL) (Z : cM → Prop) : Array Value → State → Outcome → State → Prop := va_Qv (fun (u : cM × cL) => u.2 = L ∧ Z u.1) (rpAt dC dI a kA (rpA a sz)) (rpA a sz)
set_option maxHeartbeats 4000000 in
set_option maxRecDepth 100000 in
theorem met_X7_putInt_5 (l : Launch) (dC : Nat → ClassId) (dI : Nat → Nat → Nat) (a : Nat → Nat) (kA : Nat → ClassId) (t : Nat → Nat) (sz : Nat) (M : cM) (L : cL) (p1 : Int32) (p2 : Int32) (Z : cM → Prop) (h : wp_X7_putInt_5 M L p1 p2 Z) : Met l yX7_putInt (Cond.code yX7_putInt cX7_putInt 3 none :: uW) rm_X7_putInt_5 (va_Pc (av_X7_putInt_5 a t p1 p2) (rpPre dC dI a kA t M L sz)) (qc_X7_putInt_5 dC dI a kA sz M L Z) 0 0 (rpA a sz) := by
  refine rpenter (cc := cX7_putInt) (n := 3) (ret := none) (by decide) rfl (Nat.le_of_ble_eq_true rfl) ?_
  intro p e s m below meth c ls hx hb hml hr hlocks hown hts hK hE hsz hI hl hmn
  have hu : ∀ w ∈ uW, w.before (av_X7_putInt_5 a t p1 p2).toArray s = true := fun w h => hts w (List.mem_cons_of_mem _ h)
  have hown : s.vm.findClass RX7 = some m.cls := hown
  have hl : lv_has ls 3 [(0, .ref (a 5)), (1, .int p1), (2, .int p2)] := hl
  unfold wp_X7_putInt_5 at h
  refine lv_aload_n hx hb dX7_putInt_0 rfl (lv_at hl 0 rfl) ?_
  refine lv_iload_n hx hb dX7_putInt_1 rfl (lv_at hl 1 rfl) ?_
  refine lv_iload_n hx hb dX7_putInt_2 rfl (lv_at hl 2 rfl) ?_
  refine lv_bipush (v := (16 : Int32)) hx hb dX7_putInt_3 (by decide) ?_
  refine lv_iushr hx hb dX7_putInt_5 rfl ?_
  refine rpcallv_m hsz hI (va_runS (As := [.ref (a 5), .int p1, .int ((p2.toUInt32 >>> ((16 : Int32).toUInt32 &&& Int32.toUInt32 31)).toInt32)]) (rest := []) ⟨hx, hb, hml, hown, hu⟩ (met_X7_putTwo_5 l dC dI a kA t _ M L p1 ((p2.toUInt32 >>> ((16 : Int32).toUInt32 &&& Int32.toUInt32 31)).toInt32) _ h) (cwl_X7_121_S hu ⟨by decide, by decide⟩) (rppreS hK hE hsz hI) rfl rfl hl.1 rfl (lv_room (Nat.le_of_ble_eq_true rfl)) dX7_putInt_6 ⟨by decide, by decide⟩) (fun M1 H locs h hI => ?_)
  refine lv_aload_n hx hb dX7_putInt_9 rfl (lv_at hl 0 rfl) ?_
  refine lv_iload_n hx hb dX7_putInt_10 rfl (lv_at hl 1 rfl) ?_
  refine lv_iconst (v := (2 : Int32)) hx hb dX7_putInt_11 (by decide) ?_
  refine lv_iadd hx hb dX7_putInt_12 ?_
  refine lv_iload_n hx hb dX7_putInt_13 rfl (lv_at hl 2 rfl) ?_
  refine rpcallv_m hsz hI (va_runS (As := [.ref (a 5), .int (p1 + (2 : Int32)), .int p2]) (rest := []) ⟨hx, hb, hml, hown, hu⟩ (met_X7_putTwo_5 l dC dI a kA t _ M1 L (p1 + (2 : Int32)) p2 _ h) (cwl_X7_121_S hu ⟨by decide, by decide⟩) (rppreS hK hE hsz hI) rfl rfl hl.1 rfl (lv_room (Nat.le_of_ble_eq_true rfl)) dX7_putInt_14 ⟨by decide, by decide⟩) (fun M2 H locs h hI => ?_)
  exact rpvret (Z := (fun M' L' => L' = L ∧ Z M')) hx hb hr hlocks hK hI dX7_putInt_17 ⟨rfl, h⟩

abbrev rm_X7_toSix_0 : Room := { frames := 7, cells := 1, slots := 11, locals := 168 }
abbrev av_X7_toSix_0 (a t : Nat → Nat) (p1 : Int32) : List Value := [.ref (a 0), .int p1]
abbrev qc_X7_toSix_0 (dC : Nat → ClassId) (dI : Nat → Nat → Nat) (a : Nat → Nat) (kA : Nat → ClassId) (sz : Nat) (M : cM) (L : cL) (Z : Int32 → cM → cL → Prop) : Array Value → State → Outcome → State → Prop := va_Qi (fun r (u : cM × cL) => Z r u.1 u.2) (rpAt dC dI a kA (rpA a sz)) (rpA a sz)
set_option maxHeartbeats 4000000 in
set_option maxRecDepth 100000 in
theorem met_X7_toSix_0 (l : Launch) (dC : Nat → ClassId) (dI : Nat → Nat → Nat) (a : Nat → Nat) (kA : Nat → ClassId) (t : Nat → Nat) (sz : Nat) (M : cM) (L : cL) (p1 : Int32) (Z : Int32 → cM → cL → Prop) (h : wp_X7_toSix_0 M L p1 Z) : Met l yX7_toSix (Cond.code yX7_toSix cX7_toSix 13 (some .int) :: uW) rm_X7_toSix_0 (va_Pc (av_X7_toSix_0 a t p1) (rpPre dC dI a kA t M L sz)) (qc_X7_toSix_0 dC dI a kA sz M L Z) 1 11 (rpA a sz) := by
  refine rpenter (cc := cX7_toSix) (n := 13) (ret := (some .int)) (by decide) rfl (Nat.le_of_ble_eq_true rfl) ?_
  intro p e s m below meth c ls hx hb hml hr hlocks hown hts hK hE hsz hI hl hmn
  have hu : ∀ w ∈ uW, w.before (av_X7_toSix_0 a t p1).toArray s = true := fun w h => hts w (List.mem_cons_of_mem _ h)
  have hown : s.vm.findClass RX7 = some m.cls := hown
  have hl : lv_has ls 13 [(0, .ref (a 0)), (1, .int p1)] := hl
  unfold wp_X7_toSix_0 at h
  refine lv_aload_n hx hb dX7_toSix_0 rfl (lv_at hl 0 rfl) ?_
  refine va_get (D := (dC, dI)) (ci := 6) (v := .ref (a 5)) (C := RX7) (T := TX7) (N := 44) hx hb hu uX7 hown hK hI.1 0 rfl rfl 23 (by decide) (hu _ uww_554) (fun _ h9 => h9) rfl dX7_toSix_1 ?_
  refine lv_iconst (v := (0 : Int32)) hx hb dX7_toSix_4 (by decide) ?_
  refine rpcalli_p hsz hI (va_runS (As := [.ref (a 5), .int (0 : Int32)]) (rest := []) ⟨hx, hb, hml, hown, hu⟩ (met_X7_octetAt_5 l dC dI a kA t _ M L (0 : Int32) _ h) (cwl_X7_111_S hu ⟨by decide, by decide⟩) (rppreS hK hE hsz hI) rfl rfl hl.1 rfl (lv_room (Nat.le_of_ble_eq_true rfl)) dX7_toSix_5 ⟨by decide, by decide⟩) (fun r1 H locs h hI => ?_)
  refine lv_istore_n (lv' := [(2, .int r1), (0, .ref (a 0)), (1, .int p1)]) hx hb dX7_toSix_8 rfl hl (by decide) rfl (fun ls hl => ?_)
  refine lv_iload_n hx hb dX7_toSix_9 rfl (lv_at hl 0 rfl) ?_
  refine lv_bipush (v := (8 : Int32)) hx hb dX7_toSix_10 (by decide) ?_
  obtain ⟨K19, hK19, h⟩ := h
  have J19 : ∀  (H : Heap) (locs : List Loc) (ls : Array Slot), K19  → rpI dC dI a kA (rpA a sz) s M L H locs → lv_has ls 13 [(0, .ref (a 0)), (1, .int p1)] → W p l e rm_X7_toSix_0 s m (av_X7_toSix_0 a t p1).toArray below meth c H locs 0 0 (MQ below (qc_X7_toSix_0 dC dI a kA sz M L Z) (av_X7_toSix_0 a t p1).toArray s 1 11 (rpA a sz)) (F0 m 19 ls []) := by
    intro  H locs ls h hI hl
    have h := hK19  h
    refine lv_aload_n hx hb dX7_toSix_19 rfl (lv_at hl 0 rfl) ?_
    refine lv_aload_n hx hb dX7_toSix_20 rfl (lv_at hl 0 rfl) ?_
    refine va_get (D := (dC, dI)) (ci := 6) (v := .ref (a 5)) (C := RX7) (T := TX7) (N := 44) hx hb hu uX7 hown hK hI.1 0 rfl rfl 23 (by decide) (hu _ uww_554) (fun _ h9 => h9) rfl dX7_toSix_21 ?_
    refine lv_iconst (v := (0 : Int32)) hx hb dX7_toSix_24 (by decide) ?_
    refine lv_iload_n hx hb dX7_toSix_25 rfl (lv_at hl 1 rfl) ?_
    refine lv_iconst (v := (1 : Int32)) hx hb dX7_toSix_26 (by decide) ?_
    refine rpcallv hsz hI (va_runV (As := [.ref (a 5), .int (0 : Int32), .int p1, .int (1 : Int32)]) (rest := []) ⟨hx, hb, hml, hown, hu⟩ (met_X7_echo_0_5 l dC dI a kA t _ M L (0 : Int32) p1 (1 : Int32) _ h) (cwl_X7_278_X7 hu ⟨by decide, by decide⟩) (rppre (ci := 6) hK hE hsz hI rfl rfl) rfl rfl hl.1 rfl (lv_room (Nat.le_of_ble_eq_true rfl)) dX7_toSix_27 ⟨by decide, by decide⟩) (fun M2 L3 H locs h hI => ?_)
    refine lv_iconst (v := (0 : Int32)) hx hb dX7_toSix_30 (by decide) ?_
    refine W.widen (k := 1) (n := 11) (by decide) (by decide) ?_
    exact rpiret (Z := (fun r M' L' => Z r M' L')) hx hb hr hlocks hK hI dX7_toSix_31 h
  refine lv_icmp_eq (tgt := 19) hx hb dX7_toSix_12 (by decide) (fun c4 => ?_) (fun c4 => ?_)
  · have h := h.1 c4
    exact J19  _ _ _ h hI (lv_sub hl [1, 2] rfl)
  · have h := h.2 c4
    refine lv_iload_n hx hb dX7_toSix_15 rfl (lv_at hl 0 rfl) ?_
    refine lv_if_ne (tgt := 32) hx hb dX7_toSix_16 (by decide) (fun c5 => ?_) (fun c5 => ?_)
    · have h := h.1 c5
      refine lv_iload_n hx hb dX7_toSix_32 rfl (lv_at hl 0 rfl) ?_
      refine lv_iconst (v := (3 : Int32)) hx hb dX7_toSix_33 (by decide) ?_
      obtain ⟨K52, hK52, h⟩ := h
      have J52 : ∀  (H : Heap) (locs : List Loc) (ls : Array Slot), K52  → rpI dC dI a kA (rpA a sz) s M L H locs → lv_has ls 13 [(0, .ref (a 0)), (1, .int p1), (2, .int r1)] → W p l e rm_X7_toSix_0 s m (av_X7_toSix_0 a t p1).toArray below meth c H locs 0 0 (MQ below (qc_X7_toSix_0 dC dI a kA sz M L Z) (av_X7_toSix_0 a t p1).toArray s 1 11 (rpA a sz)) (F0 m 52 ls []) := by
        intro  H locs ls h hI hl
        have h := hK52  h
        refine lv_aload_n hx hb dX7_toSix_52 rfl (lv_at hl 0 rfl) ?_
        refine lv_lconst (v := (0 : Int64)) hx hb dX7_toSix_53 (by decide) ?_
        refine rpputl (ci := 6) (C := RX7) (T := TX7) (N := 44) (ty := .long) hx hb hu uX7 tyX7 tyX7_ok nmX7 hown hK hI 0 rfl rfl 18 (by decide) (hu _ uww_593) (fun _ h9 => h9) rfl (by decide +kernel) rfl rfl (Nat.le_of_ble_eq_true rfl) (rpset_0_18 _ _ _ _ _) dX7_toSix_54 (fun H locs L6 eL6 hI => ?_)
        have h := h L6 eL6
        refine lv_aload_n hx hb dX7_toSix_57 rfl (lv_at hl 0 rfl) ?_
        refine lv_aload_n hx hb dX7_toSix_58 rfl (lv_at hl 0 rfl) ?_
        refine va_get (D := (dC, dI)) (ci := 6) (v := .ref (a 5)) (C := RX7) (T := TX7) (N := 44) hx hb hu uX7 hown hK hI.1 0 rfl rfl 23 (by decide) (hu _ uww_554) (fun _ h9 => h9) rfl dX7_toSix_59 ?_
        refine lv_iconst (v := (0 : Int32)) hx hb dX7_toSix_62 (by decide) ?_
        refine lv_iload_n hx hb dX7_toSix_63 rfl (lv_at hl 1 rfl) ?_
        refine rpcallv_l hsz hI (va_runV (As := [.ref (a 5), .int (0 : Int32), .int p1]) (rest := []) ⟨hx, hb, hml, hown, hu⟩ (met_X7_words_0_5 l dC dI a kA t _ M L6 (0 : Int32) p1 _ h) (cwl_X7_206_X7 hu ⟨by decide, by decide⟩) (rppre (ci := 6) hK hE hsz hI rfl rfl) rfl rfl hl.1 rfl (lv_room (Nat.le_of_ble_eq_true rfl)) dX7_toSix_64 ⟨by decide, by decide⟩) (fun L7 H locs h hI => ?_)
        refine lv_aload_n hx hb dX7_toSix_67 rfl (lv_at hl 0 rfl) ?_
        refine va_get (D := (dC, dI)) (ci := 6) (v := .long (L7 0 18)) (C := RX7) (T := TX7) (N := 44) hx hb hu uX7 hown hK hI.1 0 rfl rfl 18 (by decide) (hu _ uww_593) (fun _ h9 => h9) rfl dX7_toSix_68 ?_
        refine lv_ldc2 (own := RX7) (v := (65535 : Int64)) hx hb hown (hu _ uww_594) dX7_toSix_71 ?_
        refine W.lcmp hx hb dX7_toSix_74 ?_
        refine lv_if_eq (tgt := 80) hx hb dX7_toSix_75 (by decide) (fun c8 => ?_) (fun c8 => ?_)
        · have h := h.1 c8
          refine lv_aload_n hx hb dX7_toSix_80 rfl (lv_at hl 0 rfl) ?_
          refine lv_iload_n hx hb dX7_toSix_81 rfl (lv_at hl 2 rfl) ?_
          refine lv_aload_n hx hb dX7_toSix_82 rfl (lv_at hl 0 rfl) ?_
          refine va_get (D := (dC, dI)) (ci := 6) (v := .ref (a 5)) (C := RX7) (T := TX7) (N := 44) hx hb hu uX7 hown hK hI.1 0 rfl rfl 23 (by decide) (hu _ uww_554) (fun _ h9 => h9) rfl dX7_toSix_83 ?_
          refine lv_iconst (v := (1 : Int32)) hx hb dX7_toSix_86 (by decide) ?_
          refine rpcalli_p hsz hI (va_runS (As := [.ref (a 5), .int (1 : Int32)]) (rest := [.int r1, .ref (a 0)]) ⟨hx, hb, hml, hown, hu⟩ (met_X7_octetAt_5 l dC dI a kA t _ M L7 (1 : Int32) _ h) (cwl_X7_111_S hu ⟨by decide, by decide⟩) (rppreS hK hE hsz hI) rfl rfl hl.1 rfl (lv_room (Nat.le_of_ble_eq_true rfl)) dX7_toSix_87 ⟨by decide, by decide⟩) (fun r9 H locs h hI => ?_)
          refine lv_iload_n hx hb dX7_toSix_90 rfl (lv_at hl 1 rfl) ?_
          refine rpcalli_m hsz hI (va_runV (As := [.int r1, .int r9, .int p1]) (rest := []) ⟨hx, hb, hml, hown, hu⟩ (met_X7_errorToSix_0 l dC dI a kA t _ M L7 r1 r9 p1 _ h) (cwl_X7_281_X7 hu ⟨by decide, by decide⟩) (rppre (ci := 6) hK hE hsz hI rfl rfl) rfl rfl hl.1 rfl (lv_room (Nat.le_of_ble_eq_true rfl)) dX7_toSix_91 ⟨by decide, by decide⟩) (fun r10 M11 H locs h hI => ?_)
          refine W.widen (k := 1) (n := 11) (by decide) (by decide) ?_
          refine lv_if_ne (tgt := 100) hx hb dX7_toSix_94 (by decide) (fun c12 => ?_) (fun c12 => ?_)
          · have h := h.1 c12
            refine lv_aload_n hx hb dX7_toSix_100 rfl (lv_at hl 0 rfl) ?_
            refine va_get (D := (dC, dI)) (ci := 6) (v := .long (L7 0 27)) (C := RX7) (T := TX7) (N := 44) hx hb hu uX7 hown hK hI.1 0 rfl rfl 27 (by decide) (hu _ uww_630) (fun _ h9 => h9) rfl dX7_toSix_101 ?_
            refine lv_topl (fun x13 ex13 => ?_)
            have h := h x13 ex13
            refine lv_lstore_n (lv' := [(3, .long x13), (0, .ref (a 0)), (1, .int p1), (2, .int r1)]) hx hb dX7_toSix_104 rfl hl (by decide) rfl (fun ls hl => ?_)
            refine lv_aload_n hx hb dX7_toSix_105 rfl (lv_at hl 1 rfl) ?_
            refine va_get (D := (dC, dI)) (ci := 6) (v := .long (L7 0 28)) (C := RX7) (T := TX7) (N := 44) hx hb hu uX7 hown hK hI.1 0 rfl rfl 28 (by decide) (hu _ uww_631) (fun _ h9 => h9) rfl dX7_toSix_106 ?_
            refine lv_topl (fun x14 ex14 => ?_)
            have h := h x14 ex14
            refine lv_lstore (lv' := [(5, .long x14), (3, .long x13), (0, .ref (a 0)), (1, .int p1), (2, .int r1)]) hx hb dX7_toSix_109 hl (by decide) rfl (fun ls hl => ?_)
            refine lv_aload_n hx hb dX7_toSix_111 rfl (lv_at hl 2 rfl) ?_
            refine va_get (D := (dC, dI)) (ci := 6) (v := .long (L7 0 29)) (C := RX7) (T := TX7) (N := 44) hx hb hu uX7 hown hK hI.1 0 rfl rfl 29 (by decide) (hu _ uww_632) (fun _ h9 => h9) rfl dX7_toSix_112 ?_
            refine lv_topl (fun x15 ex15 => ?_)
            have h := h x15 ex15
            refine lv_lstore (lv' := [(7, .long x15), (5, .long x14), (3, .long x13), (0, .ref (a 0)), (1, .int p1), (2, .int r1)]) hx hb dX7_toSix_115 hl (by decide) rfl (fun ls hl => ?_)
            refine lv_aload_n hx hb dX7_toSix_117 rfl (lv_at hl 3 rfl) ?_
            refine va_get (D := (dC, dI)) (ci := 6) (v := .long (L7 0 30)) (C := RX7) (T := TX7) (N := 44) hx hb hu uX7 hown hK hI.1 0 rfl rfl 30 (by decide) (hu _ uww_633) (fun _ h9 => h9) rfl dX7_toSix_118 ?_
            refine lv_topl (fun x16 ex16 => ?_)
            have h := h x16 ex16
            refine lv_lstore (lv' := [(9, .long x16), (7, .long x15), (5, .long x14), (3, .long x13), (0, .ref (a 0)), (1, .int p1), (2, .int r1)]) hx hb dX7_toSix_121 hl (by decide) rfl (fun ls hl => ?_)
            refine lv_aload_n hx hb dX7_toSix_123 rfl (lv_at hl 4 rfl) ?_
            refine va_get (D := (dC, dI)) (ci := 6) (v := .int (M11 0 35)) (C := RX7) (T := TX7) (N := 44) hx hb hu uX7 hown hK hI.1 0 rfl rfl 35 (by decide) (hu _ uww_671) (fun _ h9 => h9) rfl dX7_toSix_124 ?_
            refine lv_topi (fun x17 ex17 => ?_)
            have h := h x17 ex17
            refine lv_istore (lv' := [(11, .int x17), (9, .long x16), (7, .long x15), (5, .long x14), (3, .long x13), (0, .ref (a 0)), (1, .int p1), (2, .int r1)]) hx hb dX7_toSix_127 hl (by decide) rfl (fun ls hl => ?_)
            refine lv_aload_n hx hb dX7_toSix_129 rfl (lv_at hl 5 rfl) ?_
            refine lv_aload_n hx hb dX7_toSix_130 rfl (lv_at hl 5 rfl) ?_
            refine va_get (D := (dC, dI)) (ci := 6) (v := .int (M11 0 31)) (C := RX7) (T := TX7) (N := 44) hx hb hu uX7 hown hK hI.1 0 rfl rfl 31 (by decide) (hu _ uww_667) (fun _ h9 => h9) rfl dX7_toSix_131 ?_
            refine lv_bipush (v := (8 : Int32)) hx hb dX7_toSix_134 (by decide) ?_
            refine lv_iadd hx hb dX7_toSix_136 ?_
            refine lv_iload_n hx hb dX7_toSix_137 rfl (lv_at hl 6 rfl) ?_
            refine lv_bipush (v := (8 : Int32)) hx hb dX7_toSix_138 (by decide) ?_
            refine lv_isub hx hb dX7_toSix_140 ?_
            refine rpcalli hsz hI (va_runV (As := [.int ((M11 0 31) + (8 : Int32)), .int (p1 - (8 : Int32))]) (rest := []) ⟨hx, hb, hml, hown, hu⟩ (met_X7_innerToSix_0 l dC dI a kA t _ M11 L7 ((M11 0 31) + (8 : Int32)) (p1 - (8 : Int32)) _ h) (cwl_X7_285_X7 hu ⟨by decide, by decide⟩) (rppre (ci := 6) hK hE hsz hI rfl rfl) rfl rfl hl.1 rfl (lv_room (Nat.le_of_ble_eq_true rfl)) dX7_toSix_141 ⟨by decide, by decide⟩) (fun r18 M19 L20 H locs h hI => ?_)
            refine lv_istore (lv' := [(12, .int r18), (11, .int x17), (9, .long x16), (7, .long x15), (5, .long x14), (3, .long x13), (0, .ref (a 0)), (1, .int p1), (2, .int r1)]) hx hb dX7_toSix_144 hl (by decide) rfl (fun ls hl => ?_)
            refine lv_aload_n hx hb dX7_toSix_146 rfl (lv_at hl 6 rfl) ?_
            refine lv_lload_n hx hb dX7_toSix_147 rfl (lv_at hl 5 rfl) ?_
            refine rpputl (ci := 6) (C := RX7) (T := TX7) (N := 44) (ty := .long) hx hb hu uX7 tyX7 tyX7_ok nmX7 hown hK hI 0 rfl rfl 27 (by decide) (hu _ uww_630) (fun _ h9 => h9) rfl (by decide +kernel) rfl rfl (Nat.le_of_ble_eq_true rfl) (rpset_0_27 _ _ _ _ _) dX7_toSix_148 (fun H locs L21 eL21 hI => ?_)
            have h := h L21 eL21
            refine lv_aload_n hx hb dX7_toSix_151 rfl (lv_at hl 6 rfl) ?_
            refine lv_lload hx hb dX7_toSix_152 (lv_at hl 4 rfl) ?_
            refine rpputl (ci := 6) (C := RX7) (T := TX7) (N := 44) (ty := .long) hx hb hu uX7 tyX7 tyX7_ok nmX7 hown hK hI 0 rfl rfl 28 (by decide) (hu _ uww_631) (fun _ h9 => h9) rfl (by decide +kernel) rfl rfl (Nat.le_of_ble_eq_true rfl) (rpset_0_28 _ _ _ _ _) dX7_toSix_154 (fun H locs L22 eL22 hI => ?_)
            have h := h L22 eL22
            refine lv_aload_n hx hb dX7_toSix_157 rfl (lv_at hl 6 rfl) ?_
            refine lv_lload hx hb dX7_toSix_158 (lv_at hl 3 rfl) ?_
            refine rpputl (ci := 6) (C := RX7) (T := TX7) (N := 44) (ty := .long) hx hb hu uX7 tyX7 tyX7_ok nmX7 hown hK hI 0 rfl rfl 29 (by decide) (hu _ uww_632) (fun _ h9 => h9) rfl (by decide +kernel) rfl rfl (Nat.le_of_ble_eq_true rfl) (rpset_0_29 _ _ _ _ _) dX7_toSix_160 (fun H locs L23 eL23 hI => ?_)
            have h := h L23 eL23
            refine lv_aload_n hx hb dX7_toSix_163 rfl (lv_at hl 6 rfl) ?_
            refine lv_lload hx hb dX7_toSix_164 (lv_at hl 2 rfl) ?_
            refine rpputl (ci := 6) (C := RX7) (T := TX7) (N := 44) (ty := .long) hx hb hu uX7 tyX7 tyX7_ok nmX7 hown hK hI 0 rfl rfl 30 (by decide) (hu _ uww_633) (fun _ h9 => h9) rfl (by decide +kernel) rfl rfl (Nat.le_of_ble_eq_true rfl) (rpset_0_30 _ _ _ _ _) dX7_toSix_166 (fun H locs L24 eL24 hI => ?_)
            have h := h L24 eL24
            refine lv_aload_n hx hb dX7_toSix_169 rfl (lv_at hl 6 rfl) ?_
            refine lv_iload hx hb dX7_toSix_170 (lv_at hl 1 rfl) ?_
            refine rpput (ci := 6) (C := RX7) (T := TX7) (N := 44) (ty := .int) hx hb hu uX7 tyX7 tyX7_ok nmX7 hown hK hI 0 rfl rfl 35 (by decide) (hu _ uww_671) (fun _ h9 => h9) rfl (by decide +kernel) rfl rfl (Nat.le_of_ble_eq_true rfl) (rpset_0_35 _ _ _ _ _) dX7_toSix_172 (fun H locs M25 eM25 hI => ?_)
            have h := h M25 eM25
            refine lv_iload hx hb dX7_toSix_175 (lv_at hl 0 rfl) ?_
            refine lv_if_ne (tgt := 183) hx hb dX7_toSix_177 (by decide) (fun c26 => ?_) (fun c26 => ?_)
            · have h := h.1 c26
              refine lv_aload_n hx hb dX7_toSix_183 rfl (lv_at hl 6 rfl) ?_
              refine lv_iconst (v := (0 : Int32)) hx hb dX7_toSix_184 (by decide) ?_
              refine rpcallv_m hsz hI (va_runV (As := [.int (0 : Int32)]) (rest := []) ⟨hx, hb, hml, hown, hu⟩ (met_X7_header4_0 l dC dI a kA t _ M25 L24 (0 : Int32) _ h) (cwl_X7_203_X7 hu ⟨by decide, by decide⟩) (rppre (ci := 6) hK hE hsz hI rfl rfl) rfl rfl hl.1 rfl (lv_room (Nat.le_of_ble_eq_true rfl)) dX7_toSix_185 ⟨by decide, by decide⟩) (fun M27 H locs h hI => ?_)
              refine lv_aload_n hx hb dX7_toSix_188 rfl (lv_at hl 6 rfl) ?_
              refine lv_iconst (v := (0 : Int32)) hx hb dX7_toSix_189 (by decide) ?_
              refine rpput (ci := 6) (C := RX7) (T := TX7) (N := 44) (ty := .boolean) hx hb hu uX7 tyX7 tyX7_ok nmX7 hown hK hI 0 rfl rfl 34 (by decide) (hu _ uww_670) (fun _ h9 => h9) rfl (by decide +kernel) isB_0.1 isB_0.2 (Nat.le_of_ble_eq_true rfl) (rpset_0_34 _ _ _ _ _) dX7_toSix_190 (fun H locs M28 eM28 hI => ?_)
              have h := h M28 eM28
              refine lv_aload_n hx hb dX7_toSix_193 rfl (lv_at hl 6 rfl) ?_
              refine lv_iconst (v := (0 : Int32)) hx hb dX7_toSix_194 (by decide) ?_
              refine rpput (ci := 6) (C := RX7) (T := TX7) (N := 44) (ty := .int) hx hb hu uX7 tyX7 tyX7_ok nmX7 hown hK hI 0 rfl rfl 33 (by decide) (hu _ uww_669) (fun _ h9 => h9) rfl (by decide +kernel) rfl rfl (Nat.le_of_ble_eq_true rfl) (rpset_0_33 _ _ _ _ _) dX7_toSix_195 (fun H locs M29 eM29 hI => ?_)
              have h := h M29 eM29
              refine lv_aload_n hx hb dX7_toSix_198 rfl (lv_at hl 6 rfl) ?_
              refine va_get (D := (dC, dI)) (ci := 6) (v := .int (M29 0 24)) (C := RX7) (T := TX7) (N := 44) hx hb hu uX7 hown hK hI.1 0 rfl rfl 24 (by decide) (hu _ uww_626) (fun _ h9 => h9) rfl dX7_toSix_199 ?_
              refine lv_sipush (v := (1240 : Int32)) hx hb dX7_toSix_202 (by decide) ?_
              obtain ⟨K215, hK215, h⟩ := h
              have J215 : ∀ (M30 : cM) (H : Heap) (locs : List Loc) (ls : Array Slot), K215 M30 → rpI dC dI a kA (rpA a sz) s M30 L24 H locs → lv_has ls 13 [(0, .ref (a 0))] → W p l e rm_X7_toSix_0 s m (av_X7_toSix_0 a t p1).toArray below meth c H locs 1 11 (MQ below (qc_X7_toSix_0 dC dI a kA sz M L Z) (av_X7_toSix_0 a t p1).toArray s 1 11 (rpA a sz)) (F0 m 215 ls []) := by
                intro M30 H locs ls h hI hl
                have h := hK215 M30 h
                refine lv_aload_n hx hb dX7_toSix_215 rfl (lv_at hl 0 rfl) ?_
                refine va_get (D := (dC, dI)) (ci := 6) (v := .ref (a 5)) (C := RX7) (T := TX7) (N := 44) hx hb hu uX7 hown hK hI.1 0 rfl rfl 23 (by decide) (hu _ uww_554) (fun _ h9 => h9) rfl dX7_toSix_216 ?_
                refine lv_iconst (v := (0 : Int32)) hx hb dX7_toSix_219 (by decide) ?_
                refine lv_aload_n hx hb dX7_toSix_220 rfl (lv_at hl 0 rfl) ?_
                refine va_get (D := (dC, dI)) (ci := 6) (v := .int (M30 0 37)) (C := RX7) (T := TX7) (N := 44) hx hb hu uX7 hown hK hI.1 0 rfl rfl 37 (by decide) (hu _ uww_726) (fun _ h9 => h9) rfl dX7_toSix_221 ?_
                refine lv_bipush (v := (24 : Int32)) hx hb dX7_toSix_224 (by decide) ?_
                refine lv_ishl hx hb dX7_toSix_226 ?_
                refine lv_aload_n hx hb dX7_toSix_227 rfl (lv_at hl 0 rfl) ?_
                refine va_get (D := (dC, dI)) (ci := 6) (v := .int (M30 0 38)) (C := RX7) (T := TX7) (N := 44) hx hb hu uX7 hown hK hI.1 0 rfl rfl 38 (by decide) (hu _ uww_727) (fun _ h9 => h9) rfl dX7_toSix_228 ?_
                refine lv_bipush (v := (16 : Int32)) hx hb dX7_toSix_231 (by decide) ?_
                refine lv_ishl hx hb dX7_toSix_233 ?_
                refine lv_ior hx hb dX7_toSix_234 ?_
                refine rpcallv_m hsz hI (va_runS (As := [.ref (a 5), .int (0 : Int32), .int (((M30 0 37) <<< ((24 : Int32) &&& 31)) ||| ((M30 0 38) <<< ((16 : Int32) &&& 31)))]) (rest := []) ⟨hx, hb, hml, hown, hu⟩ (met_X7_putInt_5 l dC dI a kA t _ M30 L24 (0 : Int32) (((M30 0 37) <<< ((24 : Int32) &&& 31)) ||| ((M30 0 38) <<< ((16 : Int32) &&& 31))) _ h) (cwl_X7_125_S hu ⟨by decide, by decide⟩) (rppreS hK hE hsz hI) rfl rfl hl.1 rfl (lv_room (Nat.le_of_ble_eq_true rfl)) dX7_toSix_235 ⟨by decide, by decide⟩) (fun M31 H locs h hI => ?_)
                refine lv_aload_n hx hb dX7_toSix_238 rfl (lv_at hl 0 rfl) ?_
                refine va_get (D := (dC, dI)) (ci := 6) (v := .ref (a 5)) (C := RX7) (T := TX7) (N := 44) hx hb hu uX7 hown hK hI.1 0 rfl rfl 23 (by decide) (hu _ uww_554) (fun _ h9 => h9) rfl dX7_toSix_239 ?_
                refine lv_iconst (v := (4 : Int32)) hx hb dX7_toSix_242 (by decide) ?_
                refine lv_aload_n hx hb dX7_toSix_243 rfl (lv_at hl 0 rfl) ?_
                refine va_get (D := (dC, dI)) (ci := 6) (v := .int (M31 0 39)) (C := RX7) (T := TX7) (N := 44) hx hb hu uX7 hown hK hI.1 0 rfl rfl 39 (by decide) (hu _ uww_728) (fun _ h9 => h9) rfl dX7_toSix_244 ?_
                refine rpcallv_m hsz hI (va_runS (As := [.ref (a 5), .int (4 : Int32), .int (M31 0 39)]) (rest := []) ⟨hx, hb, hml, hown, hu⟩ (met_X7_putInt_5 l dC dI a kA t _ M31 L24 (4 : Int32) (M31 0 39) _ h) (cwl_X7_125_S hu ⟨by decide, by decide⟩) (rppreS hK hE hsz hI) rfl rfl hl.1 rfl (lv_room (Nat.le_of_ble_eq_true rfl)) dX7_toSix_247 ⟨by decide, by decide⟩) (fun M32 H locs h hI => ?_)
                refine lv_aload_n hx hb dX7_toSix_250 rfl (lv_at hl 0 rfl) ?_
                refine lv_lconst (v := (0 : Int64)) hx hb dX7_toSix_251 (by decide) ?_
                refine rpputl (ci := 6) (C := RX7) (T := TX7) (N := 44) (ty := .long) hx hb hu uX7 tyX7 tyX7_ok nmX7 hown hK hI 0 rfl rfl 18 (by decide) (hu _ uww_593) (fun _ h9 => h9) rfl (by decide +kernel) rfl rfl (Nat.le_of_ble_eq_true rfl) (rpset_0_18 _ _ _ _ _) dX7_toSix_252 (fun H locs L33 eL33 hI => ?_)
                have h := h L33 eL33
                refine lv_aload_n hx hb dX7_toSix_255 rfl (lv_at hl 0 rfl) ?_
                refine lv_aload_n hx hb dX7_toSix_256 rfl (lv_at hl 0 rfl) ?_
                refine va_get (D := (dC, dI)) (ci := 6) (v := .int (M32 0 24)) (C := RX7) (T := TX7) (N := 44) hx hb hu uX7 hown hK hI.1 0 rfl rfl 24 (by decide) (hu _ uww_626) (fun _ h9 => h9) rfl dX7_toSix_257 ?_
                refine lv_bipush (v := (58 : Int32)) hx hb dX7_toSix_260 (by decide) ?_
                refine lv_iconst (v := (0 : Int32)) hx hb dX7_toSix_262 (by decide) ?_
                refine rpcallv_l hsz hI (va_runV (As := [.int (M32 0 24), .int (58 : Int32), .int (0 : Int32)]) (rest := []) ⟨hx, hb, hml, hown, hu⟩ (met_X7_pseudo_0 l dC dI a kA t _ M32 L33 (M32 0 24) (58 : Int32) (0 : Int32) _ h) (cwl_X7_181_X7 hu ⟨by decide, by decide⟩) (rppre (ci := 6) hK hE hsz hI rfl rfl) rfl rfl hl.1 rfl (lv_room (Nat.le_of_ble_eq_true rfl)) dX7_toSix_263 ⟨by decide, by decide⟩) (fun L34 H locs h hI => ?_)
                refine lv_aload_n hx hb dX7_toSix_266 rfl (lv_at hl 0 rfl) ?_
                refine lv_aload_n hx hb dX7_toSix_267 rfl (lv_at hl 0 rfl) ?_
                refine va_get (D := (dC, dI)) (ci := 6) (v := .ref (a 5)) (C := RX7) (T := TX7) (N := 44) hx hb hu uX7 hown hK hI.1 0 rfl rfl 23 (by decide) (hu _ uww_554) (fun _ h9 => h9) rfl dX7_toSix_268 ?_
                refine lv_iconst (v := (0 : Int32)) hx hb dX7_toSix_271 (by decide) ?_
                refine lv_aload_n hx hb dX7_toSix_272 rfl (lv_at hl 0 rfl) ?_
                refine va_get (D := (dC, dI)) (ci := 6) (v := .int (M32 0 24)) (C := RX7) (T := TX7) (N := 44) hx hb hu uX7 hown hK hI.1 0 rfl rfl 24 (by decide) (hu _ uww_626) (fun _ h9 => h9) rfl dX7_toSix_273 ?_
                refine rpcallv_l hsz hI (va_runV (As := [.ref (a 5), .int (0 : Int32), .int (M32 0 24)]) (rest := []) ⟨hx, hb, hml, hown, hu⟩ (met_X7_words_0_5 l dC dI a kA t _ M32 L34 (0 : Int32) (M32 0 24) _ h) (cwl_X7_206_X7 hu ⟨by decide, by decide⟩) (rppre (ci := 6) hK hE hsz hI rfl rfl) rfl rfl hl.1 rfl (lv_room (Nat.le_of_ble_eq_true rfl)) dX7_toSix_276 ⟨by decide, by decide⟩) (fun L35 H locs h hI => ?_)
                refine lv_aload_n hx hb dX7_toSix_279 rfl (lv_at hl 0 rfl) ?_
                refine va_get (D := (dC, dI)) (ci := 6) (v := .ref (a 5)) (C := RX7) (T := TX7) (N := 44) hx hb hu uX7 hown hK hI.1 0 rfl rfl 23 (by decide) (hu _ uww_554) (fun _ h9 => h9) rfl dX7_toSix_280 ?_
                refine lv_iconst (v := (2 : Int32)) hx hb dX7_toSix_283 (by decide) ?_
                refine lv_aload_n hx hb dX7_toSix_284 rfl (lv_at hl 0 rfl) ?_
                refine rpcalli_p hsz hI (va_runV (As := []) (rest := [.int (2 : Int32), .ref (a 5)]) ⟨hx, hb, hml, hown, hu⟩ (met_X7_checksum_0 l dC dI a kA t _ M32 L35  _ h) (cwl_X7_177_X7 hu ⟨by decide, by decide⟩) (rppre (ci := 6) hK hE hsz hI rfl rfl) rfl rfl hl.1 rfl (lv_room (Nat.le_of_ble_eq_true rfl)) dX7_toSix_285 ⟨by decide, by decide⟩) (fun r36 H locs h hI => ?_)
                refine rpcallv_m hsz hI (va_runS (As := [.ref (a 5), .int (2 : Int32), .int r36]) (rest := []) ⟨hx, hb, hml, hown, hu⟩ (met_X7_putTwo_5 l dC dI a kA t _ M32 L35 (2 : Int32) r36 _ h) (cwl_X7_121_S hu ⟨by decide, by decide⟩) (rppreS hK hE hsz hI) rfl rfl hl.1 rfl (lv_room (Nat.le_of_ble_eq_true rfl)) dX7_toSix_288 ⟨by decide, by decide⟩) (fun M37 H locs h hI => ?_)
                refine lv_iconst (v := (0 : Int32)) hx hb dX7_toSix_291 (by decide) ?_
                exact rpiret (Z := (fun r M' L' => Z r M' L')) hx hb hr hlocks hK hI dX7_toSix_292 h
              refine lv_icmp_le (tgt := 215) hx hb dX7_toSix_205 (by decide) (fun c38 => ?_) (fun c38 => ?_)
              · have h := h.1 c38
                exact J215 M29 _ _ _ h hI (lv_sub hl [6] rfl)
              · have h := h.2 c38
                refine lv_aload_n hx hb dX7_toSix_208 rfl (lv_at hl 6 rfl) ?_
                refine lv_sipush (v := (1240 : Int32)) hx hb dX7_toSix_209 (by decide) ?_
                refine rpput (ci := 6) (C := RX7) (T := TX7) (N := 44) (ty := .int) hx hb hu uX7 tyX7 tyX7_ok nmX7 hown hK hI 0 rfl rfl 24 (by decide) (hu _ uww_626) (fun _ h9 => h9) rfl (by decide +kernel) rfl rfl (Nat.le_of_ble_eq_true rfl) (rpset_0_24 _ _ _ _ _) dX7_toSix_212 (fun H locs M39 eM39 hI => ?_)
                have h := h M39 eM39
                exact J215 M39 _ _ _ h hI (lv_sub hl [6] rfl)
            · have h := h.2 c26
              refine lv_bipush (v := (8 : Int32)) hx hb dX7_toSix_180 (by decide) ?_
              exact rpiret (Z := (fun r M' L' => Z r M' L')) hx hb hr hlocks hK hI dX7_toSix_182 h
          · have h := h.2 c12
            refine lv_bipush (v := (8 : Int32)) hx hb dX7_toSix_97 (by decide) ?_
            exact rpiret (Z := (fun r M' L' => Z r M' L')) hx hb hr hlocks hK hI dX7_toSix_99 h
        · have h := h.2 c8
          refine lv_iconst (v := (4 : Int32)) hx hb dX7_toSix_78 (by decide) ?_
          refine W.widen (k := 1) (n := 11) (by decide) (by decide) ?_
          exact rpiret (Z := (fun r M' L' => Z r M' L')) hx hb hr hlocks hK hI dX7_toSix_79 h
      refine lv_icmp_eq (tgt := 52) hx hb dX7_toSix_34 (by decide) (fun c40 => ?_) (fun c40 => ?_)
      · have h := h.1 c40
        exact J52  _ _ _ h hI (lv_sub hl [1, 2, 0] rfl)
      · have h := h.2 c40
        refine lv_iload_n hx hb dX7_toSix_37 rfl (lv_at hl 0 rfl) ?_
        refine lv_bipush (v := (11 : Int32)) hx hb dX7_toSix_38 (by decide) ?_
        refine lv_icmp_eq (tgt := 52) hx hb dX7_toSix_40 (by decide) (fun c41 => ?_) (fun c41 => ?_)
        · have h := h.1 c41
          exact J52  _ _ _ h hI (lv_sub hl [1, 2, 0] rfl)
        · have h := h.2 c41
          refine lv_iload_n hx hb dX7_toSix_43 rfl (lv_at hl 0 rfl) ?_
          refine lv_bipush (v := (12 : Int32)) hx hb dX7_toSix_44 (by decide) ?_
          refine lv_icmp_eq (tgt := 52) hx hb dX7_toSix_46 (by decide) (fun c42 => ?_) (fun c42 => ?_)
          · have h := h.1 c42
            exact J52  _ _ _ h hI (lv_sub hl [1, 2, 0] rfl)
          · have h := h.2 c42
            refine lv_bipush (v := (6 : Int32)) hx hb dX7_toSix_49 (by decide) ?_
            refine W.widen (k := 1) (n := 11) (by decide) (by decide) ?_
            exact rpiret (Z := (fun r M' L' => Z r M' L')) hx hb hr hlocks hK hI dX7_toSix_51 h
    · have h := h.2 c5
      exact J19  _ _ _ h hI (lv_sub hl [1, 2] rfl)

abbrev rm_X7_carried_0 : Room := { frames := 2, cells := 0, slots := 0, locals := 42 }
abbrev av_X7_carried_0 (a t : Nat → Nat) (p1 : Int32) (p2 : Int32) (p3 : Int32) (p4 : Int32) : List Value := [.ref (a 0), .int p1, .int p2, .int p3, .int p4]
abbrev qc_X7_carried_0 (dC : Nat → ClassId) (dI : Nat → Nat → Nat) (a : Nat → Nat) (kA : Nat → ClassId) (sz : Nat) (M : cM) (L : cL) (Z : Int32 → Prop) : Array Value → State → Outcome → State → Prop := va_Qi (fun r (u : cM × cL) => u.1 = M ∧ u.2 = L ∧ Z r) (rpAt dC dI a kA (rpA a sz)) (rpA a sz)
set_option maxHeartbeats 4000000 in
set_option maxRecDepth 100000 in
theorem met_X7_carried_0 (l : Launch) (dC : Nat → ClassId) (dI : Nat → Nat → Nat) (a : Nat → Nat) (kA : Nat → ClassId) (t : Nat → Nat) (sz : Nat) (M : cM) (L : cL) (p1 : Int32) (p2 : Int32) (p3 : Int32) (p4 : Int32) (Z : Int32 → Prop) (h : wp_X7_carried_0 M L p1 p2 p3 p4 Z) : Met l yX7_carried (Cond.code yX7_carried cX7_carried 6 (some .int) :: uW) rm_X7_carried_0 (va_Pc (av_X7_carried_0 a t p1 p2 p3 p4) (rpPre dC dI a kA t M L sz)) (qc_X7_carried_0 dC dI a kA sz M L Z) 0 0 (rpA a sz) := by
  refine rpenter (cc := cX7_carried) (n := 6) (ret := (some .int)) (by decide) rfl (Nat.le_of_ble_eq_true rfl) ?_
  intro p e s m below meth c ls hx hb hml hr hlocks hown hts hK hE hsz hI hl hmn
  have hu : ∀ w ∈ uW, w.before (av_X7_carried_0 a t p1 p2 p3 p4).toArray s = true := fun w h => hts w (List.mem_cons_of_mem _ h)
  have hown : s.vm.findClass RX7 = some m.cls := hown
  have hl : lv_has ls 6 [(0, .ref (a 0)), (1, .int p1), (2, .int p2), (3, .int p3), (4, .int p4)] := hl
  unfold wp_X7_carried_0 at h
  refine lv_aload_n hx hb dX7_carried_0 rfl (lv_at hl 0 rfl) ?_
  refine va_get (D := (dC, dI)) (ci := 6) (v := .int (M 0 35)) (C := RX7) (T := TX7) (N := 44) hx hb hu uX7 hown hK hI.1 0 rfl rfl 35 (by decide) (hu _ uww_671) (fun _ h9 => h9) rfl dX7_carried_1 ?_
  refine lv_bipush (v := (17 : Int32)) hx hb dX7_carried_4 (by decide) ?_
  obtain ⟨K32, hK32, h⟩ := h
  have J32 : ∀ (v1 : Int32) (H : Heap) (locs : List Loc) (ls : Array Slot), K32 v1 → rpI dC dI a kA (rpA a sz) s M L H locs → lv_has ls 6 [(0, .ref (a 0)), (1, .int p1), (2, .int p2), (3, .int p3)] → W p l e rm_X7_carried_0 s m (av_X7_carried_0 a t p1 p2 p3 p4).toArray below meth c H locs 0 0 (MQ below (qc_X7_carried_0 dC dI a kA sz M L Z) (av_X7_carried_0 a t p1 p2 p3 p4).toArray s 0 0 (rpA a sz)) (F0 m 32 ls [.int v1]) := by
    intro v1 H locs ls h hI hl
    have h := hK32 v1 h
    refine lv_istore (lv' := [(5, .int v1), (0, .ref (a 0)), (1, .int p1), (2, .int p2), (3, .int p3)]) hx hb dX7_carried_32 hl (by decide) rfl (fun ls hl => ?_)
    refine lv_iload hx hb dX7_carried_34 (lv_at hl 0 rfl) ?_
    refine lv_if_ne (tgt := 41) hx hb dX7_carried_36 (by decide) (fun c2 => ?_) (fun c2 => ?_)
    · have h := h.1 c2
      refine lv_iload_n hx hb dX7_carried_41 rfl (lv_at hl 3 rfl) ?_
      refine lv_bipush (v := (8 : Int32)) hx hb dX7_carried_42 (by decide) ?_
      refine lv_icmp_lt (tgt := 62) hx hb dX7_carried_44 (by decide) (fun c3 => ?_) (fun c3 => ?_)
      · have h := h.1 c3
        refine lv_iconst (v := (4 : Int32)) hx hb dX7_carried_62 (by decide) ?_
        exact rpiret (Z := (fun r M' L' => M' = M ∧ L' = L ∧ Z r)) hx hb hr hlocks hK hI dX7_carried_63 ⟨rfl, rfl, h⟩
      · have h := h.2 c3
        refine lv_aload_n hx hb dX7_carried_47 rfl (lv_at hl 1 rfl) ?_
        refine va_get (D := (dC, dI)) (ci := 6) (v := .int (M 0 35)) (C := RX7) (T := TX7) (N := 44) hx hb hu uX7 hown hK hI.1 0 rfl rfl 35 (by decide) (hu _ uww_671) (fun _ h9 => h9) rfl dX7_carried_48 ?_
        refine lv_bipush (v := (6 : Int32)) hx hb dX7_carried_51 (by decide) ?_
        obtain ⟨K64, hK64, h⟩ := h
        have J64 : ∀  (H : Heap) (locs : List Loc) (ls : Array Slot), K64  → rpI dC dI a kA (rpA a sz) s M L H locs → lv_has ls 6 [(0, .ref (a 0)), (1, .int p1), (2, .int p2), (3, .int p3)] → W p l e rm_X7_carried_0 s m (av_X7_carried_0 a t p1 p2 p3 p4).toArray below meth c H locs 0 0 (MQ below (qc_X7_carried_0 dC dI a kA sz M L Z) (av_X7_carried_0 a t p1 p2 p3 p4).toArray s 0 0 (rpA a sz)) (F0 m 64 ls []) := by
          intro  H locs ls h hI hl
          have h := hK64  h
          refine lv_aload_n hx hb dX7_carried_64 rfl (lv_at hl 0 rfl) ?_
          refine va_get (D := (dC, dI)) (ci := 6) (v := .int (M 0 35)) (C := RX7) (T := TX7) (N := 44) hx hb hu uX7 hown hK hI.1 0 rfl rfl 35 (by decide) (hu _ uww_671) (fun _ h9 => h9) rfl dX7_carried_65 ?_
          refine lv_bipush (v := (17 : Int32)) hx hb dX7_carried_68 (by decide) ?_
          refine lv_icmp_ne (tgt := 95) hx hb dX7_carried_70 (by decide) (fun c4 => ?_) (fun c4 => ?_)
          · have h := h.1 c4
            refine lv_iconst (v := (0 : Int32)) hx hb dX7_carried_95 (by decide) ?_
            exact rpiret (Z := (fun r M' L' => M' = M ∧ L' = L ∧ Z r)) hx hb hr hlocks hK hI dX7_carried_96 ⟨rfl, rfl, h⟩
          · have h := h.2 c4
            refine lv_iload_n hx hb dX7_carried_73 rfl (lv_at hl 3 rfl) ?_
            refine lv_if_ne (tgt := 95) hx hb dX7_carried_74 (by decide) (fun c5 => ?_) (fun c5 => ?_)
            · have h := h.1 c5
              refine lv_iconst (v := (0 : Int32)) hx hb dX7_carried_95 (by decide) ?_
              exact rpiret (Z := (fun r M' L' => M' = M ∧ L' = L ∧ Z r)) hx hb hr hlocks hK hI dX7_carried_96 ⟨rfl, rfl, h⟩
            · have h := h.2 c5
              refine lv_aload_n hx hb dX7_carried_77 rfl (lv_at hl 0 rfl) ?_
              refine va_get (D := (dC, dI)) (ci := 6) (v := .ref (a 1)) (C := RX7) (T := TX7) (N := 44) hx hb hu uX7 hown hK hI.1 0 rfl rfl 1 (by decide) (hu _ uww_538) (fun _ h9 => h9) rfl dX7_carried_78 ?_
              refine lv_iload_n hx hb dX7_carried_81 rfl (lv_at hl 1 rfl) ?_
              refine lv_iconst (v := (4 : Int32)) hx hb dX7_carried_82 (by decide) ?_
              refine lv_iadd hx hb dX7_carried_83 ?_
              refine rpcalli_p hsz hI (va_runS (As := [.ref (a 1), .int (p1 + (4 : Int32))]) (rest := []) ⟨hx, hb, hml, hown, hu⟩ (met_X7_twoAt_1 l dC dI a kA t _ M L (p1 + (4 : Int32)) _ h) (cwl_X7_115_S hu ⟨by decide, by decide⟩) (rppreS hK hE hsz hI) rfl rfl hl.1 rfl (lv_room (Nat.le_of_ble_eq_true rfl)) dX7_carried_84 ⟨by decide, by decide⟩) (fun r6 H locs h hI => ?_)
              refine lv_iload_n hx hb dX7_carried_87 rfl (lv_at hl 2 rfl) ?_
              refine lv_icmp_eq (tgt := 95) hx hb dX7_carried_88 (by decide) (fun c7 => ?_) (fun c7 => ?_)
              · have h := h.1 c7
                refine lv_iconst (v := (0 : Int32)) hx hb dX7_carried_95 (by decide) ?_
                exact rpiret (Z := (fun r M' L' => M' = M ∧ L' = L ∧ Z r)) hx hb hr hlocks hK hI dX7_carried_96 ⟨rfl, rfl, h⟩
              · have h := h.2 c7
                refine lv_iconst (v := (4 : Int32)) hx hb dX7_carried_91 (by decide) ?_
                refine lv_goto (tgt := 96) hx hb dX7_carried_92 (by decide) ?_
                exact rpiret (Z := (fun r M' L' => M' = M ∧ L' = L ∧ Z r)) hx hb hr hlocks hK hI dX7_carried_96 ⟨rfl, rfl, h⟩
        refine lv_icmp_ne (tgt := 64) hx hb dX7_carried_53 (by decide) (fun c8 => ?_) (fun c8 => ?_)
        · have h := h.1 c8
          exact J64  _ _ _ h hI (lv_sub hl [1, 2, 3, 4] rfl)
        · have h := h.2 c8
          refine lv_iload_n hx hb dX7_carried_56 rfl (lv_at hl 3 rfl) ?_
          refine lv_bipush (v := (20 : Int32)) hx hb dX7_carried_57 (by decide) ?_
          refine lv_icmp_ge (tgt := 64) hx hb dX7_carried_59 (by decide) (fun c9 => ?_) (fun c9 => ?_)
          · have h := h.1 c9
            exact J64  _ _ _ h hI (lv_sub hl [1, 2, 3, 4] rfl)
          · have h := h.2 c9
            refine lv_iconst (v := (4 : Int32)) hx hb dX7_carried_62 (by decide) ?_
            exact rpiret (Z := (fun r M' L' => M' = M ∧ L' = L ∧ Z r)) hx hb hr hlocks hK hI dX7_carried_63 ⟨rfl, rfl, h⟩
    · have h := h.2 c2
      refine lv_iconst (v := (0 : Int32)) hx hb dX7_carried_39 (by decide) ?_
      exact rpiret (Z := (fun r M' L' => M' = M ∧ L' = L ∧ Z r)) hx hb hr hlocks hK hI dX7_carried_40 ⟨rfl, rfl, h⟩
  obtain ⟨K27, hK27, h⟩ := h
  have J27 : ∀  (H : Heap) (locs : List Loc) (ls : Array Slot), K27  → rpI dC dI a kA (rpA a sz) s M L H locs → lv_has ls 6 [(0, .ref (a 0)), (1, .int p1), (2, .int p2), (3, .int p3)] → W p l e rm_X7_carried_0 s m (av_X7_carried_0 a t p1 p2 p3 p4).toArray below meth c H locs 0 0 (MQ below (qc_X7_carried_0 dC dI a kA sz M L Z) (av_X7_carried_0 a t p1 p2 p3 p4).toArray s 0 0 (rpA a sz)) (F0 m 27 ls []) := by
    intro  H locs ls h hI hl
    have h := hK27  h
    refine lv_iconst (v := (1 : Int32)) hx hb dX7_carried_27 (by decide) ?_
    refine lv_goto (tgt := 32) hx hb dX7_carried_28 (by decide) ?_
    exact J32 (1 : Int32) _ _ _ h hI (lv_sub hl [0, 1, 2, 3] rfl)
  refine lv_icmp_eq (tgt := 27) hx hb dX7_carried_6 (by decide) (fun c10 => ?_) (fun c10 => ?_)
  · have h := h.1 c10
    exact J27  _ _ _ h hI (lv_sub hl [0, 1, 2, 3] rfl)
  · have h := h.2 c10
    refine lv_aload_n hx hb dX7_carried_9 rfl (lv_at hl 0 rfl) ?_
    refine va_get (D := (dC, dI)) (ci := 6) (v := .int (M 0 35)) (C := RX7) (T := TX7) (N := 44) hx hb hu uX7 hown hK hI.1 0 rfl rfl 35 (by decide) (hu _ uww_671) (fun _ h9 => h9) rfl dX7_carried_10 ?_
    refine lv_bipush (v := (6 : Int32)) hx hb dX7_carried_13 (by decide) ?_
    refine lv_icmp_eq (tgt := 27) hx hb dX7_carried_15 (by decide) (fun c11 => ?_) (fun c11 => ?_)
    · have h := h.1 c11
      exact J27  _ _ _ h hI (lv_sub hl [0, 1, 2, 3] rfl)
    · have h := h.2 c11
      refine lv_aload_n hx hb dX7_carried_18 rfl (lv_at hl 0 rfl) ?_
      refine va_get (D := (dC, dI)) (ci := 6) (v := .int (M 0 35)) (C := RX7) (T := TX7) (N := 44) hx hb hu uX7 hown hK hI.1 0 rfl rfl 35 (by decide) (hu _ uww_671) (fun _ h9 => h9) rfl dX7_carried_19 ?_
      refine lv_iload hx hb dX7_carried_22 (lv_at hl 4 rfl) ?_
      refine lv_icmp_ne (tgt := 31) hx hb dX7_carried_24 (by decide) (fun c12 => ?_) (fun c12 => ?_)
      · have h := h.1 c12
        refine lv_iconst (v := (0 : Int32)) hx hb dX7_carried_31 (by decide) ?_
        exact J32 (0 : Int32) _ _ _ h hI (lv_sub hl [0, 1, 2, 3] rfl)
      · have h := h.2 c12
        exact J27  _ _ _ h hI (lv_sub hl [0, 1, 2, 3] rfl)
