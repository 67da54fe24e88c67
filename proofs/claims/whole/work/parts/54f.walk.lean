abbrev rm_X7_head4_0 : Room := { frames := 3, cells := 0, slots := 0, locals := 66 }
abbrev av_X7_head4_0 (a t : Nat → Nat) (p1 : Int32) (p2 : Int32) (p3 : Int32) (p4 : Int32) (p5 : Int32) (p6 : Int32) (p7 : Int32) (p8 : Int32) : List Value := [.ref (a 0), .int p1, .int p2, .int p3, .int p4, .int p5, .int p6, .int p7, .int p8]
abbrev qc_X7_head4_0 (dC : Nat → ClassId) (dI : Nat → Nat → Nat) (a : Nat → Nat) (kA : Nat → ClassId) (sz : Nat) (M : cM) (L : cL) (Z : cM → cL → Prop) : Array Value → State → Outcome → State → Prop := va_Qv (fun (u : cM × cL) => Z u.1 u.2) (rpAt dC dI a kA (rpA a sz)) (rpA a sz)
set_option maxHeartbeats 4000000 in
set_option maxRecDepth 100000 in
theorem met_X7_head4_0 (l : Launch) (dC : Nat → ClassId) (dI : Nat → Nat → Nat) (a : Nat → Nat) (kA : Nat → ClassId) (t : Nat → Nat) (sz : Nat) (M : cM) (L : cL) (p1 : Int32) (p2 : Int32) (p3 : Int32) (p4 : Int32) (p5 : Int32) (p6 : Int32) (p7 : Int32) (p8 : Int32) (Z : cM → cL → Prop) (h : wp_X7_head4_0 M L p1 p2 p3 p4 p5 p6 p7 p8 Z) : Met l yX7_head4 (Cond.code yX7_head4 cX7_head4 9 none :: uW) rm_X7_head4_0 (va_Pc (av_X7_head4_0 a t p1 p2 p3 p4 p5 p6 p7 p8) (rpPre dC dI a kA t M L sz)) (qc_X7_head4_0 dC dI a kA sz M L Z) 0 0 (rpA a sz) := by
  refine rpenter (cc := cX7_head4) (n := 9) (ret := none) (by decide) rfl (Nat.le_of_ble_eq_true rfl) ?_
  intro p e s m below meth c ls hx hb hml hr hlocks hown hts hK hE hsz hI hl hmn
  have hu : ∀ w ∈ uW, w.before (av_X7_head4_0 a t p1 p2 p3 p4 p5 p6 p7 p8).toArray s = true := fun w h => hts w (List.mem_cons_of_mem _ h)
  have hown : s.vm.findClass RX7 = some m.cls := hown
  have hl : lv_has ls 9 [(0, .ref (a 0)), (1, .int p1), (2, .int p2), (3, .int p3), (4, .int p4), (5, .int p5), (6, .int p6), (7, .int p7), (8, .int p8)] := hl
  unfold wp_X7_head4_0 at h
  refine lv_aload_n hx hb dX7_head4_0 rfl (lv_at hl 0 rfl) ?_
  refine va_get (D := (dC, dI)) (ci := 6) (v := .ref (a 3)) (C := RX7) (T := TX7) (N := 44) hx hb hu uX7 hown hK hI.1 0 rfl rfl 19 (by decide) (hu _ uww_552) (fun _ h9 => h9) rfl dX7_head4_1 ?_
  refine lv_iload_n hx hb dX7_head4_4 rfl (lv_at hl 1 rfl) ?_
  refine lv_bipush (v := (69 : Int32)) hx hb dX7_head4_5 (by decide) ?_
  refine rpbast hx hb hK hI 3 2 rfl rfl h.1 (rpset_3 _ _ _ _ _ _) dX7_head4_7 (fun H locs M1 eM1 hI => ?_)
  have h := h.2 M1 eM1
  refine lv_aload_n hx hb dX7_head4_8 rfl (lv_at hl 0 rfl) ?_
  refine va_get (D := (dC, dI)) (ci := 6) (v := .ref (a 3)) (C := RX7) (T := TX7) (N := 44) hx hb hu uX7 hown hK hI.1 0 rfl rfl 19 (by decide) (hu _ uww_552) (fun _ h9 => h9) rfl dX7_head4_9 ?_
  refine lv_iload_n hx hb dX7_head4_12 rfl (lv_at hl 1 rfl) ?_
  refine lv_iconst (v := (1 : Int32)) hx hb dX7_head4_13 (by decide) ?_
  refine lv_iadd hx hb dX7_head4_14 ?_
  refine lv_aload_n hx hb dX7_head4_15 rfl (lv_at hl 0 rfl) ?_
  refine va_get (D := (dC, dI)) (ci := 6) (v := .int (M1 0 11)) (C := RX7) (T := TX7) (N := 44) hx hb hu uX7 hown hK hI.1 0 rfl rfl 11 (by decide) (hu _ uww_549) (fun _ h9 => h9) rfl dX7_head4_16 ?_
  obtain ⟨K27, hK27, h⟩ := h
  have J27 : ∀ (v2 : Int32) (H : Heap) (locs : List Loc) (ls : Array Slot), K27 v2 → rpI dC dI a kA (rpA a sz) s M1 L H locs → lv_has ls 9 [(0, .ref (a 0)), (1, .int p1), (3, .int p3), (4, .int p4), (5, .int p5), (6, .int p6), (7, .int p7), (8, .int p8)] → W p l e rm_X7_head4_0 s m (av_X7_head4_0 a t p1 p2 p3 p4 p5 p6 p7 p8).toArray below meth c H locs 0 0 (MQ below (qc_X7_head4_0 dC dI a kA sz M L Z) (av_X7_head4_0 a t p1 p2 p3 p4 p5 p6 p7 p8).toArray s 0 0 (rpA a sz)) (F0 m 27 ls [.int v2, .int (p1 + (1 : Int32)), .ref (a 3)]) := by
    intro v2 H locs ls h hI hl
    have h := hK27 v2 h
    refine lv_i2b hx hb dX7_head4_27 rfl ?_
    refine rpbast hx hb hK hI 3 2 rfl rfl h.1 (rpset_3 _ _ _ _ _ _) dX7_head4_28 (fun H locs M3 eM3 hI => ?_)
    have h := h.2 M3 eM3
    refine lv_aload_n hx hb dX7_head4_29 rfl (lv_at hl 0 rfl) ?_
    refine va_get (D := (dC, dI)) (ci := 6) (v := .ref (a 3)) (C := RX7) (T := TX7) (N := 44) hx hb hu uX7 hown hK hI.1 0 rfl rfl 19 (by decide) (hu _ uww_552) (fun _ h9 => h9) rfl dX7_head4_30 ?_
    refine lv_iload_n hx hb dX7_head4_33 rfl (lv_at hl 1 rfl) ?_
    refine lv_iconst (v := (2 : Int32)) hx hb dX7_head4_34 (by decide) ?_
    refine lv_iadd hx hb dX7_head4_35 ?_
    refine lv_iload_n hx hb dX7_head4_36 rfl (lv_at hl 2 rfl) ?_
    refine rpcallv_m hsz hI (va_runS (As := [.ref (a 3), .int (p1 + (2 : Int32)), .int p3]) (rest := []) ⟨hx, hb, hml, hown, hu⟩ (met_X7_putTwo_3 l dC dI a kA t _ M3 L (p1 + (2 : Int32)) p3 _ h) (cwl_X7_121_S hu ⟨by decide, by decide⟩) (rppreS hK hE hsz hI) rfl rfl hl.1 rfl (lv_room (Nat.le_of_ble_eq_true rfl)) dX7_head4_37 ⟨by decide, by decide⟩) (fun M4 H locs h hI => ?_)
    refine lv_aload_n hx hb dX7_head4_40 rfl (lv_at hl 0 rfl) ?_
    refine va_get (D := (dC, dI)) (ci := 6) (v := .ref (a 3)) (C := RX7) (T := TX7) (N := 44) hx hb hu uX7 hown hK hI.1 0 rfl rfl 19 (by decide) (hu _ uww_552) (fun _ h9 => h9) rfl dX7_head4_41 ?_
    refine lv_iload_n hx hb dX7_head4_44 rfl (lv_at hl 1 rfl) ?_
    refine lv_iconst (v := (4 : Int32)) hx hb dX7_head4_45 (by decide) ?_
    refine lv_iadd hx hb dX7_head4_46 ?_
    refine lv_iload hx hb dX7_head4_47 (lv_at hl 3 rfl) ?_
    refine rpcallv_m hsz hI (va_runS (As := [.ref (a 3), .int (p1 + (4 : Int32)), .int p4]) (rest := []) ⟨hx, hb, hml, hown, hu⟩ (met_X7_putTwo_3 l dC dI a kA t _ M4 L (p1 + (4 : Int32)) p4 _ h) (cwl_X7_121_S hu ⟨by decide, by decide⟩) (rppreS hK hE hsz hI) rfl rfl hl.1 rfl (lv_room (Nat.le_of_ble_eq_true rfl)) dX7_head4_49 ⟨by decide, by decide⟩) (fun M5 H locs h hI => ?_)
    refine lv_aload_n hx hb dX7_head4_52 rfl (lv_at hl 0 rfl) ?_
    refine va_get (D := (dC, dI)) (ci := 6) (v := .ref (a 3)) (C := RX7) (T := TX7) (N := 44) hx hb hu uX7 hown hK hI.1 0 rfl rfl 19 (by decide) (hu _ uww_552) (fun _ h9 => h9) rfl dX7_head4_53 ?_
    refine lv_iload_n hx hb dX7_head4_56 rfl (lv_at hl 1 rfl) ?_
    refine lv_bipush (v := (6 : Int32)) hx hb dX7_head4_57 (by decide) ?_
    refine lv_iadd hx hb dX7_head4_59 ?_
    refine lv_iload hx hb dX7_head4_60 (lv_at hl 4 rfl) ?_
    obtain ⟨K72, hK72, h⟩ := h
    have J72 : ∀ (v6 : Int32) (H : Heap) (locs : List Loc) (ls : Array Slot), K72 v6 → rpI dC dI a kA (rpA a sz) s M5 L H locs → lv_has ls 9 [(0, .ref (a 0)), (1, .int p1), (6, .int p6), (7, .int p7), (8, .int p8)] → W p l e rm_X7_head4_0 s m (av_X7_head4_0 a t p1 p2 p3 p4 p5 p6 p7 p8).toArray below meth c H locs 0 0 (MQ below (qc_X7_head4_0 dC dI a kA sz M L Z) (av_X7_head4_0 a t p1 p2 p3 p4 p5 p6 p7 p8).toArray s 0 0 (rpA a sz)) (F0 m 72 ls [.int v6, .int (p1 + (6 : Int32)), .ref (a 3)]) := by
      intro v6 H locs ls h hI hl
      have h := hK72 v6 h
      refine lv_iload hx hb dX7_head4_72 (lv_at hl 3 rfl) ?_
      obtain ⟨K84, hK84, h⟩ := h
      have J84 : ∀ (v7 : Int32) (H : Heap) (locs : List Loc) (ls : Array Slot), K84 v7 → rpI dC dI a kA (rpA a sz) s M5 L H locs → lv_has ls 9 [(0, .ref (a 0)), (1, .int p1), (6, .int p6), (8, .int p8)] → W p l e rm_X7_head4_0 s m (av_X7_head4_0 a t p1 p2 p3 p4 p5 p6 p7 p8).toArray below meth c H locs 0 0 (MQ below (qc_X7_head4_0 dC dI a kA sz M L Z) (av_X7_head4_0 a t p1 p2 p3 p4 p5 p6 p7 p8).toArray s 0 0 (rpA a sz)) (F0 m 84 ls [.int v7, .int v6, .int (p1 + (6 : Int32)), .ref (a 3)]) := by
        intro v7 H locs ls h hI hl
        have h := hK84 v7 h
        refine lv_ior hx hb dX7_head4_84 ?_
        refine lv_iload hx hb dX7_head4_85 (lv_at hl 2 rfl) ?_
        refine lv_bipush (v := (8 : Int32)) hx hb dX7_head4_87 (by decide) ?_
        refine lv_idiv hx hb dX7_head4_89 (by decide) ?_
        refine lv_ior hx hb dX7_head4_90 ?_
        refine rpcallv_m hsz hI (va_runS (As := [.ref (a 3), .int (p1 + (6 : Int32)), .int ((v6 ||| v7) ||| (p6 / (8 : Int32)))]) (rest := []) ⟨hx, hb, hml, hown, hu⟩ (met_X7_putTwo_3 l dC dI a kA t _ M5 L (p1 + (6 : Int32)) ((v6 ||| v7) ||| (p6 / (8 : Int32))) _ h) (cwl_X7_121_S hu ⟨by decide, by decide⟩) (rppreS hK hE hsz hI) rfl rfl hl.1 rfl (lv_room (Nat.le_of_ble_eq_true rfl)) dX7_head4_91 ⟨by decide, by decide⟩) (fun M8 H locs h hI => ?_)
        refine lv_aload_n hx hb dX7_head4_94 rfl (lv_at hl 0 rfl) ?_
        refine va_get (D := (dC, dI)) (ci := 6) (v := .ref (a 3)) (C := RX7) (T := TX7) (N := 44) hx hb hu uX7 hown hK hI.1 0 rfl rfl 19 (by decide) (hu _ uww_552) (fun _ h9 => h9) rfl dX7_head4_95 ?_
        refine lv_iload_n hx hb dX7_head4_98 rfl (lv_at hl 1 rfl) ?_
        refine lv_bipush (v := (8 : Int32)) hx hb dX7_head4_99 (by decide) ?_
        refine lv_iadd hx hb dX7_head4_101 ?_
        refine lv_iload hx hb dX7_head4_102 (lv_at hl 3 rfl) ?_
        refine lv_i2b hx hb dX7_head4_104 rfl ?_
        refine rpbast hx hb hK hI 3 2 rfl rfl h.1 (rpset_3 _ _ _ _ _ _) dX7_head4_105 (fun H locs M9 eM9 hI => ?_)
        have h := h.2 M9 eM9
        refine lv_aload_n hx hb dX7_head4_106 rfl (lv_at hl 0 rfl) ?_
        refine va_get (D := (dC, dI)) (ci := 6) (v := .ref (a 3)) (C := RX7) (T := TX7) (N := 44) hx hb hu uX7 hown hK hI.1 0 rfl rfl 19 (by decide) (hu _ uww_552) (fun _ h9 => h9) rfl dX7_head4_107 ?_
        refine lv_iload_n hx hb dX7_head4_110 rfl (lv_at hl 1 rfl) ?_
        refine lv_bipush (v := (9 : Int32)) hx hb dX7_head4_111 (by decide) ?_
        refine lv_iadd hx hb dX7_head4_113 ?_
        refine lv_aload_n hx hb dX7_head4_114 rfl (lv_at hl 0 rfl) ?_
        refine va_get (D := (dC, dI)) (ci := 6) (v := .int (M9 0 35)) (C := RX7) (T := TX7) (N := 44) hx hb hu uX7 hown hK hI.1 0 rfl rfl 35 (by decide) (hu _ uww_671) (fun _ h9 => h9) rfl dX7_head4_115 ?_
        refine lv_bipush (v := (58 : Int32)) hx hb dX7_head4_118 (by decide) ?_
        obtain ⟨K131, hK131, h⟩ := h
        have J131 : ∀ (v10 : Int32) (H : Heap) (locs : List Loc) (ls : Array Slot), K131 v10 → rpI dC dI a kA (rpA a sz) s M9 L H locs → lv_has ls 9 [(0, .ref (a 0)), (1, .int p1)] → W p l e rm_X7_head4_0 s m (av_X7_head4_0 a t p1 p2 p3 p4 p5 p6 p7 p8).toArray below meth c H locs 0 0 (MQ below (qc_X7_head4_0 dC dI a kA sz M L Z) (av_X7_head4_0 a t p1 p2 p3 p4 p5 p6 p7 p8).toArray s 0 0 (rpA a sz)) (F0 m 131 ls [.int v10, .int (p1 + (9 : Int32)), .ref (a 3)]) := by
          intro v10 H locs ls h hI hl
          have h := hK131 v10 h
          refine lv_i2b hx hb dX7_head4_131 rfl ?_
          refine rpbast hx hb hK hI 3 2 rfl rfl h.1 (rpset_3 _ _ _ _ _ _) dX7_head4_132 (fun H locs M11 eM11 hI => ?_)
          have h := h.2 M11 eM11
          refine lv_aload_n hx hb dX7_head4_133 rfl (lv_at hl 0 rfl) ?_
          refine va_get (D := (dC, dI)) (ci := 6) (v := .ref (a 3)) (C := RX7) (T := TX7) (N := 44) hx hb hu uX7 hown hK hI.1 0 rfl rfl 19 (by decide) (hu _ uww_552) (fun _ h9 => h9) rfl dX7_head4_134 ?_
          refine lv_iload_n hx hb dX7_head4_137 rfl (lv_at hl 1 rfl) ?_
          refine lv_bipush (v := (12 : Int32)) hx hb dX7_head4_138 (by decide) ?_
          refine lv_iadd hx hb dX7_head4_140 ?_
          refine lv_aload_n hx hb dX7_head4_141 rfl (lv_at hl 0 rfl) ?_
          refine va_get (D := (dC, dI)) (ci := 6) (v := .int (M11 0 25)) (C := RX7) (T := TX7) (N := 44) hx hb hu uX7 hown hK hI.1 0 rfl rfl 25 (by decide) (hu _ uww_628) (fun _ h9 => h9) rfl dX7_head4_142 ?_
          refine rpcallv_m hsz hI (va_runS (As := [.ref (a 3), .int (p1 + (12 : Int32)), .int (M11 0 25)]) (rest := []) ⟨hx, hb, hml, hown, hu⟩ (met_X7_putInt_3 l dC dI a kA t _ M11 L (p1 + (12 : Int32)) (M11 0 25) _ h) (cwl_X7_125_S hu ⟨by decide, by decide⟩) (rppreS hK hE hsz hI) rfl rfl hl.1 rfl (lv_room (Nat.le_of_ble_eq_true rfl)) dX7_head4_145 ⟨by decide, by decide⟩) (fun M12 H locs h hI => ?_)
          refine lv_aload_n hx hb dX7_head4_148 rfl (lv_at hl 0 rfl) ?_
          refine va_get (D := (dC, dI)) (ci := 6) (v := .ref (a 3)) (C := RX7) (T := TX7) (N := 44) hx hb hu uX7 hown hK hI.1 0 rfl rfl 19 (by decide) (hu _ uww_552) (fun _ h9 => h9) rfl dX7_head4_149 ?_
          refine lv_iload_n hx hb dX7_head4_152 rfl (lv_at hl 1 rfl) ?_
          refine lv_bipush (v := (16 : Int32)) hx hb dX7_head4_153 (by decide) ?_
          refine lv_iadd hx hb dX7_head4_155 ?_
          refine lv_aload_n hx hb dX7_head4_156 rfl (lv_at hl 0 rfl) ?_
          refine va_get (D := (dC, dI)) (ci := 6) (v := .int (M12 0 26)) (C := RX7) (T := TX7) (N := 44) hx hb hu uX7 hown hK hI.1 0 rfl rfl 26 (by decide) (hu _ uww_629) (fun _ h9 => h9) rfl dX7_head4_157 ?_
          refine rpcallv_m hsz hI (va_runS (As := [.ref (a 3), .int (p1 + (16 : Int32)), .int (M12 0 26)]) (rest := []) ⟨hx, hb, hml, hown, hu⟩ (met_X7_putInt_3 l dC dI a kA t _ M12 L (p1 + (16 : Int32)) (M12 0 26) _ h) (cwl_X7_125_S hu ⟨by decide, by decide⟩) (rppreS hK hE hsz hI) rfl rfl hl.1 rfl (lv_room (Nat.le_of_ble_eq_true rfl)) dX7_head4_160 ⟨by decide, by decide⟩) (fun M13 H locs h hI => ?_)
          refine lv_aload_n hx hb dX7_head4_163 rfl (lv_at hl 0 rfl) ?_
          refine lv_iload_n hx hb dX7_head4_164 rfl (lv_at hl 1 rfl) ?_
          refine rpcallv hsz hI (va_runV (As := [.int p1]) (rest := []) ⟨hx, hb, hml, hown, hu⟩ (met_X7_headerSum_0 l dC dI a kA t _ M13 L p1 _ h) (cwl_X7_220_X7 hu ⟨by decide, by decide⟩) (rppre (ci := 6) hK hE hsz hI rfl rfl) rfl rfl hl.1 rfl (lv_room (Nat.le_of_ble_eq_true rfl)) dX7_head4_165 ⟨by decide, by decide⟩) (fun M14 L15 H locs h hI => ?_)
          exact rpvret (Z := (fun M' L' => Z M' L')) hx hb hr hlocks hK hI dX7_head4_168 h
        refine lv_icmp_ne (tgt := 127) hx hb dX7_head4_120 (by decide) (fun c16 => ?_) (fun c16 => ?_)
        · have h := h.1 c16
          refine lv_aload_n hx hb dX7_head4_127 rfl (lv_at hl 0 rfl) ?_
          refine va_get (D := (dC, dI)) (ci := 6) (v := .int (M9 0 35)) (C := RX7) (T := TX7) (N := 44) hx hb hu uX7 hown hK hI.1 0 rfl rfl 35 (by decide) (hu _ uww_671) (fun _ h9 => h9) rfl dX7_head4_128 ?_
          exact J131 (M9 0 35) _ _ _ h hI (lv_sub hl [0, 1] rfl)
        · have h := h.2 c16
          refine lv_iconst (v := (1 : Int32)) hx hb dX7_head4_123 (by decide) ?_
          refine lv_goto (tgt := 131) hx hb dX7_head4_124 (by decide) ?_
          exact J131 (1 : Int32) _ _ _ h hI (lv_sub hl [0, 1] rfl)
      refine lv_if_eq (tgt := 83) hx hb dX7_head4_74 (by decide) (fun c17 => ?_) (fun c17 => ?_)
      · have h := h.1 c17
        refine lv_iconst (v := (0 : Int32)) hx hb dX7_head4_83 (by decide) ?_
        exact J84 (0 : Int32) _ _ _ h hI (lv_sub hl [0, 1, 2, 4] rfl)
      · have h := h.2 c17
        refine lv_sipush (v := (8192 : Int32)) hx hb dX7_head4_77 (by decide) ?_
        refine lv_goto (tgt := 84) hx hb dX7_head4_80 (by decide) ?_
        exact J84 (8192 : Int32) _ _ _ h hI (lv_sub hl [0, 1, 2, 4] rfl)
    refine lv_if_eq (tgt := 71) hx hb dX7_head4_62 (by decide) (fun c18 => ?_) (fun c18 => ?_)
    · have h := h.1 c18
      refine lv_iconst (v := (0 : Int32)) hx hb dX7_head4_71 (by decide) ?_
      exact J72 (0 : Int32) _ _ _ h hI (lv_sub hl [0, 1, 5, 6, 7] rfl)
    · have h := h.2 c18
      refine lv_sipush (v := (16384 : Int32)) hx hb dX7_head4_65 (by decide) ?_
      refine lv_goto (tgt := 72) hx hb dX7_head4_68 (by decide) ?_
      exact J72 (16384 : Int32) _ _ _ h hI (lv_sub hl [0, 1, 5, 6, 7] rfl)
  refine lv_if_eq (tgt := 26) hx hb dX7_head4_19 (by decide) (fun c19 => ?_) (fun c19 => ?_)
  · have h := h.1 c19
    refine lv_iconst (v := (0 : Int32)) hx hb dX7_head4_26 (by decide) ?_
    exact J27 (0 : Int32) _ _ _ h hI (lv_sub hl [0, 1, 3, 4, 5, 6, 7, 8] rfl)
  · have h := h.2 c19
    refine lv_iload_n hx hb dX7_head4_22 rfl (lv_at hl 2 rfl) ?_
    refine lv_goto (tgt := 27) hx hb dX7_head4_23 (by decide) ?_
    exact J27 p2 _ _ _ h hI (lv_sub hl [0, 1, 3, 4, 5, 6, 7, 8] rfl)

abbrev rm_X7_answer6_0 : Room := { frames := 4, cells := 0, slots := 0, locals := 84 }
abbrev av_X7_answer6_0 (a t : Nat → Nat) (p1 : Int32) (p2 : Int32) (p3 : Int32) : List Value := [.ref (a 0), .int p1, .int p2, .int p3]
abbrev qc_X7_answer6_0 (dC : Nat → ClassId) (dI : Nat → Nat → Nat) (a : Nat → Nat) (kA : Nat → ClassId) (sz : Nat) (M : cM) (L : cL) (Z : Int32 → cM → cL → Prop) : Array Value → State → Outcome → State → Prop := va_Qi (fun r (u : cM × cL) => Z r u.1 u.2) (rpAt dC dI a kA (rpA a sz)) (rpA a sz)
set_option maxHeartbeats 4000000 in
set_option maxRecDepth 100000 in
theorem met_X7_answer6_0 (l : Launch) (dC : Nat → ClassId) (dI : Nat → Nat → Nat) (a : Nat → Nat) (kA : Nat → ClassId) (t : Nat → Nat) (sz : Nat) (M : cM) (L : cL) (p1 : Int32) (p2 : Int32) (p3 : Int32) (Z : Int32 → cM → cL → Prop) (h : wp_X7_answer6_0 M L p1 p2 p3 Z) : Met l yX7_answer6 (Cond.code yX7_answer6 cX7_answer6 8 (some .int) :: uW) rm_X7_answer6_0 (va_Pc (av_X7_answer6_0 a t p1 p2 p3) (rpPre dC dI a kA t M L sz)) (qc_X7_answer6_0 dC dI a kA sz M L Z) 0 0 (rpA a sz) := by
  refine rpenter (cc := cX7_answer6) (n := 8) (ret := (some .int)) (by decide) rfl (Nat.le_of_ble_eq_true rfl) ?_
  intro p e s m below meth c ls hx hb hml hr hlocks hown hts hK hE hsz hI hl hmn
  have hu : ∀ w ∈ uW, w.before (av_X7_answer6_0 a t p1 p2 p3).toArray s = true := fun w h => hts w (List.mem_cons_of_mem _ h)
  have hown : s.vm.findClass RX7 = some m.cls := hown
  have hl : lv_has ls 8 [(0, .ref (a 0)), (1, .int p1), (2, .int p2), (3, .int p3)] := hl
  unfold wp_X7_answer6_0 at h
  refine lv_aload_n hx hb dX7_answer6_0 rfl (lv_at hl 0 rfl) ?_
  refine va_get (D := (dC, dI)) (ci := 6) (v := .int (M 0 33)) (C := RX7) (T := TX7) (N := 44) hx hb hu uX7 hown hK hI.1 0 rfl rfl 33 (by decide) (hu _ uww_669) (fun _ h9 => h9) rfl dX7_answer6_1 ?_
  obtain ⟨K69, hK69, h⟩ := h
  have J69 : ∀ (v1 : Int32) (H : Heap) (locs : List Loc) (ls : Array Slot), K69 v1 → rpI dC dI a kA (rpA a sz) s M L H locs → lv_has ls 8 [(0, .ref (a 0)), (1, .int p1), (2, .int p2), (3, .int p3)] → W p l e rm_X7_answer6_0 s m (av_X7_answer6_0 a t p1 p2 p3).toArray below meth c H locs 0 0 (MQ below (qc_X7_answer6_0 dC dI a kA sz M L Z) (av_X7_answer6_0 a t p1 p2 p3).toArray s 0 0 (rpA a sz)) (F0 m 69 ls [.int v1]) := by
    intro v1 H locs ls h hI hl
    have h := hK69 v1 h
    refine lv_istore (lv' := [(4, .int v1), (0, .ref (a 0)), (1, .int p1), (2, .int p2), (3, .int p3)]) hx hb dX7_answer6_69 hl (by decide) rfl (fun ls hl => ?_)
    refine lv_iload hx hb dX7_answer6_71 (lv_at hl 0 rfl) ?_
    refine lv_if_eq (tgt := 83) hx hb dX7_answer6_73 (by decide) (fun c2 => ?_) (fun c2 => ?_)
    · have h := h.1 c2
      refine lv_bipush (v := (40 : Int32)) hx hb dX7_answer6_83 (by decide) ?_
      refine lv_aload_n hx hb dX7_answer6_85 rfl (lv_at hl 1 rfl) ?_
      refine va_get (D := (dC, dI)) (ci := 6) (v := .int (M 0 43)) (C := RX7) (T := TX7) (N := 44) hx hb hu uX7 hown hK hI.1 0 rfl rfl 43 (by decide) (hu _ uww_769) (fun _ h9 => h9) rfl dX7_answer6_86 ?_
      refine lv_iadd hx hb dX7_answer6_89 ?_
      refine lv_sipush (v := (1232 : Int32)) hx hb dX7_answer6_90 (by decide) ?_
      obtain ⟨K109, hK109, h⟩ := h
      have J109 : ∀ (v3 : Int32) (H : Heap) (locs : List Loc) (ls : Array Slot), K109 v3 → rpI dC dI a kA (rpA a sz) s M L H locs → lv_has ls 8 [(0, .ref (a 0)), (1, .int p1), (2, .int p2), (3, .int p3)] → W p l e rm_X7_answer6_0 s m (av_X7_answer6_0 a t p1 p2 p3).toArray below meth c H locs 0 0 (MQ below (qc_X7_answer6_0 dC dI a kA sz M L Z) (av_X7_answer6_0 a t p1 p2 p3).toArray s 0 0 (rpA a sz)) (F0 m 109 ls [.int v3]) := by
        intro v3 H locs ls h hI hl
        have h := hK109 v3 h
        refine lv_istore (lv' := [(5, .int v3), (0, .ref (a 0)), (1, .int p1), (2, .int p2), (3, .int p3)]) hx hb dX7_answer6_109 hl (by decide) rfl (fun ls hl => ?_)
        refine lv_aload_n hx hb dX7_answer6_111 rfl (lv_at hl 1 rfl) ?_
        refine lv_bipush (v := (48 : Int32)) hx hb dX7_answer6_112 (by decide) ?_
        refine lv_iload hx hb dX7_answer6_114 (lv_at hl 0 rfl) ?_
        refine lv_iadd hx hb dX7_answer6_116 ?_
        refine rpcalli_m hsz hI (va_runV (As := [.int ((48 : Int32) + v3)]) (rest := []) ⟨hx, hb, hml, hown, hu⟩ (met_X7_more_0 l dC dI a kA t _ M L ((48 : Int32) + v3) _ h) (cwl_X7_217_X7 hu ⟨by decide, by decide⟩) (rppre (ci := 6) hK hE hsz hI rfl rfl) rfl rfl hl.1 rfl (lv_room (Nat.le_of_ble_eq_true rfl)) dX7_answer6_117 ⟨by decide, by decide⟩) (fun r4 M5 H locs h hI => ?_)
        refine lv_istore (lv' := [(6, .int r4), (5, .int v3), (0, .ref (a 0)), (1, .int p1), (2, .int p2), (3, .int p3)]) hx hb dX7_answer6_120 hl (by decide) rfl (fun ls hl => ?_)
        refine lv_aload_n hx hb dX7_answer6_122 rfl (lv_at hl 2 rfl) ?_
        refine va_get (D := (dC, dI)) (ci := 6) (v := .ref (a 3)) (C := RX7) (T := TX7) (N := 44) hx hb hu uX7 hown hK hI.1 0 rfl rfl 19 (by decide) (hu _ uww_552) (fun _ h9 => h9) rfl dX7_answer6_123 ?_
        refine lv_iload hx hb dX7_answer6_126 (lv_at hl 0 rfl) ?_
        refine lv_bipush (v := (96 : Int32)) hx hb dX7_answer6_128 (by decide) ?_
        refine rpbast hx hb hK hI 3 2 rfl rfl h.1 (rpset_3 _ _ _ _ _ _) dX7_answer6_130 (fun H locs M6 eM6 hI => ?_)
        have h := h.2 M6 eM6
        refine lv_aload_n hx hb dX7_answer6_131 rfl (lv_at hl 2 rfl) ?_
        refine va_get (D := (dC, dI)) (ci := 6) (v := .ref (a 3)) (C := RX7) (T := TX7) (N := 44) hx hb hu uX7 hown hK hI.1 0 rfl rfl 19 (by decide) (hu _ uww_552) (fun _ h9 => h9) rfl dX7_answer6_132 ?_
        refine lv_iload hx hb dX7_answer6_135 (lv_at hl 0 rfl) ?_
        refine lv_iconst (v := (4 : Int32)) hx hb dX7_answer6_137 (by decide) ?_
        refine lv_iadd hx hb dX7_answer6_138 ?_
        refine lv_bipush (v := (8 : Int32)) hx hb dX7_answer6_139 (by decide) ?_
        refine lv_iload hx hb dX7_answer6_141 (lv_at hl 1 rfl) ?_
        refine lv_iadd hx hb dX7_answer6_143 ?_
        refine rpcallv_m hsz hI (va_runS (As := [.ref (a 3), .int (r4 + (4 : Int32)), .int ((8 : Int32) + v3)]) (rest := []) ⟨hx, hb, hml, hown, hu⟩ (met_X7_putTwo_3 l dC dI a kA t _ M6 L (r4 + (4 : Int32)) ((8 : Int32) + v3) _ h) (cwl_X7_121_S hu ⟨by decide, by decide⟩) (rppreS hK hE hsz hI) rfl rfl hl.1 rfl (lv_room (Nat.le_of_ble_eq_true rfl)) dX7_answer6_144 ⟨by decide, by decide⟩) (fun M7 H locs h hI => ?_)
        refine lv_aload_n hx hb dX7_answer6_147 rfl (lv_at hl 2 rfl) ?_
        refine va_get (D := (dC, dI)) (ci := 6) (v := .ref (a 3)) (C := RX7) (T := TX7) (N := 44) hx hb hu uX7 hown hK hI.1 0 rfl rfl 19 (by decide) (hu _ uww_552) (fun _ h9 => h9) rfl dX7_answer6_148 ?_
        refine lv_iload hx hb dX7_answer6_151 (lv_at hl 0 rfl) ?_
        refine lv_bipush (v := (6 : Int32)) hx hb dX7_answer6_153 (by decide) ?_
        refine lv_iadd hx hb dX7_answer6_155 ?_
        refine lv_bipush (v := (58 : Int32)) hx hb dX7_answer6_156 (by decide) ?_
        refine rpbast hx hb hK hI 3 2 rfl rfl h.1 (rpset_3 _ _ _ _ _ _) dX7_answer6_158 (fun H locs M8 eM8 hI => ?_)
        have h := h.2 M8 eM8
        refine lv_aload_n hx hb dX7_answer6_159 rfl (lv_at hl 2 rfl) ?_
        refine va_get (D := (dC, dI)) (ci := 6) (v := .ref (a 3)) (C := RX7) (T := TX7) (N := 44) hx hb hu uX7 hown hK hI.1 0 rfl rfl 19 (by decide) (hu _ uww_552) (fun _ h9 => h9) rfl dX7_answer6_160 ?_
        refine lv_iload hx hb dX7_answer6_163 (lv_at hl 0 rfl) ?_
        refine lv_bipush (v := (7 : Int32)) hx hb dX7_answer6_165 (by decide) ?_
        refine lv_iadd hx hb dX7_answer6_167 ?_
        refine lv_bipush (v := (64 : Int32)) hx hb dX7_answer6_168 (by decide) ?_
        refine rpbast hx hb hK hI 3 2 rfl rfl h.1 (rpset_3 _ _ _ _ _ _) dX7_answer6_170 (fun H locs M9 eM9 hI => ?_)
        have h := h.2 M9 eM9
        refine lv_aload_n hx hb dX7_answer6_171 rfl (lv_at hl 2 rfl) ?_
        refine va_get (D := (dC, dI)) (ci := 6) (v := .ref (a 3)) (C := RX7) (T := TX7) (N := 44) hx hb hu uX7 hown hK hI.1 0 rfl rfl 19 (by decide) (hu _ uww_552) (fun _ h9 => h9) rfl dX7_answer6_172 ?_
        refine lv_iload hx hb dX7_answer6_175 (lv_at hl 0 rfl) ?_
        refine lv_bipush (v := (8 : Int32)) hx hb dX7_answer6_177 (by decide) ?_
        refine lv_iadd hx hb dX7_answer6_179 ?_
        refine lv_aload_n hx hb dX7_answer6_180 rfl (lv_at hl 2 rfl) ?_
        refine va_get (D := (dC, dI)) (ci := 6) (v := .long (L 0 7)) (C := RX7) (T := TX7) (N := 44) hx hb hu uX7 hown hK hI.1 0 rfl rfl 7 (by decide) (hu _ uww_545) (fun _ h9 => h9) rfl dX7_answer6_181 ?_
        refine rpcallv_m hsz hI (va_runS (As := [.ref (a 3), .int (r4 + (8 : Int32)), .long (L 0 7)]) (rest := []) ⟨hx, hb, hml, hown, hu⟩ (met_X7_putLong_3 l dC dI a kA t _ M9 L (r4 + (8 : Int32)) (L 0 7) _ h) (cwl_X7_265_S hu ⟨by decide, by decide⟩) (rppreS hK hE hsz hI) rfl rfl hl.1 rfl (lv_room (Nat.le_of_ble_eq_true rfl)) dX7_answer6_184 ⟨by decide, by decide⟩) (fun M10 H locs h hI => ?_)
        refine lv_aload_n hx hb dX7_answer6_187 rfl (lv_at hl 2 rfl) ?_
        refine va_get (D := (dC, dI)) (ci := 6) (v := .ref (a 3)) (C := RX7) (T := TX7) (N := 44) hx hb hu uX7 hown hK hI.1 0 rfl rfl 19 (by decide) (hu _ uww_552) (fun _ h9 => h9) rfl dX7_answer6_188 ?_
        refine lv_iload hx hb dX7_answer6_191 (lv_at hl 0 rfl) ?_
        refine lv_bipush (v := (16 : Int32)) hx hb dX7_answer6_193 (by decide) ?_
        refine lv_iadd hx hb dX7_answer6_195 ?_
        refine lv_aload_n hx hb dX7_answer6_196 rfl (lv_at hl 2 rfl) ?_
        refine va_get (D := (dC, dI)) (ci := 6) (v := .long (L 0 8)) (C := RX7) (T := TX7) (N := 44) hx hb hu uX7 hown hK hI.1 0 rfl rfl 8 (by decide) (hu _ uww_546) (fun _ h9 => h9) rfl dX7_answer6_197 ?_
        refine rpcallv_m hsz hI (va_runS (As := [.ref (a 3), .int (r4 + (16 : Int32)), .long (L 0 8)]) (rest := []) ⟨hx, hb, hml, hown, hu⟩ (met_X7_putLong_3 l dC dI a kA t _ M10 L (r4 + (16 : Int32)) (L 0 8) _ h) (cwl_X7_265_S hu ⟨by decide, by decide⟩) (rppreS hK hE hsz hI) rfl rfl hl.1 rfl (lv_room (Nat.le_of_ble_eq_true rfl)) dX7_answer6_200 ⟨by decide, by decide⟩) (fun M11 H locs h hI => ?_)
        refine lv_aload_n hx hb dX7_answer6_203 rfl (lv_at hl 2 rfl) ?_
        refine va_get (D := (dC, dI)) (ci := 6) (v := .ref (a 3)) (C := RX7) (T := TX7) (N := 44) hx hb hu uX7 hown hK hI.1 0 rfl rfl 19 (by decide) (hu _ uww_552) (fun _ h9 => h9) rfl dX7_answer6_204 ?_
        refine lv_iload hx hb dX7_answer6_207 (lv_at hl 0 rfl) ?_
        refine lv_bipush (v := (24 : Int32)) hx hb dX7_answer6_209 (by decide) ?_
        refine lv_iadd hx hb dX7_answer6_211 ?_
        refine lv_aload_n hx hb dX7_answer6_212 rfl (lv_at hl 2 rfl) ?_
        refine va_get (D := (dC, dI)) (ci := 6) (v := .ref (a 1)) (C := RX7) (T := TX7) (N := 44) hx hb hu uX7 hown hK hI.1 0 rfl rfl 1 (by decide) (hu _ uww_538) (fun _ h9 => h9) rfl dX7_answer6_213 ?_
        refine lv_bipush (v := (8 : Int32)) hx hb dX7_answer6_216 (by decide) ?_
        refine rpcalll_p hsz hI (va_runS (As := [.ref (a 1), .int (8 : Int32)]) (rest := [.int (r4 + (24 : Int32)), .ref (a 3)]) ⟨hx, hb, hml, hown, hu⟩ (met_X7_longAt_1 l dC dI a kA t _ M11 L (8 : Int32) _ h) (cwl_X7_155_S hu ⟨by decide, by decide⟩) (rppreS hK hE hsz hI) rfl rfl hl.1 rfl (lv_room (Nat.le_of_ble_eq_true rfl)) dX7_answer6_218 ⟨by decide, by decide⟩) (fun r12 H locs h hI => ?_)
        refine rpcallv_m hsz hI (va_runS (As := [.ref (a 3), .int (r4 + (24 : Int32)), .long r12]) (rest := []) ⟨hx, hb, hml, hown, hu⟩ (met_X7_putLong_3 l dC dI a kA t _ M11 L (r4 + (24 : Int32)) r12 _ h) (cwl_X7_265_S hu ⟨by decide, by decide⟩) (rppreS hK hE hsz hI) rfl rfl hl.1 rfl (lv_room (Nat.le_of_ble_eq_true rfl)) dX7_answer6_221 ⟨by decide, by decide⟩) (fun M13 H locs h hI => ?_)
        refine lv_aload_n hx hb dX7_answer6_224 rfl (lv_at hl 2 rfl) ?_
        refine va_get (D := (dC, dI)) (ci := 6) (v := .ref (a 3)) (C := RX7) (T := TX7) (N := 44) hx hb hu uX7 hown hK hI.1 0 rfl rfl 19 (by decide) (hu _ uww_552) (fun _ h9 => h9) rfl dX7_answer6_225 ?_
        refine lv_iload hx hb dX7_answer6_228 (lv_at hl 0 rfl) ?_
        refine lv_bipush (v := (32 : Int32)) hx hb dX7_answer6_230 (by decide) ?_
        refine lv_iadd hx hb dX7_answer6_232 ?_
        refine lv_aload_n hx hb dX7_answer6_233 rfl (lv_at hl 2 rfl) ?_
        refine va_get (D := (dC, dI)) (ci := 6) (v := .ref (a 1)) (C := RX7) (T := TX7) (N := 44) hx hb hu uX7 hown hK hI.1 0 rfl rfl 1 (by decide) (hu _ uww_538) (fun _ h9 => h9) rfl dX7_answer6_234 ?_
        refine lv_bipush (v := (16 : Int32)) hx hb dX7_answer6_237 (by decide) ?_
        refine rpcalll_p hsz hI (va_runS (As := [.ref (a 1), .int (16 : Int32)]) (rest := [.int (r4 + (32 : Int32)), .ref (a 3)]) ⟨hx, hb, hml, hown, hu⟩ (met_X7_longAt_1 l dC dI a kA t _ M13 L (16 : Int32) _ h) (cwl_X7_155_S hu ⟨by decide, by decide⟩) (rppreS hK hE hsz hI) rfl rfl hl.1 rfl (lv_room (Nat.le_of_ble_eq_true rfl)) dX7_answer6_239 ⟨by decide, by decide⟩) (fun r14 H locs h hI => ?_)
        refine rpcallv_m hsz hI (va_runS (As := [.ref (a 3), .int (r4 + (32 : Int32)), .long r14]) (rest := []) ⟨hx, hb, hml, hown, hu⟩ (met_X7_putLong_3 l dC dI a kA t _ M13 L (r4 + (32 : Int32)) r14 _ h) (cwl_X7_265_S hu ⟨by decide, by decide⟩) (rppreS hK hE hsz hI) rfl rfl hl.1 rfl (lv_room (Nat.le_of_ble_eq_true rfl)) dX7_answer6_242 ⟨by decide, by decide⟩) (fun M15 H locs h hI => ?_)
        refine lv_aload_n hx hb dX7_answer6_245 rfl (lv_at hl 2 rfl) ?_
        refine va_get (D := (dC, dI)) (ci := 6) (v := .ref (a 3)) (C := RX7) (T := TX7) (N := 44) hx hb hu uX7 hown hK hI.1 0 rfl rfl 19 (by decide) (hu _ uww_552) (fun _ h9 => h9) rfl dX7_answer6_246 ?_
        refine lv_iload hx hb dX7_answer6_249 (lv_at hl 0 rfl) ?_
        refine lv_bipush (v := (40 : Int32)) hx hb dX7_answer6_251 (by decide) ?_
        refine lv_iadd hx hb dX7_answer6_253 ?_
        refine lv_iload_n hx hb dX7_answer6_254 rfl (lv_at hl 3 rfl) ?_
        refine lv_i2b hx hb dX7_answer6_255 rfl ?_
        refine rpbast hx hb hK hI 3 2 rfl rfl h.1 (rpset_3 _ _ _ _ _ _) dX7_answer6_256 (fun H locs M16 eM16 hI => ?_)
        have h := h.2 M16 eM16
        refine lv_aload_n hx hb dX7_answer6_257 rfl (lv_at hl 2 rfl) ?_
        refine va_get (D := (dC, dI)) (ci := 6) (v := .ref (a 3)) (C := RX7) (T := TX7) (N := 44) hx hb hu uX7 hown hK hI.1 0 rfl rfl 19 (by decide) (hu _ uww_552) (fun _ h9 => h9) rfl dX7_answer6_258 ?_
        refine lv_iload hx hb dX7_answer6_261 (lv_at hl 0 rfl) ?_
        refine lv_bipush (v := (41 : Int32)) hx hb dX7_answer6_263 (by decide) ?_
        refine lv_iadd hx hb dX7_answer6_265 ?_
        refine lv_iload_n hx hb dX7_answer6_266 rfl (lv_at hl 4 rfl) ?_
        refine lv_i2b hx hb dX7_answer6_267 rfl ?_
        refine rpbast hx hb hK hI 3 2 rfl rfl h.1 (rpset_3 _ _ _ _ _ _) dX7_answer6_268 (fun H locs M17 eM17 hI => ?_)
        have h := h.2 M17 eM17
        refine lv_aload_n hx hb dX7_answer6_269 rfl (lv_at hl 2 rfl) ?_
        refine va_get (D := (dC, dI)) (ci := 6) (v := .ref (a 3)) (C := RX7) (T := TX7) (N := 44) hx hb hu uX7 hown hK hI.1 0 rfl rfl 19 (by decide) (hu _ uww_552) (fun _ h9 => h9) rfl dX7_answer6_270 ?_
        refine lv_iload hx hb dX7_answer6_273 (lv_at hl 0 rfl) ?_
        refine lv_bipush (v := (44 : Int32)) hx hb dX7_answer6_275 (by decide) ?_
        refine lv_iadd hx hb dX7_answer6_277 ?_
        refine lv_iload_n hx hb dX7_answer6_278 rfl (lv_at hl 5 rfl) ?_
        refine rpcallv_m hsz hI (va_runS (As := [.ref (a 3), .int (r4 + (44 : Int32)), .int p3]) (rest := []) ⟨hx, hb, hml, hown, hu⟩ (met_X7_putInt_3 l dC dI a kA t _ M17 L (r4 + (44 : Int32)) p3 _ h) (cwl_X7_125_S hu ⟨by decide, by decide⟩) (rppreS hK hE hsz hI) rfl rfl hl.1 rfl (lv_room (Nat.le_of_ble_eq_true rfl)) dX7_answer6_279 ⟨by decide, by decide⟩) (fun M18 H locs h hI => ?_)
        refine lv_iconst (v := (0 : Int32)) hx hb dX7_answer6_282 (by decide) ?_
        refine lv_istore (lv' := [(7, .int (0 : Int32)), (6, .int r4), (5, .int v3), (0, .ref (a 0)), (1, .int p1), (2, .int p2), (3, .int p3)]) hx hb dX7_answer6_283 hl (by decide) rfl (fun ls hl => ?_)
        obtain ⟨I285, m285, h, hs285⟩ := h
        have P285 : ∀ (n285 : Nat) (x19 : Int32) (M20 : cM) (H : Heap) (locs : List Loc) (ls : Array Slot), I285 x19 M20 → m285 x19 M20 < n285 → rpI dC dI a kA (rpA a sz) s M20 L H locs → lv_has ls 8 [(0, .ref (a 0)), (5, .int v3), (6, .int r4), (7, .int x19)] → W p l e rm_X7_answer6_0 s m (av_X7_answer6_0 a t p1 p2 p3).toArray below meth c H locs 0 0 (MQ below (qc_X7_answer6_0 dC dI a kA sz M L Z) (av_X7_answer6_0 a t p1 p2 p3).toArray s 0 0 (rpA a sz)) (F0 m 285 ls []) := by
          intro n285
          induction n285 with
          | zero => intro x19 M20 H locs ls _ hn; exact absurd hn (Nat.not_lt_zero _)
          | succ n285 ih285 =>
            intro x19 M20 H locs ls h hn285 hI hl
            have h := hs285 x19 M20 h
            refine lv_iload hx hb dX7_answer6_285 (lv_at hl 3 rfl) ?_
            refine lv_iload hx hb dX7_answer6_287 (lv_at hl 1 rfl) ?_
            refine lv_icmp_ge (tgt := 318) hx hb dX7_answer6_289 (by decide) (fun c21 => ?_) (fun c21 => ?_)
            · have h := h.1 c21
              refine lv_aload_n hx hb dX7_answer6_318 rfl (lv_at hl 0 rfl) ?_
              refine lv_lconst (v := (0 : Int64)) hx hb dX7_answer6_319 (by decide) ?_
              refine rpputl (ci := 6) (C := RX7) (T := TX7) (N := 44) (ty := .long) hx hb hu uX7 tyX7 tyX7_ok nmX7 hown hK hI 0 rfl rfl 18 (by decide) (hu _ uww_593) (fun _ h9 => h9) rfl (by decide +kernel) rfl rfl (Nat.le_of_ble_eq_true rfl) (rpset_0_18 _ _ _ _ _) dX7_answer6_320 (fun H locs L22 eL22 hI => ?_)
              have h := h L22 eL22
              refine lv_aload_n hx hb dX7_answer6_323 rfl (lv_at hl 0 rfl) ?_
              refine lv_aload_n hx hb dX7_answer6_324 rfl (lv_at hl 0 rfl) ?_
              refine va_get (D := (dC, dI)) (ci := 6) (v := .ref (a 3)) (C := RX7) (T := TX7) (N := 44) hx hb hu uX7 hown hK hI.1 0 rfl rfl 19 (by decide) (hu _ uww_552) (fun _ h9 => h9) rfl dX7_answer6_325 ?_
              refine lv_iload hx hb dX7_answer6_328 (lv_at hl 2 rfl) ?_
              refine lv_bipush (v := (8 : Int32)) hx hb dX7_answer6_330 (by decide) ?_
              refine lv_iadd hx hb dX7_answer6_332 ?_
              refine lv_iload hx hb dX7_answer6_333 (lv_at hl 2 rfl) ?_
              refine lv_bipush (v := (40 : Int32)) hx hb dX7_answer6_335 (by decide) ?_
              refine lv_iadd hx hb dX7_answer6_337 ?_
              refine rpcallv_l hsz hI (va_runV (As := [.ref (a 3), .int (r4 + (8 : Int32)), .int (r4 + (40 : Int32))]) (rest := []) ⟨hx, hb, hml, hown, hu⟩ (met_X7_words_0_3 l dC dI a kA t _ M20 L22 (r4 + (8 : Int32)) (r4 + (40 : Int32)) _ h) (cwl_X7_206_X7 hu ⟨by decide, by decide⟩) (rppre (ci := 6) hK hE hsz hI rfl rfl) rfl rfl hl.1 rfl (lv_room (Nat.le_of_ble_eq_true rfl)) dX7_answer6_338 ⟨by decide, by decide⟩) (fun L23 H locs h hI => ?_)
              refine lv_aload_n hx hb dX7_answer6_341 rfl (lv_at hl 0 rfl) ?_
              refine lv_bipush (v := (8 : Int32)) hx hb dX7_answer6_342 (by decide) ?_
              refine lv_iload hx hb dX7_answer6_344 (lv_at hl 1 rfl) ?_
              refine lv_iadd hx hb dX7_answer6_346 ?_
              refine lv_iconst (v := (0 : Int32)) hx hb dX7_answer6_347 (by decide) ?_
              refine rpcallv_l hsz hI (va_runV (As := [.int ((8 : Int32) + v3), .int (0 : Int32)]) (rest := []) ⟨hx, hb, hml, hown, hu⟩ (met_X7_ints_0 l dC dI a kA t _ M20 L23 ((8 : Int32) + v3) (0 : Int32) _ h) (cwl_X7_163_X7 hu ⟨by decide, by decide⟩) (rppre (ci := 6) hK hE hsz hI rfl rfl) rfl rfl hl.1 rfl (lv_room (Nat.le_of_ble_eq_true rfl)) dX7_answer6_348 ⟨by decide, by decide⟩) (fun L24 H locs h hI => ?_)
              refine lv_aload_n hx hb dX7_answer6_351 rfl (lv_at hl 0 rfl) ?_
              refine lv_bipush (v := (58 : Int32)) hx hb dX7_answer6_352 (by decide) ?_
              refine lv_iconst (v := (0 : Int32)) hx hb dX7_answer6_354 (by decide) ?_
              refine rpcallv_l hsz hI (va_runV (As := [.int (58 : Int32), .int (0 : Int32)]) (rest := []) ⟨hx, hb, hml, hown, hu⟩ (met_X7_ints_0 l dC dI a kA t _ M20 L24 (58 : Int32) (0 : Int32) _ h) (cwl_X7_163_X7 hu ⟨by decide, by decide⟩) (rppre (ci := 6) hK hE hsz hI rfl rfl) rfl rfl hl.1 rfl (lv_room (Nat.le_of_ble_eq_true rfl)) dX7_answer6_355 ⟨by decide, by decide⟩) (fun L25 H locs h hI => ?_)
              refine lv_aload_n hx hb dX7_answer6_358 rfl (lv_at hl 0 rfl) ?_
              refine lv_aload_n hx hb dX7_answer6_359 rfl (lv_at hl 0 rfl) ?_
              refine va_get (D := (dC, dI)) (ci := 6) (v := .ref (a 3)) (C := RX7) (T := TX7) (N := 44) hx hb hu uX7 hown hK hI.1 0 rfl rfl 19 (by decide) (hu _ uww_552) (fun _ h9 => h9) rfl dX7_answer6_360 ?_
              refine lv_iload hx hb dX7_answer6_363 (lv_at hl 2 rfl) ?_
              refine lv_bipush (v := (40 : Int32)) hx hb dX7_answer6_365 (by decide) ?_
              refine lv_iadd hx hb dX7_answer6_367 ?_
              refine lv_aload_n hx hb dX7_answer6_368 rfl (lv_at hl 0 rfl) ?_
              refine va_get (D := (dC, dI)) (ci := 6) (v := .int (M20 0 20)) (C := RX7) (T := TX7) (N := 44) hx hb hu uX7 hown hK hI.1 0 rfl rfl 20 (by decide) (hu _ uww_622) (fun _ h9 => h9) rfl dX7_answer6_369 ?_
              refine rpcallv_l hsz hI (va_runV (As := [.ref (a 3), .int (r4 + (40 : Int32)), .int (M20 0 20)]) (rest := []) ⟨hx, hb, hml, hown, hu⟩ (met_X7_words_0_3 l dC dI a kA t _ M20 L25 (r4 + (40 : Int32)) (M20 0 20) _ h) (cwl_X7_206_X7 hu ⟨by decide, by decide⟩) (rppre (ci := 6) hK hE hsz hI rfl rfl) rfl rfl hl.1 rfl (lv_room (Nat.le_of_ble_eq_true rfl)) dX7_answer6_372 ⟨by decide, by decide⟩) (fun L26 H locs h hI => ?_)
              refine lv_aload_n hx hb dX7_answer6_375 rfl (lv_at hl 0 rfl) ?_
              refine va_get (D := (dC, dI)) (ci := 6) (v := .ref (a 3)) (C := RX7) (T := TX7) (N := 44) hx hb hu uX7 hown hK hI.1 0 rfl rfl 19 (by decide) (hu _ uww_552) (fun _ h9 => h9) rfl dX7_answer6_376 ?_
              refine lv_iload hx hb dX7_answer6_379 (lv_at hl 2 rfl) ?_
              refine lv_bipush (v := (42 : Int32)) hx hb dX7_answer6_381 (by decide) ?_
              refine lv_iadd hx hb dX7_answer6_383 ?_
              refine lv_aload_n hx hb dX7_answer6_384 rfl (lv_at hl 0 rfl) ?_
              refine rpcalli_p hsz hI (va_runV (As := []) (rest := [.int (r4 + (42 : Int32)), .ref (a 3)]) ⟨hx, hb, hml, hown, hu⟩ (met_X7_checksum_0 l dC dI a kA t _ M20 L26  _ h) (cwl_X7_177_X7 hu ⟨by decide, by decide⟩) (rppre (ci := 6) hK hE hsz hI rfl rfl) rfl rfl hl.1 rfl (lv_room (Nat.le_of_ble_eq_true rfl)) dX7_answer6_385 ⟨by decide, by decide⟩) (fun r27 H locs h hI => ?_)
              refine rpcallv_m hsz hI (va_runS (As := [.ref (a 3), .int (r4 + (42 : Int32)), .int r27]) (rest := []) ⟨hx, hb, hml, hown, hu⟩ (met_X7_putTwo_3 l dC dI a kA t _ M20 L26 (r4 + (42 : Int32)) r27 _ h) (cwl_X7_121_S hu ⟨by decide, by decide⟩) (rppreS hK hE hsz hI) rfl rfl hl.1 rfl (lv_room (Nat.le_of_ble_eq_true rfl)) dX7_answer6_388 ⟨by decide, by decide⟩) (fun M28 H locs h hI => ?_)
              refine lv_aload_n hx hb dX7_answer6_391 rfl (lv_at hl 0 rfl) ?_
              refine rpcallv_m hsz hI (va_runV (As := []) (rest := []) ⟨hx, hb, hml, hown, hu⟩ (met_X7_isPart_0 l dC dI a kA t _ M28 L26  _ h) (cwl_X7_223_X7 hu ⟨by decide, by decide⟩) (rppre (ci := 6) hK hE hsz hI rfl rfl) rfl rfl hl.1 rfl (lv_room (Nat.le_of_ble_eq_true rfl)) dX7_answer6_392 ⟨by decide, by decide⟩) (fun M29 H locs h hI => ?_)
              refine lv_aload_n hx hb dX7_answer6_395 rfl (lv_at hl 0 rfl) ?_
              refine lv_bipush (v := (10 : Int32)) hx hb dX7_answer6_396 (by decide) ?_
              refine rpcalli_m hsz hI (va_runV (As := [.int (10 : Int32)]) (rest := []) ⟨hx, hb, hml, hown, hu⟩ (met_X7_tell_0 l dC dI a kA t _ M29 L26 (10 : Int32) _ h) (cwl_X7_213_X7 hu ⟨by decide, by decide⟩) (rppre (ci := 6) hK hE hsz hI rfl rfl) rfl rfl hl.1 rfl (lv_room (Nat.le_of_ble_eq_true rfl)) dX7_answer6_398 ⟨by decide, by decide⟩) (fun r30 M31 H locs h hI => ?_)
              exact rpiret (Z := (fun r M' L' => Z r M' L')) hx hb hr hlocks hK hI dX7_answer6_401 h
            · have h := h.2 c21
              refine lv_aload_n hx hb dX7_answer6_292 rfl (lv_at hl 0 rfl) ?_
              refine va_get (D := (dC, dI)) (ci := 6) (v := .ref (a 3)) (C := RX7) (T := TX7) (N := 44) hx hb hu uX7 hown hK hI.1 0 rfl rfl 19 (by decide) (hu _ uww_552) (fun _ h9 => h9) rfl dX7_answer6_293 ?_
              refine lv_iload hx hb dX7_answer6_296 (lv_at hl 2 rfl) ?_
              refine lv_bipush (v := (48 : Int32)) hx hb dX7_answer6_298 (by decide) ?_
              refine lv_iadd hx hb dX7_answer6_300 ?_
              refine lv_iload hx hb dX7_answer6_301 (lv_at hl 3 rfl) ?_
              refine lv_iadd hx hb dX7_answer6_303 ?_
              refine lv_aload_n hx hb dX7_answer6_304 rfl (lv_at hl 0 rfl) ?_
              refine va_get (D := (dC, dI)) (ci := 6) (v := .ref (a 1)) (C := RX7) (T := TX7) (N := 44) hx hb hu uX7 hown hK hI.1 0 rfl rfl 1 (by decide) (hu _ uww_538) (fun _ h9 => h9) rfl dX7_answer6_305 ?_
              refine lv_iload hx hb dX7_answer6_308 (lv_at hl 3 rfl) ?_
              refine va_bald hx hb hK hI.1 1 0 rfl rfl h.1 dX7_answer6_310 ?_
              have h := h.2
              refine rpbast hx hb hK hI 3 2 rfl rfl h.1 (rpset_3 _ _ _ _ _ _) dX7_answer6_311 (fun H locs M32 eM32 hI => ?_)
              have h := h.2 M32 eM32
              obtain ⟨x33, ex33⟩ : ∃ y : Int32, y = (x19 + (1 : Int32)) := ⟨_, rfl⟩
              have h := h x33 ex33
              refine lv_iinc (v := x33) (lv' := [(7, .int x33), (0, .ref (a 0)), (5, .int v3), (6, .int r4)]) hx hb dX7_answer6_312 hl (k := 3) rfl (by rw [ex33]; rfl) (by decide) rfl (fun ls hl => ?_)
              refine lv_goto (tgt := 285) hx hb dX7_answer6_315 (by decide) ?_
              exact ih285 x33 M32 _ _ _ h.1 (Nat.lt_of_lt_of_le h.2 (Nat.le_of_lt_succ hn285)) hI (lv_sub hl [1, 2, 3, 0] rfl)
        exact P285 (m285 (0 : Int32) M18 + 1) (0 : Int32) M18 _ _ _ h (Nat.lt_succ_self _) hI (lv_sub hl [3, 2, 1, 0] rfl)
      refine lv_icmp_ge (tgt := 106) hx hb dX7_answer6_93 (by decide) (fun c34 => ?_) (fun c34 => ?_)
      · have h := h.1 c34
        refine lv_sipush (v := (1232 : Int32)) hx hb dX7_answer6_106 (by decide) ?_
        exact J109 (1232 : Int32) _ _ _ h hI (lv_sub hl [1, 2, 3, 4] rfl)
      · have h := h.2 c34
        refine lv_bipush (v := (40 : Int32)) hx hb dX7_answer6_96 (by decide) ?_
        refine lv_aload_n hx hb dX7_answer6_98 rfl (lv_at hl 1 rfl) ?_
        refine va_get (D := (dC, dI)) (ci := 6) (v := .int (M 0 43)) (C := RX7) (T := TX7) (N := 44) hx hb hu uX7 hown hK hI.1 0 rfl rfl 43 (by decide) (hu _ uww_769) (fun _ h9 => h9) rfl dX7_answer6_99 ?_
        refine lv_iadd hx hb dX7_answer6_102 ?_
        refine lv_goto (tgt := 109) hx hb dX7_answer6_103 (by decide) ?_
        exact J109 ((40 : Int32) + (M 0 43)) _ _ _ h hI (lv_sub hl [1, 2, 3, 4] rfl)
    · have h := h.2 c2
      refine lv_aload_n hx hb dX7_answer6_76 rfl (lv_at hl 1 rfl) ?_
      refine lv_bipush (v := (9 : Int32)) hx hb dX7_answer6_77 (by decide) ?_
      refine rpcalli_m hsz hI (va_runV (As := [.int (9 : Int32)]) (rest := []) ⟨hx, hb, hml, hown, hu⟩ (met_X7_tell_0 l dC dI a kA t _ M L (9 : Int32) _ h) (cwl_X7_213_X7 hu ⟨by decide, by decide⟩) (rppre (ci := 6) hK hE hsz hI rfl rfl) rfl rfl hl.1 rfl (lv_room (Nat.le_of_ble_eq_true rfl)) dX7_answer6_79 ⟨by decide, by decide⟩) (fun r35 M36 H locs h hI => ?_)
      exact rpiret (Z := (fun r M' L' => Z r M' L')) hx hb hr hlocks hK hI dX7_answer6_82 h
  obtain ⟨K64, hK64, h⟩ := h
  have J64 : ∀  (H : Heap) (locs : List Loc) (ls : Array Slot), K64  → rpI dC dI a kA (rpA a sz) s M L H locs → lv_has ls 8 [(0, .ref (a 0)), (1, .int p1), (2, .int p2), (3, .int p3)] → W p l e rm_X7_answer6_0 s m (av_X7_answer6_0 a t p1 p2 p3).toArray below meth c H locs 0 0 (MQ below (qc_X7_answer6_0 dC dI a kA sz M L Z) (av_X7_answer6_0 a t p1 p2 p3).toArray s 0 0 (rpA a sz)) (F0 m 64 ls []) := by
    intro  H locs ls h hI hl
    have h := hK64  h
    refine lv_iconst (v := (1 : Int32)) hx hb dX7_answer6_64 (by decide) ?_
    refine lv_goto (tgt := 69) hx hb dX7_answer6_65 (by decide) ?_
    exact J69 (1 : Int32) _ _ _ h hI (lv_sub hl [0, 1, 2, 3] rfl)
  refine lv_if_gt (tgt := 64) hx hb dX7_answer6_4 (by decide) (fun c37 => ?_) (fun c37 => ?_)
  · have h := h.1 c37
    exact J64  _ _ _ h hI (lv_sub hl [0, 1, 2, 3] rfl)
  · have h := h.2 c37
    refine lv_aload_n hx hb dX7_answer6_7 rfl (lv_at hl 0 rfl) ?_
    refine va_get (D := (dC, dI)) (ci := 6) (v := .int (M 0 35)) (C := RX7) (T := TX7) (N := 44) hx hb hu uX7 hown hK hI.1 0 rfl rfl 35 (by decide) (hu _ uww_671) (fun _ h9 => h9) rfl dX7_answer6_8 ?_
    refine lv_bipush (v := (58 : Int32)) hx hb dX7_answer6_11 (by decide) ?_
    obtain ⟨K68, hK68, h⟩ := h
    have J68 : ∀  (H : Heap) (locs : List Loc) (ls : Array Slot), K68  → rpI dC dI a kA (rpA a sz) s M L H locs → lv_has ls 8 [(0, .ref (a 0)), (1, .int p1), (2, .int p2), (3, .int p3)] → W p l e rm_X7_answer6_0 s m (av_X7_answer6_0 a t p1 p2 p3).toArray below meth c H locs 0 0 (MQ below (qc_X7_answer6_0 dC dI a kA sz M L Z) (av_X7_answer6_0 a t p1 p2 p3).toArray s 0 0 (rpA a sz)) (F0 m 68 ls []) := by
      intro  H locs ls h hI hl
      have h := hK68  h
      refine lv_iconst (v := (0 : Int32)) hx hb dX7_answer6_68 (by decide) ?_
      exact J69 (0 : Int32) _ _ _ h hI (lv_sub hl [0, 1, 2, 3] rfl)
    refine lv_icmp_ne (tgt := 68) hx hb dX7_answer6_13 (by decide) (fun c38 => ?_) (fun c38 => ?_)
    · have h := h.1 c38
      exact J68  _ _ _ h hI (lv_sub hl [0, 1, 2, 3] rfl)
    · have h := h.2 c38
      refine lv_aload_n hx hb dX7_answer6_16 rfl (lv_at hl 0 rfl) ?_
      refine va_get (D := (dC, dI)) (ci := 6) (v := .int (M 0 40)) (C := RX7) (T := TX7) (N := 44) hx hb hu uX7 hown hK hI.1 0 rfl rfl 40 (by decide) (hu _ uww_767) (fun _ h9 => h9) rfl dX7_answer6_17 ?_
      refine lv_bipush (v := (40 : Int32)) hx hb dX7_answer6_20 (by decide) ?_
      refine lv_aload_n hx hb dX7_answer6_22 rfl (lv_at hl 0 rfl) ?_
      refine va_get (D := (dC, dI)) (ci := 6) (v := .int (M 0 43)) (C := RX7) (T := TX7) (N := 44) hx hb hu uX7 hown hK hI.1 0 rfl rfl 43 (by decide) (hu _ uww_769) (fun _ h9 => h9) rfl dX7_answer6_23 ?_
      refine lv_iadd hx hb dX7_answer6_26 ?_
      refine lv_icmp_eq (tgt := 64) hx hb dX7_answer6_27 (by decide) (fun c39 => ?_) (fun c39 => ?_)
      · have h := h.1 c39
        exact J64  _ _ _ h hI (lv_sub hl [0, 1, 2, 3] rfl)
      · have h := h.2 c39
        refine lv_aload_n hx hb dX7_answer6_30 rfl (lv_at hl 0 rfl) ?_
        refine va_get (D := (dC, dI)) (ci := 6) (v := .ref (a 1)) (C := RX7) (T := TX7) (N := 44) hx hb hu uX7 hown hK hI.1 0 rfl rfl 1 (by decide) (hu _ uww_538) (fun _ h9 => h9) rfl dX7_answer6_31 ?_
        refine lv_aload_n hx hb dX7_answer6_34 rfl (lv_at hl 0 rfl) ?_
        refine va_get (D := (dC, dI)) (ci := 6) (v := .int (M 0 40)) (C := RX7) (T := TX7) (N := 44) hx hb hu uX7 hown hK hI.1 0 rfl rfl 40 (by decide) (hu _ uww_767) (fun _ h9 => h9) rfl dX7_answer6_35 ?_
        refine rpcalli_p hsz hI (va_runS (As := [.ref (a 1), .int (M 0 40)]) (rest := []) ⟨hx, hb, hml, hown, hu⟩ (met_X7_octetAt_1 l dC dI a kA t _ M L (M 0 40) _ h) (cwl_X7_111_S hu ⟨by decide, by decide⟩) (rppreS hK hE hsz hI) rfl rfl hl.1 rfl (lv_room (Nat.le_of_ble_eq_true rfl)) dX7_answer6_38 ⟨by decide, by decide⟩) (fun r40 H locs h hI => ?_)
        refine lv_sipush (v := (128 : Int32)) hx hb dX7_answer6_41 (by decide) ?_
        refine lv_icmp_eq (tgt := 68) hx hb dX7_answer6_44 (by decide) (fun c41 => ?_) (fun c41 => ?_)
        · have h := h.1 c41
          exact J68  _ _ _ h hI (lv_sub hl [0, 1, 2, 3] rfl)
        · have h := h.2 c41
          refine lv_aload_n hx hb dX7_answer6_47 rfl (lv_at hl 0 rfl) ?_
          refine va_get (D := (dC, dI)) (ci := 6) (v := .ref (a 1)) (C := RX7) (T := TX7) (N := 44) hx hb hu uX7 hown hK hI.1 0 rfl rfl 1 (by decide) (hu _ uww_538) (fun _ h9 => h9) rfl dX7_answer6_48 ?_
          refine lv_aload_n hx hb dX7_answer6_51 rfl (lv_at hl 0 rfl) ?_
          refine va_get (D := (dC, dI)) (ci := 6) (v := .int (M 0 40)) (C := RX7) (T := TX7) (N := 44) hx hb hu uX7 hown hK hI.1 0 rfl rfl 40 (by decide) (hu _ uww_767) (fun _ h9 => h9) rfl dX7_answer6_52 ?_
          refine rpcalli_p hsz hI (va_runS (As := [.ref (a 1), .int (M 0 40)]) (rest := []) ⟨hx, hb, hml, hown, hu⟩ (met_X7_octetAt_1 l dC dI a kA t _ M L (M 0 40) _ h) (cwl_X7_111_S hu ⟨by decide, by decide⟩) (rppreS hK hE hsz hI) rfl rfl hl.1 rfl (lv_room (Nat.le_of_ble_eq_true rfl)) dX7_answer6_55 ⟨by decide, by decide⟩) (fun r42 H locs h hI => ?_)
          refine lv_sipush (v := (129 : Int32)) hx hb dX7_answer6_58 (by decide) ?_
          refine lv_icmp_eq (tgt := 68) hx hb dX7_answer6_61 (by decide) (fun c43 => ?_) (fun c43 => ?_)
          · have h := h.1 c43
            exact J68  _ _ _ h hI (lv_sub hl [0, 1, 2, 3] rfl)
          · have h := h.2 c43
            exact J64  _ _ _ h hI (lv_sub hl [0, 1, 2, 3] rfl)

abbrev rm_X7_intAt_5 : Room := { frames := 2, cells := 0, slots := 0, locals := 42 }
abbrev av_X7_intAt_5 (a t : Nat → Nat) (p1 : Int32) : List Value := [.ref (a 5), .int p1]
abbrev qc_X7_intAt_5 (dC : Nat → ClassId) (dI : Nat → Nat → Nat) (a : Nat → Nat) (kA : Nat → ClassId) (sz : Nat) (M : cM) (L : cL) (Z : Int32 → Prop) : Array Value → State → Outcome → State → Prop := va_Qi (fun r (u : cM × cL) => u.1 = M ∧ u.2 = L ∧ Z r) (rpAt dC dI a kA (rpA a sz)) (rpA a sz)
set_option maxHeartbeats 4000000 in
set_option maxRecDepth 100000 in
theorem met_X7_intAt_5 (l : Launch) (dC : Nat → ClassId) (dI : Nat → Nat → Nat) (a : Nat → Nat) (kA : Nat → ClassId) (t : Nat → Nat) (sz : Nat) (M : cM) (L : cL) (p1 : Int32) (Z : Int32 → Prop) (h : wp_X7_intAt_5 M L p1 Z) : Met l yX7_intAt (Cond.code yX7_intAt cX7_intAt 2 (some .int) :: uW) rm_X7_intAt_5 (va_Pc (av_X7_intAt_5 a t p1) (rpPre dC dI a kA t M L sz)) (qc_X7_intAt_5 dC dI a kA sz M L Z) 0 0 (rpA a sz) := by
  refine rpenter (cc := cX7_intAt) (n := 2) (ret := (some .int)) (by decide) rfl (Nat.le_of_ble_eq_true rfl) ?_
  intro p e s m below meth c ls hx hb hml hr hlocks hown hts hK hE hsz hI hl hmn
  have hu : ∀ w ∈ uW, w.before (av_X7_intAt_5 a t p1).toArray s = true := fun w h => hts w (List.mem_cons_of_mem _ h)
  have hown : s.vm.findClass RX7 = some m.cls := hown
  have hl : lv_has ls 2 [(0, .ref (a 5)), (1, .int p1)] := hl
  unfold wp_X7_intAt_5 at h
  refine lv_aload_n hx hb dX7_intAt_0 rfl (lv_at hl 0 rfl) ?_
  refine lv_iload_n hx hb dX7_intAt_1 rfl (lv_at hl 1 rfl) ?_
  refine rpcalli_p hsz hI (va_runS (As := [.ref (a 5), .int p1]) (rest := []) ⟨hx, hb, hml, hown, hu⟩ (met_X7_twoAt_5 l dC dI a kA t _ M L p1 _ h) (cwl_X7_115_S hu ⟨by decide, by decide⟩) (rppreS hK hE hsz hI) rfl rfl hl.1 rfl (lv_room (Nat.le_of_ble_eq_true rfl)) dX7_intAt_2 ⟨by decide, by decide⟩) (fun r1 H locs h hI => ?_)
  refine lv_bipush (v := (16 : Int32)) hx hb dX7_intAt_5 (by decide) ?_
  refine lv_ishl hx hb dX7_intAt_7 ?_
  refine lv_aload_n hx hb dX7_intAt_8 rfl (lv_at hl 0 rfl) ?_
  refine lv_iload_n hx hb dX7_intAt_9 rfl (lv_at hl 1 rfl) ?_
  refine lv_iconst (v := (2 : Int32)) hx hb dX7_intAt_10 (by decide) ?_
  refine lv_iadd hx hb dX7_intAt_11 ?_
  refine rpcalli_p hsz hI (va_runS (As := [.ref (a 5), .int (p1 + (2 : Int32))]) (rest := [.int (r1 <<< ((16 : Int32) &&& 31))]) ⟨hx, hb, hml, hown, hu⟩ (met_X7_twoAt_5 l dC dI a kA t _ M L (p1 + (2 : Int32)) _ h) (cwl_X7_115_S hu ⟨by decide, by decide⟩) (rppreS hK hE hsz hI) rfl rfl hl.1 rfl (lv_room (Nat.le_of_ble_eq_true rfl)) dX7_intAt_12 ⟨by decide, by decide⟩) (fun r2 H locs h hI => ?_)
  refine lv_ior hx hb dX7_intAt_15 ?_
  exact rpiret (Z := (fun r M' L' => M' = M ∧ L' = L ∧ Z r)) hx hb hr hlocks hK hI dX7_intAt_16 ⟨rfl, rfl, h⟩

abbrev rm_X7_errorToFour_0 : Room := { frames := 3, cells := 0, slots := 0, locals := 63 }
abbrev av_X7_errorToFour_0 (a t : Nat → Nat) (p1 : Int32) (p2 : Int32) : List Value := [.ref (a 0), .int p1, .int p2]
abbrev qc_X7_errorToFour_0 (dC : Nat → ClassId) (dI : Nat → Nat → Nat) (a : Nat → Nat) (kA : Nat → ClassId) (sz : Nat) (M : cM) (L : cL) (Z : Int32 → cM → Prop) : Array Value → State → Outcome → State → Prop := va_Qi (fun r (u : cM × cL) => u.2 = L ∧ Z r u.1) (rpAt dC dI a kA (rpA a sz)) (rpA a sz)
set_option maxHeartbeats 4000000 in
set_option maxRecDepth 100000 in
theorem met_X7_errorToFour_0 (l : Launch) (dC : Nat → ClassId) (dI : Nat → Nat → Nat) (a : Nat → Nat) (kA : Nat → ClassId) (t : Nat → Nat) (sz : Nat) (M : cM) (L : cL) (p1 : Int32) (p2 : Int32) (Z : Int32 → cM → Prop) (h : wp_X7_errorToFour_0 M L p1 p2 Z) : Met l yX7_errorToFour (Cond.code yX7_errorToFour cX7_errorToFour 7 (some .boolean) :: uW) rm_X7_errorToFour_0 (va_Pc (av_X7_errorToFour_0 a t p1 p2) (rpPre dC dI a kA t M L sz)) (qc_X7_errorToFour_0 dC dI a kA sz M L Z) 0 0 (rpA a sz) := by
  refine rpenter (cc := cX7_errorToFour) (n := 7) (ret := (some .boolean)) (by decide) rfl (Nat.le_of_ble_eq_true rfl) ?_
  intro p e s m below meth c ls hx hb hml hr hlocks hown hts hK hE hsz hI hl hmn
  have hu : ∀ w ∈ uW, w.before (av_X7_errorToFour_0 a t p1 p2).toArray s = true := fun w h => hts w (List.mem_cons_of_mem _ h)
  have hown : s.vm.findClass RX7 = some m.cls := hown
  have hl : lv_has ls 7 [(0, .ref (a 0)), (1, .int p1), (2, .int p2)] := hl
  unfold wp_X7_errorToFour_0 at h
  refine lv_aload_n hx hb dX7_errorToFour_0 rfl (lv_at hl 0 rfl) ?_
  refine va_get (D := (dC, dI)) (ci := 6) (v := .ref (a 5)) (C := RX7) (T := TX7) (N := 44) hx hb hu uX7 hown hK hI.1 0 rfl rfl 23 (by decide) (hu _ uww_554) (fun _ h9 => h9) rfl dX7_errorToFour_1 ?_
  refine lv_iconst (v := (4 : Int32)) hx hb dX7_errorToFour_4 (by decide) ?_
  refine rpcalli_p hsz hI (va_runS (As := [.ref (a 5), .int (4 : Int32)]) (rest := []) ⟨hx, hb, hml, hown, hu⟩ (met_X7_intAt_5 l dC dI a kA t _ M L (4 : Int32) _ h) (cwl_X7_118_S hu ⟨by decide, by decide⟩) (rppreS hK hE hsz hI) rfl rfl hl.1 rfl (lv_room (Nat.le_of_ble_eq_true rfl)) dX7_errorToFour_5 ⟨by decide, by decide⟩) (fun r1 H locs h hI => ?_)
  refine lv_i2l hx hb dX7_errorToFour_8 rfl ?_
  refine lv_ldc2 (own := RX7) (v := (4294967295 : Int64)) hx hb hown (hu _ uww_587) dX7_errorToFour_9 ?_
  refine lv_land hx hb dX7_errorToFour_12 ?_
  refine lv_topl (fun x2 ex2 => ?_)
  have h := h x2 ex2
  refine lv_lstore_n (lv' := [(3, .long x2), (0, .ref (a 0)), (1, .int p1), (2, .int p2)]) hx hb dX7_errorToFour_13 rfl hl (by decide) rfl (fun ls hl => ?_)
  refine lv_iload_n hx hb dX7_errorToFour_14 rfl (lv_at hl 2 rfl) ?_
  by_cases c15_0 : p1 = (1 : Int32)
  · have h := h.1 c15_0
    refine lv_tableIn (off := 25) (tgt := 40) hx hb dX7_errorToFour_15 (by rw [c15_0]; decide) (by rw [c15_0]; decide) (by rw [c15_0]; rfl) (by decide) ?_
    refine lv_aload_n hx hb dX7_errorToFour_40 rfl (lv_at hl 1 rfl) ?_
    refine lv_iconst (v := (3 : Int32)) hx hb dX7_errorToFour_41 (by decide) ?_
    refine lv_iload_n hx hb dX7_errorToFour_42 rfl (lv_at hl 3 rfl) ?_
    refine lv_iconst (v := (1 : Int32)) hx hb dX7_errorToFour_43 (by decide) ?_
    obtain ⟨K62, hK62, h⟩ := h
    have J62 : ∀ (v3 : Int32) (H : Heap) (locs : List Loc) (ls : Array Slot), K62 v3 → rpI dC dI a kA (rpA a sz) s M L H locs → lv_has ls 7 [(2, .int p2)] → W p l e rm_X7_errorToFour_0 s m (av_X7_errorToFour_0 a t p1 p2).toArray below meth c H locs 0 0 (MQ below (qc_X7_errorToFour_0 dC dI a kA sz M L Z) (av_X7_errorToFour_0 a t p1 p2).toArray s 0 0 (rpA a sz)) (F0 m 62 ls [.int v3, .int (3 : Int32), .ref (a 0)]) := by
      intro v3 H locs ls h hI hl
      have h := hK62 v3 h
      refine lv_iconst (v := (0 : Int32)) hx hb dX7_errorToFour_62 (by decide) ?_
      refine rpcallv_m hsz hI (va_runV (As := [.int (3 : Int32), .int v3, .int (0 : Int32)]) (rest := []) ⟨hx, hb, hml, hown, hu⟩ (met_X7_error_0 l dC dI a kA t _ M L (3 : Int32) v3 (0 : Int32) _ h) (cwl_X7_288_X7 hu ⟨by decide, by decide⟩) (rppre (ci := 6) hK hE hsz hI rfl rfl) rfl rfl hl.1 rfl (lv_room (Nat.le_of_ble_eq_true rfl)) dX7_errorToFour_63 ⟨by decide, by decide⟩) (fun M4 H locs h hI => ?_)
      refine lv_iload_n hx hb dX7_errorToFour_66 rfl (lv_at hl 0 rfl) ?_
      refine lv_if_lt (tgt := 79) hx hb dX7_errorToFour_67 (by decide) (fun c5 => ?_) (fun c5 => ?_)
      · have h := h.1 c5
        refine lv_iconst (v := (0 : Int32)) hx hb dX7_errorToFour_79 (by decide) ?_
        exact rpzret (Z := (fun r M' L' => L' = L ∧ Z r M')) hx hb hr hlocks hK hI dX7_errorToFour_80 ⟨isB_0, ⟨rfl, h⟩⟩
      · have h := h.2 c5
        refine lv_iload_n hx hb dX7_errorToFour_70 rfl (lv_at hl 0 rfl) ?_
        refine lv_iconst (v := (4 : Int32)) hx hb dX7_errorToFour_71 (by decide) ?_
        refine lv_icmp_gt (tgt := 79) hx hb dX7_errorToFour_72 (by decide) (fun c6 => ?_) (fun c6 => ?_)
        · have h := h.1 c6
          refine lv_iconst (v := (0 : Int32)) hx hb dX7_errorToFour_79 (by decide) ?_
          exact rpzret (Z := (fun r M' L' => L' = L ∧ Z r M')) hx hb hr hlocks hK hI dX7_errorToFour_80 ⟨isB_0, ⟨rfl, h⟩⟩
        · have h := h.2 c6
          refine lv_iconst (v := (1 : Int32)) hx hb dX7_errorToFour_75 (by decide) ?_
          refine lv_goto (tgt := 80) hx hb dX7_errorToFour_76 (by decide) ?_
          exact rpzret (Z := (fun r M' L' => L' = L ∧ Z r M')) hx hb hr hlocks hK hI dX7_errorToFour_80 ⟨isB_1, ⟨rfl, h⟩⟩
    refine lv_icmp_ne (tgt := 52) hx hb dX7_errorToFour_44 (by decide) (fun c7 => ?_) (fun c7 => ?_)
    · have h := h.1 c7
      refine lv_iload_n hx hb dX7_errorToFour_52 rfl (lv_at hl 3 rfl) ?_
      refine lv_iconst (v := (4 : Int32)) hx hb dX7_errorToFour_53 (by decide) ?_
      refine lv_icmp_ne (tgt := 61) hx hb dX7_errorToFour_54 (by decide) (fun c8 => ?_) (fun c8 => ?_)
      · have h := h.1 c8
        refine lv_iconst (v := (1 : Int32)) hx hb dX7_errorToFour_61 (by decide) ?_
        exact J62 (1 : Int32) _ _ _ h hI (lv_sub hl [3] rfl)
      · have h := h.2 c8
        refine lv_iconst (v := (3 : Int32)) hx hb dX7_errorToFour_57 (by decide) ?_
        refine lv_goto (tgt := 62) hx hb dX7_errorToFour_58 (by decide) ?_
        exact J62 (3 : Int32) _ _ _ h hI (lv_sub hl [3] rfl)
    · have h := h.2 c7
      refine lv_bipush (v := (10 : Int32)) hx hb dX7_errorToFour_47 (by decide) ?_
      refine lv_goto (tgt := 62) hx hb dX7_errorToFour_49 (by decide) ?_
      exact J62 (10 : Int32) _ _ _ h hI (lv_sub hl [3] rfl)
  · have h := h.2 c15_0
    by_cases c15_1 : p1 = (2 : Int32)
    · have h := h.1 c15_1
      refine lv_tableIn (off := 66) (tgt := 81) hx hb dX7_errorToFour_15 (by rw [c15_1]; decide) (by rw [c15_1]; decide) (by rw [c15_1]; rfl) (by decide) ?_
      refine lv_lload_n hx hb dX7_errorToFour_81 rfl (lv_at hl 0 rfl) ?_
      refine lv_ldc2 (own := RX7) (v := (20 : Int64)) hx hb hown (hu _ uww_795) dX7_errorToFour_82 ?_
      refine W.lcmp hx hb dX7_errorToFour_85 ?_
      obtain ⟨K98, hK98, h⟩ := h
      have J98 : ∀ (v9 : Int64) (H : Heap) (locs : List Loc) (ls : Array Slot), K98 v9 → rpI dC dI a kA (rpA a sz) s M L H locs → lv_has ls 7 [(0, .ref (a 0))] → W p l e rm_X7_errorToFour_0 s m (av_X7_errorToFour_0 a t p1 p2).toArray below meth c H locs 0 0 (MQ below (qc_X7_errorToFour_0 dC dI a kA sz M L Z) (av_X7_errorToFour_0 a t p1 p2).toArray s 0 0 (rpA a sz)) (F0 m 98 ls [.long v9]) := by
        intro v9 H locs ls h hI hl
        have h := hK98 v9 h
        refine lv_lstore (lv' := [(5, .long v9), (0, .ref (a 0))]) hx hb dX7_errorToFour_98 hl (by decide) rfl (fun ls hl => ?_)
        refine lv_lload hx hb dX7_errorToFour_100 (lv_at hl 0 rfl) ?_
        refine lv_aload_n hx hb dX7_errorToFour_102 rfl (lv_at hl 1 rfl) ?_
        refine va_get (D := (dC, dI)) (ci := 6) (v := .int (M 0 9)) (C := RX7) (T := TX7) (N := 44) hx hb hu uX7 hown hK hI.1 0 rfl rfl 9 (by decide) (hu _ uww_547) (fun _ h9 => h9) rfl dX7_errorToFour_103 ?_
        refine lv_i2l hx hb dX7_errorToFour_106 rfl ?_
        refine W.lcmp hx hb dX7_errorToFour_107 ?_
        obtain ⟨K121, hK121, h⟩ := h
        have J121 : ∀ (v10 : Int64) (H : Heap) (locs : List Loc) (ls : Array Slot), K121 v10 → rpI dC dI a kA (rpA a sz) s M L H locs → lv_has ls 7 [(0, .ref (a 0))] → W p l e rm_X7_errorToFour_0 s m (av_X7_errorToFour_0 a t p1 p2).toArray below meth c H locs 0 0 (MQ below (qc_X7_errorToFour_0 dC dI a kA sz M L Z) (av_X7_errorToFour_0 a t p1 p2).toArray s 0 0 (rpA a sz)) (F0 m 121 ls [.long v10]) := by
          intro v10 H locs ls h hI hl
          have h := hK121 v10 h
          refine lv_lstore (lv' := [(5, .long v10), (0, .ref (a 0))]) hx hb dX7_errorToFour_121 hl (by decide) rfl (fun ls hl => ?_)
          refine lv_lload hx hb dX7_errorToFour_123 (lv_at hl 0 rfl) ?_
          refine lv_aload_n hx hb dX7_errorToFour_125 rfl (lv_at hl 1 rfl) ?_
          refine va_get (D := (dC, dI)) (ci := 6) (v := .int (M 0 10)) (C := RX7) (T := TX7) (N := 44) hx hb hu uX7 hown hK hI.1 0 rfl rfl 10 (by decide) (hu _ uww_548) (fun _ h9 => h9) rfl dX7_errorToFour_126 ?_
          refine lv_bipush (v := (20 : Int32)) hx hb dX7_errorToFour_129 (by decide) ?_
          refine lv_isub hx hb dX7_errorToFour_131 ?_
          refine lv_i2l hx hb dX7_errorToFour_132 rfl ?_
          refine W.lcmp hx hb dX7_errorToFour_133 ?_
          obtain ⟨K150, hK150, h⟩ := h
          have J150 : ∀ (v11 : Int64) (H : Heap) (locs : List Loc) (ls : Array Slot), K150 v11 → rpI dC dI a kA (rpA a sz) s M L H locs → lv_has ls 7 [(0, .ref (a 0))] → W p l e rm_X7_errorToFour_0 s m (av_X7_errorToFour_0 a t p1 p2).toArray below meth c H locs 0 0 (MQ below (qc_X7_errorToFour_0 dC dI a kA sz M L Z) (av_X7_errorToFour_0 a t p1 p2).toArray s 0 0 (rpA a sz)) (F0 m 150 ls [.long v11]) := by
            intro v11 H locs ls h hI hl
            have h := hK150 v11 h
            refine lv_lstore (lv' := [(5, .long v11), (0, .ref (a 0))]) hx hb dX7_errorToFour_150 hl (by decide) rfl (fun ls hl => ?_)
            refine lv_aload_n hx hb dX7_errorToFour_152 rfl (lv_at hl 1 rfl) ?_
            refine lv_iconst (v := (3 : Int32)) hx hb dX7_errorToFour_153 (by decide) ?_
            refine lv_iconst (v := (4 : Int32)) hx hb dX7_errorToFour_154 (by decide) ?_
            refine lv_lload hx hb dX7_errorToFour_155 (lv_at hl 0 rfl) ?_
            refine lv_l2i hx hb dX7_errorToFour_157 rfl ?_
            refine rpcallv_m hsz hI (va_runV (As := [.int (3 : Int32), .int (4 : Int32), .int (v11.toInt32)]) (rest := []) ⟨hx, hb, hml, hown, hu⟩ (met_X7_error_0 l dC dI a kA t _ M L (3 : Int32) (4 : Int32) (v11.toInt32) _ h) (cwl_X7_288_X7 hu ⟨by decide, by decide⟩) (rppre (ci := 6) hK hE hsz hI rfl rfl) rfl rfl hl.1 rfl (lv_room (Nat.le_of_ble_eq_true rfl)) dX7_errorToFour_158 ⟨by decide, by decide⟩) (fun M12 H locs h hI => ?_)
            refine lv_iconst (v := (1 : Int32)) hx hb dX7_errorToFour_161 (by decide) ?_
            exact rpzret (Z := (fun r M' L' => L' = L ∧ Z r M')) hx hb hr hlocks hK hI dX7_errorToFour_162 ⟨isB_1, ⟨rfl, h⟩⟩
          refine lv_if_ge (tgt := 142) hx hb dX7_errorToFour_134 (by decide) (fun c13 => ?_) (fun c13 => ?_)
          · have h := h.1 c13
            refine lv_aload_n hx hb dX7_errorToFour_142 rfl (lv_at hl 1 rfl) ?_
            refine va_get (D := (dC, dI)) (ci := 6) (v := .int (M 0 10)) (C := RX7) (T := TX7) (N := 44) hx hb hu uX7 hown hK hI.1 0 rfl rfl 10 (by decide) (hu _ uww_548) (fun _ h9 => h9) rfl dX7_errorToFour_143 ?_
            refine lv_bipush (v := (20 : Int32)) hx hb dX7_errorToFour_146 (by decide) ?_
            refine lv_isub hx hb dX7_errorToFour_148 ?_
            refine lv_i2l hx hb dX7_errorToFour_149 rfl ?_
            exact J150 (((M 0 10) - (20 : Int32)).toInt64) _ _ _ h hI (lv_sub hl [1] rfl)
          · have h := h.2 c13
            refine lv_lload hx hb dX7_errorToFour_137 (lv_at hl 0 rfl) ?_
            refine lv_goto (tgt := 150) hx hb dX7_errorToFour_139 (by decide) ?_
            exact J150 v10 _ _ _ h hI (lv_sub hl [1] rfl)
        refine lv_if_ge (tgt := 116) hx hb dX7_errorToFour_108 (by decide) (fun c14 => ?_) (fun c14 => ?_)
        · have h := h.1 c14
          refine lv_aload_n hx hb dX7_errorToFour_116 rfl (lv_at hl 1 rfl) ?_
          refine va_get (D := (dC, dI)) (ci := 6) (v := .int (M 0 9)) (C := RX7) (T := TX7) (N := 44) hx hb hu uX7 hown hK hI.1 0 rfl rfl 9 (by decide) (hu _ uww_547) (fun _ h9 => h9) rfl dX7_errorToFour_117 ?_
          refine lv_i2l hx hb dX7_errorToFour_120 rfl ?_
          exact J121 ((M 0 9).toInt64) _ _ _ h hI (lv_sub hl [1] rfl)
        · have h := h.2 c14
          refine lv_lload hx hb dX7_errorToFour_111 (lv_at hl 0 rfl) ?_
          refine lv_goto (tgt := 121) hx hb dX7_errorToFour_113 (by decide) ?_
          exact J121 v9 _ _ _ h hI (lv_sub hl [1] rfl)
      refine lv_if_ge (tgt := 93) hx hb dX7_errorToFour_86 (by decide) (fun c15 => ?_) (fun c15 => ?_)
      · have h := h.1 c15
        refine lv_lload_n hx hb dX7_errorToFour_93 rfl (lv_at hl 0 rfl) ?_
        refine lv_ldc2 (own := RX7) (v := (20 : Int64)) hx hb hown (hu _ uww_795) dX7_errorToFour_94 ?_
        refine lv_lsub hx hb dX7_errorToFour_97 ?_
        exact J98 (x2 - (20 : Int64)) _ _ _ h hI (lv_sub hl [1] rfl)
      · have h := h.2 c15
        refine lv_lconst (v := (0 : Int64)) hx hb dX7_errorToFour_89 (by decide) ?_
        refine lv_goto (tgt := 98) hx hb dX7_errorToFour_90 (by decide) ?_
        exact J98 (0 : Int64) _ _ _ h hI (lv_sub hl [1] rfl)
    · have h := h.2 c15_1
      by_cases c15_2 : p1 = (3 : Int32)
      · have h := h.1 c15_2
        refine lv_tableIn (off := 148) (tgt := 163) hx hb dX7_errorToFour_15 (by rw [c15_2]; decide) (by rw [c15_2]; decide) (by rw [c15_2]; rfl) (by decide) ?_
        refine lv_aload_n hx hb dX7_errorToFour_163 rfl (lv_at hl 1 rfl) ?_
        refine lv_bipush (v := (11 : Int32)) hx hb dX7_errorToFour_164 (by decide) ?_
        refine lv_iload_n hx hb dX7_errorToFour_166 rfl (lv_at hl 3 rfl) ?_
        refine lv_iconst (v := (0 : Int32)) hx hb dX7_errorToFour_167 (by decide) ?_
        refine rpcallv_m hsz hI (va_runV (As := [.int (11 : Int32), .int p2, .int (0 : Int32)]) (rest := []) ⟨hx, hb, hml, hown, hu⟩ (met_X7_error_0 l dC dI a kA t _ M L (11 : Int32) p2 (0 : Int32) _ h) (cwl_X7_288_X7 hu ⟨by decide, by decide⟩) (rppre (ci := 6) hK hE hsz hI rfl rfl) rfl rfl hl.1 rfl (lv_room (Nat.le_of_ble_eq_true rfl)) dX7_errorToFour_168 ⟨by decide, by decide⟩) (fun M16 H locs h hI => ?_)
        refine lv_iconst (v := (1 : Int32)) hx hb dX7_errorToFour_171 (by decide) ?_
        exact rpzret (Z := (fun r M' L' => L' = L ∧ Z r M')) hx hb hr hlocks hK hI dX7_errorToFour_172 ⟨isB_1, ⟨rfl, h⟩⟩
      · have h := h.2 c15_2
        have nc15_0 := lv_neT (a := 1) c15_0 (by decide)
        have nc15_1 := lv_neT (a := 2) c15_1 (by decide)
        have nc15_2 := lv_neT (a := 3) c15_2 (by decide)
        refine lv_tableOut (tgt := 173) hx hb dX7_errorToFour_15 (by omega) (by decide) ?_
        refine lv_iload_n hx hb dX7_errorToFour_173 rfl (lv_at hl 3 rfl) ?_
        refine lv_iconst (v := (1 : Int32)) hx hb dX7_errorToFour_174 (by decide) ?_
        refine lv_icmp_ne (tgt := 187) hx hb dX7_errorToFour_175 (by decide) (fun c17 => ?_) (fun c17 => ?_)
        · have h := h.1 c17
          refine lv_lload_n hx hb dX7_errorToFour_187 rfl (lv_at hl 0 rfl) ?_
          refine lv_ldc2 (own := RX7) (v := (2 : Int64)) hx hb hown (hu _ uww_796) dX7_errorToFour_188 ?_
          refine W.lcmp hx hb dX7_errorToFour_191 ?_
          obtain ⟨K289, hK289, h⟩ := h
          have J289 : ∀ (v18 : Int32) (H : Heap) (locs : List Loc) (ls : Array Slot), K289 v18 → rpI dC dI a kA (rpA a sz) s M L H locs → lv_has ls 7 [(0, .ref (a 0)), (2, .int p2)] → W p l e rm_X7_errorToFour_0 s m (av_X7_errorToFour_0 a t p1 p2).toArray below meth c H locs 0 0 (MQ below (qc_X7_errorToFour_0 dC dI a kA sz M L Z) (av_X7_errorToFour_0 a t p1 p2).toArray s 0 0 (rpA a sz)) (F0 m 289 ls [.int v18]) := by
            intro v18 H locs ls h hI hl
            have h := hK289 v18 h
            refine lv_istore (lv' := [(5, .int v18), (0, .ref (a 0)), (2, .int p2)]) hx hb dX7_errorToFour_289 hl (by decide) rfl (fun ls hl => ?_)
            refine lv_aload_n hx hb dX7_errorToFour_291 rfl (lv_at hl 1 rfl) ?_
            refine lv_bipush (v := (12 : Int32)) hx hb dX7_errorToFour_292 (by decide) ?_
            refine lv_iconst (v := (0 : Int32)) hx hb dX7_errorToFour_294 (by decide) ?_
            refine lv_iload hx hb dX7_errorToFour_295 (lv_at hl 0 rfl) ?_
            refine lv_bipush (v := (24 : Int32)) hx hb dX7_errorToFour_297 (by decide) ?_
            refine lv_ishl hx hb dX7_errorToFour_299 ?_
            refine rpcallv_m hsz hI (va_runV (As := [.int (12 : Int32), .int (0 : Int32), .int (v18 <<< ((24 : Int32) &&& 31))]) (rest := []) ⟨hx, hb, hml, hown, hu⟩ (met_X7_error_0 l dC dI a kA t _ M L (12 : Int32) (0 : Int32) (v18 <<< ((24 : Int32) &&& 31)) _ h) (cwl_X7_288_X7 hu ⟨by decide, by decide⟩) (rppre (ci := 6) hK hE hsz hI rfl rfl) rfl rfl hl.1 rfl (lv_room (Nat.le_of_ble_eq_true rfl)) dX7_errorToFour_300 ⟨by decide, by decide⟩) (fun M19 H locs h hI => ?_)
            refine lv_iload_n hx hb dX7_errorToFour_303 rfl (lv_at hl 2 rfl) ?_
            refine lv_if_ne (tgt := 316) hx hb dX7_errorToFour_304 (by decide) (fun c20 => ?_) (fun c20 => ?_)
            · have h := h.1 c20
              refine lv_iconst (v := (0 : Int32)) hx hb dX7_errorToFour_316 (by decide) ?_
              exact rpzret (Z := (fun r M' L' => L' = L ∧ Z r M')) hx hb hr hlocks hK hI dX7_errorToFour_317 ⟨isB_0, ⟨rfl, h⟩⟩
            · have h := h.2 c20
              refine lv_iload hx hb dX7_errorToFour_307 (lv_at hl 0 rfl) ?_
              refine lv_if_lt (tgt := 316) hx hb dX7_errorToFour_309 (by decide) (fun c21 => ?_) (fun c21 => ?_)
              · have h := h.1 c21
                refine lv_iconst (v := (0 : Int32)) hx hb dX7_errorToFour_316 (by decide) ?_
                exact rpzret (Z := (fun r M' L' => L' = L ∧ Z r M')) hx hb hr hlocks hK hI dX7_errorToFour_317 ⟨isB_0, ⟨rfl, h⟩⟩
              · have h := h.2 c21
                refine lv_iconst (v := (1 : Int32)) hx hb dX7_errorToFour_312 (by decide) ?_
                refine lv_goto (tgt := 317) hx hb dX7_errorToFour_313 (by decide) ?_
                exact rpzret (Z := (fun r M' L' => L' = L ∧ Z r M')) hx hb hr hlocks hK hI dX7_errorToFour_317 ⟨isB_1, ⟨rfl, h⟩⟩
          refine lv_if_ge (tgt := 200) hx hb dX7_errorToFour_192 (by decide) (fun c22 => ?_) (fun c22 => ?_)
          · have h := h.1 c22
            refine lv_lload_n hx hb dX7_errorToFour_200 rfl (lv_at hl 0 rfl) ?_
            refine lv_ldc2 (own := RX7) (v := (4 : Int64)) hx hb hown (hu _ uww_797) dX7_errorToFour_201 ?_
            refine W.lcmp hx hb dX7_errorToFour_204 ?_
            obtain ⟨K216, hK216, h⟩ := h
            have J216 : ∀  (H : Heap) (locs : List Loc) (ls : Array Slot), K216  → rpI dC dI a kA (rpA a sz) s M L H locs → lv_has ls 7 [(0, .ref (a 0)), (2, .int p2)] → W p l e rm_X7_errorToFour_0 s m (av_X7_errorToFour_0 a t p1 p2).toArray below meth c H locs 0 0 (MQ below (qc_X7_errorToFour_0 dC dI a kA sz M L Z) (av_X7_errorToFour_0 a t p1 p2).toArray s 0 0 (rpA a sz)) (F0 m 216 ls []) := by
              intro  H locs ls h hI hl
              have h := hK216  h
              refine lv_iconst (v := (2 : Int32)) hx hb dX7_errorToFour_216 (by decide) ?_
              refine lv_goto (tgt := 289) hx hb dX7_errorToFour_217 (by decide) ?_
              exact J289 (2 : Int32) _ _ _ h hI (lv_sub hl [0, 1] rfl)
            refine lv_if_eq (tgt := 216) hx hb dX7_errorToFour_205 (by decide) (fun c23 => ?_) (fun c23 => ?_)
            · have h := h.1 c23
              exact J216  _ _ _ h hI (lv_sub hl [1, 3] rfl)
            · have h := h.2 c23
              refine lv_lload_n hx hb dX7_errorToFour_208 rfl (lv_at hl 0 rfl) ?_
              refine lv_ldc2 (own := RX7) (v := (5 : Int64)) hx hb hown (hu _ uww_798) dX7_errorToFour_209 ?_
              refine W.lcmp hx hb dX7_errorToFour_212 ?_
              refine lv_if_ne (tgt := 220) hx hb dX7_errorToFour_213 (by decide) (fun c24 => ?_) (fun c24 => ?_)
              · have h := h.1 c24
                refine lv_lload_n hx hb dX7_errorToFour_220 rfl (lv_at hl 0 rfl) ?_
                refine lv_ldc2 (own := RX7) (v := (6 : Int64)) hx hb hown (hu _ uww_799) dX7_errorToFour_221 ?_
                refine W.lcmp hx hb dX7_errorToFour_224 ?_
                refine lv_if_ne (tgt := 233) hx hb dX7_errorToFour_225 (by decide) (fun c25 => ?_) (fun c25 => ?_)
                · have h := h.1 c25
                  refine lv_lload_n hx hb dX7_errorToFour_233 rfl (lv_at hl 0 rfl) ?_
                  refine lv_ldc2 (own := RX7) (v := (7 : Int64)) hx hb hown (hu _ uww_800) dX7_errorToFour_234 ?_
                  refine W.lcmp hx hb dX7_errorToFour_237 ?_
                  refine lv_if_ne (tgt := 246) hx hb dX7_errorToFour_238 (by decide) (fun c26 => ?_) (fun c26 => ?_)
                  · have h := h.1 c26
                    refine lv_lload_n hx hb dX7_errorToFour_246 rfl (lv_at hl 0 rfl) ?_
                    refine lv_ldc2 (own := RX7) (v := (8 : Int64)) hx hb hown (hu _ uww_801) dX7_errorToFour_247 ?_
                    refine W.lcmp hx hb dX7_errorToFour_250 ?_
                    obtain ⟨K267, hK267, h⟩ := h
                    have J267 : ∀  (H : Heap) (locs : List Loc) (ls : Array Slot), K267  → rpI dC dI a kA (rpA a sz) s M L H locs → lv_has ls 7 [(0, .ref (a 0)), (2, .int p2), (3, .long x2)] → W p l e rm_X7_errorToFour_0 s m (av_X7_errorToFour_0 a t p1 p2).toArray below meth c H locs 0 0 (MQ below (qc_X7_errorToFour_0 dC dI a kA sz M L Z) (av_X7_errorToFour_0 a t p1 p2).toArray s 0 0 (rpA a sz)) (F0 m 267 ls []) := by
                      intro  H locs ls h hI hl
                      have h := hK267  h
                      refine lv_lload_n hx hb dX7_errorToFour_267 rfl (lv_at hl 2 rfl) ?_
                      refine lv_ldc2 (own := RX7) (v := (24 : Int64)) hx hb hown (hu _ uww_802) dX7_errorToFour_268 ?_
                      refine W.lcmp hx hb dX7_errorToFour_271 ?_
                      obtain ⟨K288, hK288, h⟩ := h
                      have J288 : ∀  (H : Heap) (locs : List Loc) (ls : Array Slot), K288  → rpI dC dI a kA (rpA a sz) s M L H locs → lv_has ls 7 [(0, .ref (a 0)), (2, .int p2)] → W p l e rm_X7_errorToFour_0 s m (av_X7_errorToFour_0 a t p1 p2).toArray below meth c H locs 0 0 (MQ below (qc_X7_errorToFour_0 dC dI a kA sz M L Z) (av_X7_errorToFour_0 a t p1 p2).toArray s 0 0 (rpA a sz)) (F0 m 288 ls []) := by
                        intro  H locs ls h hI hl
                        have h := hK288  h
                        refine lv_iconst (v := (-1 : Int32)) hx hb dX7_errorToFour_288 (by decide) ?_
                        exact J289 (-1 : Int32) _ _ _ h hI (lv_sub hl [0, 1] rfl)
                      refine lv_if_lt (tgt := 288) hx hb dX7_errorToFour_272 (by decide) (fun c27 => ?_) (fun c27 => ?_)
                      · have h := h.1 c27
                        exact J288  _ _ _ h hI (lv_sub hl [0, 1] rfl)
                      · have h := h.2 c27
                        refine lv_lload_n hx hb dX7_errorToFour_275 rfl (lv_at hl 2 rfl) ?_
                        refine lv_ldc2 (own := RX7) (v := (40 : Int64)) hx hb hown (hu _ uww_803) dX7_errorToFour_276 ?_
                        refine W.lcmp hx hb dX7_errorToFour_279 ?_
                        refine lv_if_ge (tgt := 288) hx hb dX7_errorToFour_280 (by decide) (fun c28 => ?_) (fun c28 => ?_)
                        · have h := h.1 c28
                          exact J288  _ _ _ h hI (lv_sub hl [0, 1] rfl)
                        · have h := h.2 c28
                          refine lv_bipush (v := (16 : Int32)) hx hb dX7_errorToFour_283 (by decide) ?_
                          refine lv_goto (tgt := 289) hx hb dX7_errorToFour_285 (by decide) ?_
                          exact J289 (16 : Int32) _ _ _ h hI (lv_sub hl [0, 1] rfl)
                    refine lv_if_lt (tgt := 267) hx hb dX7_errorToFour_251 (by decide) (fun c29 => ?_) (fun c29 => ?_)
                    · have h := h.1 c29
                      exact J267  _ _ _ h hI (lv_sub hl [1, 3, 0] rfl)
                    · have h := h.2 c29
                      refine lv_lload_n hx hb dX7_errorToFour_254 rfl (lv_at hl 0 rfl) ?_
                      refine lv_ldc2 (own := RX7) (v := (24 : Int64)) hx hb hown (hu _ uww_802) dX7_errorToFour_255 ?_
                      refine W.lcmp hx hb dX7_errorToFour_258 ?_
                      refine lv_if_ge (tgt := 267) hx hb dX7_errorToFour_259 (by decide) (fun c30 => ?_) (fun c30 => ?_)
                      · have h := h.1 c30
                        exact J267  _ _ _ h hI (lv_sub hl [1, 3, 0] rfl)
                      · have h := h.2 c30
                        refine lv_bipush (v := (12 : Int32)) hx hb dX7_errorToFour_262 (by decide) ?_
                        refine lv_goto (tgt := 289) hx hb dX7_errorToFour_264 (by decide) ?_
                        exact J289 (12 : Int32) _ _ _ h hI (lv_sub hl [1, 3] rfl)
                  · have h := h.2 c26
                    refine lv_bipush (v := (8 : Int32)) hx hb dX7_errorToFour_241 (by decide) ?_
                    refine lv_goto (tgt := 289) hx hb dX7_errorToFour_243 (by decide) ?_
                    exact J289 (8 : Int32) _ _ _ h hI (lv_sub hl [1, 3] rfl)
                · have h := h.2 c25
                  refine lv_bipush (v := (9 : Int32)) hx hb dX7_errorToFour_228 (by decide) ?_
                  refine lv_goto (tgt := 289) hx hb dX7_errorToFour_230 (by decide) ?_
                  exact J289 (9 : Int32) _ _ _ h hI (lv_sub hl [1, 3] rfl)
              · have h := h.2 c24
                exact J216  _ _ _ h hI (lv_sub hl [1, 3] rfl)
          · have h := h.2 c22
            refine lv_lload_n hx hb dX7_errorToFour_195 rfl (lv_at hl 0 rfl) ?_
            refine lv_l2i hx hb dX7_errorToFour_196 rfl ?_
            refine lv_goto (tgt := 289) hx hb dX7_errorToFour_197 (by decide) ?_
            exact J289 (x2.toInt32) _ _ _ h hI (lv_sub hl [1, 3] rfl)
        · have h := h.2 c17
          refine lv_aload_n hx hb dX7_errorToFour_178 rfl (lv_at hl 1 rfl) ?_
          refine lv_iconst (v := (3 : Int32)) hx hb dX7_errorToFour_179 (by decide) ?_
          refine lv_iconst (v := (2 : Int32)) hx hb dX7_errorToFour_180 (by decide) ?_
          refine lv_iconst (v := (0 : Int32)) hx hb dX7_errorToFour_181 (by decide) ?_
          refine rpcallv_m hsz hI (va_runV (As := [.int (3 : Int32), .int (2 : Int32), .int (0 : Int32)]) (rest := []) ⟨hx, hb, hml, hown, hu⟩ (met_X7_error_0 l dC dI a kA t _ M L (3 : Int32) (2 : Int32) (0 : Int32) _ h) (cwl_X7_288_X7 hu ⟨by decide, by decide⟩) (rppre (ci := 6) hK hE hsz hI rfl rfl) rfl rfl hl.1 rfl (lv_room (Nat.le_of_ble_eq_true rfl)) dX7_errorToFour_182 ⟨by decide, by decide⟩) (fun M31 H locs h hI => ?_)
          refine lv_iconst (v := (1 : Int32)) hx hb dX7_errorToFour_185 (by decide) ?_
          exact rpzret (Z := (fun r M' L' => L' = L ∧ Z r M')) hx hb hr hlocks hK hI dX7_errorToFour_186 ⟨isB_1, ⟨rfl, h⟩⟩

abbrev rm_X7_innerToFour_0 : Room := { frames := 6, cells := 0, slots := 0, locals := 140 }
abbrev av_X7_innerToFour_0 (a t : Nat → Nat) (p1 : Int32) (p2 : Int32) : List Value := [.ref (a 0), .int p1, .int p2]
abbrev qc_X7_innerToFour_0 (dC : Nat → ClassId) (dI : Nat → Nat → Nat) (a : Nat → Nat) (kA : Nat → ClassId) (sz : Nat) (M : cM) (L : cL) (Z : Int32 → cM → cL → Prop) : Array Value → State → Outcome → State → Prop := va_Qi (fun r (u : cM × cL) => Z r u.1 u.2) (rpAt dC dI a kA (rpA a sz)) (rpA a sz)
set_option maxHeartbeats 4000000 in
set_option maxRecDepth 100000 in
theorem met_X7_innerToFour_0 (l : Launch) (dC : Nat → ClassId) (dI : Nat → Nat → Nat) (a : Nat → Nat) (kA : Nat → ClassId) (t : Nat → Nat) (sz : Nat) (M : cM) (L : cL) (p1 : Int32) (p2 : Int32) (Z : Int32 → cM → cL → Prop) (h : wp_X7_innerToFour_0 M L p1 p2 Z) : Met l yX7_innerToFour (Cond.code yX7_innerToFour cX7_innerToFour 12 (some .boolean) :: uW) rm_X7_innerToFour_0 (va_Pc (av_X7_innerToFour_0 a t p1 p2) (rpPre dC dI a kA t M L sz)) (qc_X7_innerToFour_0 dC dI a kA sz M L Z) 0 0 (rpA a sz) := by
  refine rpenter (cc := cX7_innerToFour) (n := 12) (ret := (some .boolean)) (by decide) rfl (Nat.le_of_ble_eq_true rfl) ?_
  intro p e s m below meth c ls hx hb hml hr hlocks hown hts hK hE hsz hI hl hmn
  have hu : ∀ w ∈ uW, w.before (av_X7_innerToFour_0 a t p1 p2).toArray s = true := fun w h => hts w (List.mem_cons_of_mem _ h)
  have hown : s.vm.findClass RX7 = some m.cls := hown
  have hl : lv_has ls 12 [(0, .ref (a 0)), (1, .int p1), (2, .int p2)] := hl
  unfold wp_X7_innerToFour_0 at h
  refine lv_iload_n hx hb dX7_innerToFour_0 rfl (lv_at hl 2 rfl) ?_
  refine lv_bipush (v := (40 : Int32)) hx hb dX7_innerToFour_1 (by decide) ?_
  refine lv_icmp_lt (tgt := 21) hx hb dX7_innerToFour_3 (by decide) (fun c1 => ?_) (fun c1 => ?_)
  · have h := h.1 c1
    refine lv_iconst (v := (0 : Int32)) hx hb dX7_innerToFour_21 (by decide) ?_
    exact rpzret (Z := (fun r M' L' => Z r M' L')) hx hb hr hlocks hK hI dX7_innerToFour_22 ⟨isB_0, h⟩
  · have h := h.2 c1
    refine lv_aload_n hx hb dX7_innerToFour_6 rfl (lv_at hl 0 rfl) ?_
    refine va_get (D := (dC, dI)) (ci := 6) (v := .ref (a 1)) (C := RX7) (T := TX7) (N := 44) hx hb hu uX7 hown hK hI.1 0 rfl rfl 1 (by decide) (hu _ uww_538) (fun _ h9 => h9) rfl dX7_innerToFour_7 ?_
    refine lv_iload_n hx hb dX7_innerToFour_10 rfl (lv_at hl 1 rfl) ?_
    refine rpcalli_p hsz hI (va_runS (As := [.ref (a 1), .int p1]) (rest := []) ⟨hx, hb, hml, hown, hu⟩ (met_X7_octetAt_1 l dC dI a kA t _ M L p1 _ h) (cwl_X7_111_S hu ⟨by decide, by decide⟩) (rppreS hK hE hsz hI) rfl rfl hl.1 rfl (lv_room (Nat.le_of_ble_eq_true rfl)) dX7_innerToFour_11 ⟨by decide, by decide⟩) (fun r2 H locs h hI => ?_)
    refine lv_iconst (v := (4 : Int32)) hx hb dX7_innerToFour_14 (by decide) ?_
    refine lv_ishr hx hb dX7_innerToFour_15 ?_
    refine lv_bipush (v := (6 : Int32)) hx hb dX7_innerToFour_16 (by decide) ?_
    refine lv_icmp_eq (tgt := 23) hx hb dX7_innerToFour_18 (by decide) (fun c3 => ?_) (fun c3 => ?_)
    · have h := h.1 c3
      refine lv_aload_n hx hb dX7_innerToFour_23 rfl (lv_at hl 0 rfl) ?_
      refine va_get (D := (dC, dI)) (ci := 6) (v := .ref (a 1)) (C := RX7) (T := TX7) (N := 44) hx hb hu uX7 hown hK hI.1 0 rfl rfl 1 (by decide) (hu _ uww_538) (fun _ h9 => h9) rfl dX7_innerToFour_24 ?_
      refine lv_iload_n hx hb dX7_innerToFour_27 rfl (lv_at hl 1 rfl) ?_
      refine lv_iconst (v := (4 : Int32)) hx hb dX7_innerToFour_28 (by decide) ?_
      refine lv_iadd hx hb dX7_innerToFour_29 ?_
      refine rpcalli_p hsz hI (va_runS (As := [.ref (a 1), .int (p1 + (4 : Int32))]) (rest := []) ⟨hx, hb, hml, hown, hu⟩ (met_X7_twoAt_1 l dC dI a kA t _ M L (p1 + (4 : Int32)) _ h) (cwl_X7_115_S hu ⟨by decide, by decide⟩) (rppreS hK hE hsz hI) rfl rfl hl.1 rfl (lv_room (Nat.le_of_ble_eq_true rfl)) dX7_innerToFour_30 ⟨by decide, by decide⟩) (fun r4 H locs h hI => ?_)
      refine lv_istore_n (lv' := [(3, .int r4), (0, .ref (a 0)), (1, .int p1), (2, .int p2)]) hx hb dX7_innerToFour_33 rfl hl (by decide) rfl (fun ls hl => ?_)
      refine lv_iload_n hx hb dX7_innerToFour_34 rfl (lv_at hl 2 rfl) ?_
      refine lv_iload_n hx hb dX7_innerToFour_35 rfl (lv_at hl 3 rfl) ?_
      refine lv_bipush (v := (40 : Int32)) hx hb dX7_innerToFour_36 (by decide) ?_
      refine lv_iload_n hx hb dX7_innerToFour_38 rfl (lv_at hl 0 rfl) ?_
      refine lv_iadd hx hb dX7_innerToFour_39 ?_
      obtain ⟨K51, hK51, h⟩ := h
      have J51 : ∀ (v5 : Int32) (H : Heap) (locs : List Loc) (ls : Array Slot), K51 v5 → rpI dC dI a kA (rpA a sz) s M L H locs → lv_has ls 12 [(0, .ref (a 0)), (1, .int p1), (3, .int r4)] → W p l e rm_X7_innerToFour_0 s m (av_X7_innerToFour_0 a t p1 p2).toArray below meth c H locs 0 0 (MQ below (qc_X7_innerToFour_0 dC dI a kA sz M L Z) (av_X7_innerToFour_0 a t p1 p2).toArray s 0 0 (rpA a sz)) (F0 m 51 ls [.int v5, .int p1]) := by
        intro v5 H locs ls h hI hl
        have h := hK51 v5 h
        refine lv_iadd hx hb dX7_innerToFour_51 ?_
        refine lv_topi (fun x6 ex6 => ?_)
        have h := h x6 ex6
        refine lv_istore (lv' := [(4, .int x6), (0, .ref (a 0)), (1, .int p1), (3, .int r4)]) hx hb dX7_innerToFour_52 hl (by decide) rfl (fun ls hl => ?_)
        refine lv_aload_n hx hb dX7_innerToFour_54 rfl (lv_at hl 1 rfl) ?_
        refine lv_iload_n hx hb dX7_innerToFour_55 rfl (lv_at hl 2 rfl) ?_
        refine lv_iload hx hb dX7_innerToFour_56 (lv_at hl 0 rfl) ?_
        refine rpcalli_m hsz hI (va_runV (As := [.int p1, .int x6]) (rest := []) ⟨hx, hb, hml, hown, hu⟩ (met_X7_headers_0 l dC dI a kA t _ M L p1 x6 _ h) (cwl_X7_312_X7 hu ⟨by decide, by decide⟩) (rppre (ci := 6) hK hE hsz hI rfl rfl) rfl rfl hl.1 rfl (lv_room (Nat.le_of_ble_eq_true rfl)) dX7_innerToFour_58 ⟨by decide, by decide⟩) (fun r7 M8 H locs h hI => ?_)
        refine lv_if_eq (tgt := 86) hx hb dX7_innerToFour_61 (by decide) (fun c9 => ?_) (fun c9 => ?_)
        · have h := h.1 c9
          refine lv_iconst (v := (0 : Int32)) hx hb dX7_innerToFour_86 (by decide) ?_
          exact rpzret (Z := (fun r M' L' => Z r M' L')) hx hb hr hlocks hK hI dX7_innerToFour_87 ⟨isB_0, h⟩
        · have h := h.2 c9
          refine lv_aload_n hx hb dX7_innerToFour_64 rfl (lv_at hl 1 rfl) ?_
          refine lv_aload_n hx hb dX7_innerToFour_65 rfl (lv_at hl 1 rfl) ?_
          refine va_get (D := (dC, dI)) (ci := 6) (v := .ref (a 1)) (C := RX7) (T := TX7) (N := 44) hx hb hu uX7 hown hK hI.1 0 rfl rfl 1 (by decide) (hu _ uww_538) (fun _ h9 => h9) rfl dX7_innerToFour_66 ?_
          refine lv_iload_n hx hb dX7_innerToFour_69 rfl (lv_at hl 2 rfl) ?_
          refine rpcalli hsz hI (va_runV (As := [.ref (a 1), .int p1]) (rest := []) ⟨hx, hb, hml, hown, hu⟩ (met_X7_addressesOf_0_1 l dC dI a kA t _ M8 L p1 _ h) (cwl_X7_318_X7 hu ⟨by decide, by decide⟩) (rppre (ci := 6) hK hE hsz hI rfl rfl) rfl rfl hl.1 rfl (lv_room (Nat.le_of_ble_eq_true rfl)) dX7_innerToFour_70 ⟨by decide, by decide⟩) (fun r10 M11 L12 H locs h hI => ?_)
          refine lv_if_eq (tgt := 86) hx hb dX7_innerToFour_73 (by decide) (fun c13 => ?_) (fun c13 => ?_)
          · have h := h.1 c13
            refine lv_iconst (v := (0 : Int32)) hx hb dX7_innerToFour_86 (by decide) ?_
            exact rpzret (Z := (fun r M' L' => Z r M' L')) hx hb hr hlocks hK hI dX7_innerToFour_87 ⟨isB_0, h⟩
          · have h := h.2 c13
            refine lv_aload_n hx hb dX7_innerToFour_76 rfl (lv_at hl 1 rfl) ?_
            refine va_get (D := (dC, dI)) (ci := 6) (v := .int (M11 0 35)) (C := RX7) (T := TX7) (N := 44) hx hb hu uX7 hown hK hI.1 0 rfl rfl 35 (by decide) (hu _ uww_671) (fun _ h9 => h9) rfl dX7_innerToFour_77 ?_
            refine rpcalli_p hsz hI (va_runS (As := [.int (M11 0 35)]) (rest := []) ⟨hx, hb, hml, hown, hu⟩ (met_X7_isBarred6 l dC dI a kA t _ M11 L12 (M11 0 35) _ h) (cwl_X7_325_S hu ⟨by decide, by decide⟩) (rppreS hK hE hsz hI) rfl rfl hl.1 rfl (lv_room (Nat.le_of_ble_eq_true rfl)) dX7_innerToFour_80 ⟨by decide, by decide⟩) (fun r14 H locs h hI => ?_)
            refine lv_if_eq (tgt := 88) hx hb dX7_innerToFour_83 (by decide) (fun c15 => ?_) (fun c15 => ?_)
            · have h := h.1 c15
              refine lv_iload hx hb dX7_innerToFour_88 (lv_at hl 0 rfl) ?_
              refine lv_aload_n hx hb dX7_innerToFour_90 rfl (lv_at hl 1 rfl) ?_
              refine va_get (D := (dC, dI)) (ci := 6) (v := .int (M11 0 40)) (C := RX7) (T := TX7) (N := 44) hx hb hu uX7 hown hK hI.1 0 rfl rfl 40 (by decide) (hu _ uww_767) (fun _ h9 => h9) rfl dX7_innerToFour_91 ?_
              refine lv_isub hx hb dX7_innerToFour_94 ?_
              refine lv_topi (fun x16 ex16 => ?_)
              have h := h x16 ex16
              refine lv_istore (lv' := [(5, .int x16), (4, .int x6), (0, .ref (a 0)), (1, .int p1), (3, .int r4)]) hx hb dX7_innerToFour_95 hl (by decide) rfl (fun ls hl => ?_)
              refine lv_aload_n hx hb dX7_innerToFour_97 rfl (lv_at hl 2 rfl) ?_
              refine va_get (D := (dC, dI)) (ci := 6) (v := .int (M11 0 34)) (C := RX7) (T := TX7) (N := 44) hx hb hu uX7 hown hK hI.1 0 rfl rfl 34 (by decide) (hu _ uww_670) (fun _ h9 => h9) rfl dX7_innerToFour_98 ?_
              obtain ⟨K116, hK116, h⟩ := h
              have J116 : ∀ (v17 : Int32) (H : Heap) (locs : List Loc) (ls : Array Slot), K116 v17 → rpI dC dI a kA (rpA a sz) s M11 L12 H locs → lv_has ls 12 [(0, .ref (a 0)), (1, .int p1), (3, .int r4), (5, .int x16)] → W p l e rm_X7_innerToFour_0 s m (av_X7_innerToFour_0 a t p1 p2).toArray below meth c H locs 0 0 (MQ below (qc_X7_innerToFour_0 dC dI a kA sz M L Z) (av_X7_innerToFour_0 a t p1 p2).toArray s 0 0 (rpA a sz)) (F0 m 116 ls [.int v17]) := by
                intro v17 H locs ls h hI hl
                have h := hK116 v17 h
                refine lv_istore (lv' := [(6, .int v17), (0, .ref (a 0)), (1, .int p1), (3, .int r4), (5, .int x16)]) hx hb dX7_innerToFour_116 hl (by decide) rfl (fun ls hl => ?_)
                refine lv_aload_n hx hb dX7_innerToFour_118 rfl (lv_at hl 1 rfl) ?_
                refine va_get (D := (dC, dI)) (ci := 6) (v := .int (M11 0 35)) (C := RX7) (T := TX7) (N := 44) hx hb hu uX7 hown hK hI.1 0 rfl rfl 35 (by decide) (hu _ uww_671) (fun _ h9 => h9) rfl dX7_innerToFour_119 ?_
                refine lv_bipush (v := (58 : Int32)) hx hb dX7_innerToFour_122 (by decide) ?_
                obtain ⟨K174, hK174, h⟩ := h
                have J174 : ∀  (H : Heap) (locs : List Loc) (ls : Array Slot), K174  → rpI dC dI a kA (rpA a sz) s M11 L12 H locs → lv_has ls 12 [(0, .ref (a 0)), (1, .int p1), (3, .int r4), (5, .int x16)] → W p l e rm_X7_innerToFour_0 s m (av_X7_innerToFour_0 a t p1 p2).toArray below meth c H locs 0 0 (MQ below (qc_X7_innerToFour_0 dC dI a kA sz M L Z) (av_X7_innerToFour_0 a t p1 p2).toArray s 0 0 (rpA a sz)) (F0 m 174 ls []) := by
                  intro  H locs ls h hI hl
                  have h := hK174  h
                  refine lv_iload_n hx hb dX7_innerToFour_174 rfl (lv_at hl 1 rfl) ?_
                  refine lv_bipush (v := (40 : Int32)) hx hb dX7_innerToFour_175 (by decide) ?_
                  refine lv_iadd hx hb dX7_innerToFour_177 ?_
                  refine lv_iload_n hx hb dX7_innerToFour_178 rfl (lv_at hl 2 rfl) ?_
                  refine lv_iadd hx hb dX7_innerToFour_179 ?_
                  refine lv_aload_n hx hb dX7_innerToFour_180 rfl (lv_at hl 0 rfl) ?_
                  refine va_get (D := (dC, dI)) (ci := 6) (v := .int (M11 0 40)) (C := RX7) (T := TX7) (N := 44) hx hb hu uX7 hown hK hI.1 0 rfl rfl 40 (by decide) (hu _ uww_767) (fun _ h9 => h9) rfl dX7_innerToFour_181 ?_
                  refine lv_isub hx hb dX7_innerToFour_184 ?_
                  refine lv_topi (fun x18 ex18 => ?_)
                  have h := h x18 ex18
                  refine lv_istore (lv' := [(7, .int x18), (0, .ref (a 0)), (1, .int p1), (3, .int r4), (5, .int x16)]) hx hb dX7_innerToFour_185 hl (by decide) rfl (fun ls hl => ?_)
                  refine lv_bipush (v := (20 : Int32)) hx hb dX7_innerToFour_187 (by decide) ?_
                  refine lv_iload hx hb dX7_innerToFour_189 (lv_at hl 0 rfl) ?_
                  refine lv_iadd hx hb dX7_innerToFour_191 ?_
                  refine lv_ldc (own := RX7) (v := (65535 : Int32)) hx hb hown (hu _ uww_596) dX7_innerToFour_192 ?_
                  refine lv_icmp_le (tgt := 199) hx hb dX7_innerToFour_194 (by decide) (fun c19 => ?_) (fun c19 => ?_)
                  · have h := h.1 c19
                    refine lv_aload_n hx hb dX7_innerToFour_199 rfl (lv_at hl 1 rfl) ?_
                    refine va_get (D := (dC, dI)) (ci := 6) (v := .int (M11 0 20)) (C := RX7) (T := TX7) (N := 44) hx hb hu uX7 hown hK hI.1 0 rfl rfl 20 (by decide) (hu _ uww_622) (fun _ h9 => h9) rfl dX7_innerToFour_200 ?_
                    refine lv_topi (fun x20 ex20 => ?_)
                    have h := h x20 ex20
                    refine lv_istore (lv' := [(8, .int x20), (7, .int x18), (0, .ref (a 0)), (1, .int p1), (3, .int r4), (5, .int x16)]) hx hb dX7_innerToFour_203 hl (by decide) rfl (fun ls hl => ?_)
                    refine lv_aload_n hx hb dX7_innerToFour_205 rfl (lv_at hl 2 rfl) ?_
                    refine lv_bipush (v := (20 : Int32)) hx hb dX7_innerToFour_206 (by decide) ?_
                    refine rpcalli_m hsz hI (va_runV (As := [.int (20 : Int32)]) (rest := []) ⟨hx, hb, hml, hown, hu⟩ (met_X7_more_0 l dC dI a kA t _ M11 L12 (20 : Int32) _ h) (cwl_X7_217_X7 hu ⟨by decide, by decide⟩) (rppre (ci := 6) hK hE hsz hI rfl rfl) rfl rfl hl.1 rfl (lv_room (Nat.le_of_ble_eq_true rfl)) dX7_innerToFour_208 ⟨by decide, by decide⟩) (fun r21 M22 H locs h hI => ?_)
                    refine lv_istore (lv' := [(9, .int r21), (8, .int x20), (7, .int x18), (0, .ref (a 0)), (1, .int p1), (3, .int r4), (5, .int x16)]) hx hb dX7_innerToFour_211 hl (by decide) rfl (fun ls hl => ?_)
                    refine lv_aload_n hx hb dX7_innerToFour_213 rfl (lv_at hl 3 rfl) ?_
                    refine va_get (D := (dC, dI)) (ci := 6) (v := .int (M22 0 41)) (C := RX7) (T := TX7) (N := 44) hx hb hu uX7 hown hK hI.1 0 rfl rfl 41 (by decide) (hu _ uww_764) (fun _ h9 => h9) rfl dX7_innerToFour_214 ?_
                    obtain ⟨K238, hK238, h⟩ := h
                    have J238 : ∀ (v23 : Int32) (H : Heap) (locs : List Loc) (ls : Array Slot), K238 v23 → rpI dC dI a kA (rpA a sz) s M22 L12 H locs → lv_has ls 12 [(0, .ref (a 0)), (1, .int p1), (5, .int x16), (7, .int x18), (8, .int x20), (9, .int r21)] → W p l e rm_X7_innerToFour_0 s m (av_X7_innerToFour_0 a t p1 p2).toArray below meth c H locs 0 0 (MQ below (qc_X7_innerToFour_0 dC dI a kA sz M L Z) (av_X7_innerToFour_0 a t p1 p2).toArray s 0 0 (rpA a sz)) (F0 m 238 ls [.int v23]) := by
                      intro v23 H locs ls h hI hl
                      have h := hK238 v23 h
                      refine lv_istore (lv' := [(10, .int v23), (0, .ref (a 0)), (1, .int p1), (5, .int x16), (7, .int x18), (8, .int x20), (9, .int r21)]) hx hb dX7_innerToFour_238 hl (by decide) rfl (fun ls hl => ?_)
                      refine lv_aload_n hx hb dX7_innerToFour_240 rfl (lv_at hl 1 rfl) ?_
                      refine lv_iload hx hb dX7_innerToFour_241 (lv_at hl 6 rfl) ?_
                      refine lv_aload_n hx hb dX7_innerToFour_243 rfl (lv_at hl 1 rfl) ?_
                      refine lv_iload_n hx hb dX7_innerToFour_244 rfl (lv_at hl 2 rfl) ?_
                      refine rpcalli_p hsz hI (va_runV (As := [.int p1]) (rest := [.int r21, .ref (a 0)]) ⟨hx, hb, hml, hown, hu⟩ (met_X7_class6_0 l dC dI a kA t _ M22 L12 p1 _ h) (cwl_X7_334_X7 hu ⟨by decide, by decide⟩) (rppre (ci := 6) hK hE hsz hI rfl rfl) rfl rfl hl.1 rfl (lv_room (Nat.le_of_ble_eq_true rfl)) dX7_innerToFour_245 ⟨by decide, by decide⟩) (fun r24 H locs h hI => ?_)
                      refine lv_bipush (v := (20 : Int32)) hx hb dX7_innerToFour_248 (by decide) ?_
                      refine lv_iload hx hb dX7_innerToFour_250 (lv_at hl 4 rfl) ?_
                      refine lv_iadd hx hb dX7_innerToFour_252 ?_
                      refine lv_iload hx hb dX7_innerToFour_253 (lv_at hl 0 rfl) ?_
                      refine lv_aload_n hx hb dX7_innerToFour_255 rfl (lv_at hl 1 rfl) ?_
                      refine va_get (D := (dC, dI)) (ci := 6) (v := .int (M22 0 41)) (C := RX7) (T := TX7) (N := 44) hx hb hu uX7 hown hK hI.1 0 rfl rfl 41 (by decide) (hu _ uww_764) (fun _ h9 => h9) rfl dX7_innerToFour_256 ?_
                      obtain ⟨K278, hK278, h⟩ := h
                      have J278 : ∀ (v25 : Int32) (H : Heap) (locs : List Loc) (ls : Array Slot), K278 v25 → rpI dC dI a kA (rpA a sz) s M22 L12 H locs → lv_has ls 12 [(0, .ref (a 0)), (1, .int p1), (5, .int x16), (7, .int x18), (8, .int x20), (9, .int r21)] → W p l e rm_X7_innerToFour_0 s m (av_X7_innerToFour_0 a t p1 p2).toArray below meth c H locs 0 0 (MQ below (qc_X7_innerToFour_0 dC dI a kA sz M L Z) (av_X7_innerToFour_0 a t p1 p2).toArray s 0 0 (rpA a sz)) (F0 m 278 ls [.int v25, .int v23, .int ((20 : Int32) + x18), .int r24, .int r21, .ref (a 0)]) := by
                        intro v25 H locs ls h hI hl
                        have h := hK278 v25 h
                        refine lv_aload_n hx hb dX7_innerToFour_278 rfl (lv_at hl 0 rfl) ?_
                        refine va_get (D := (dC, dI)) (ci := 6) (v := .int (M22 0 33)) (C := RX7) (T := TX7) (N := 44) hx hb hu uX7 hown hK hI.1 0 rfl rfl 33 (by decide) (hu _ uww_669) (fun _ h9 => h9) rfl dX7_innerToFour_279 ?_
                        refine lv_aload_n hx hb dX7_innerToFour_282 rfl (lv_at hl 0 rfl) ?_
                        refine va_get (D := (dC, dI)) (ci := 6) (v := .int (M22 0 34)) (C := RX7) (T := TX7) (N := 44) hx hb hu uX7 hown hK hI.1 0 rfl rfl 34 (by decide) (hu _ uww_670) (fun _ h9 => h9) rfl dX7_innerToFour_283 ?_
                        refine lv_aload_n hx hb dX7_innerToFour_286 rfl (lv_at hl 0 rfl) ?_
                        refine va_get (D := (dC, dI)) (ci := 6) (v := .ref (a 1)) (C := RX7) (T := TX7) (N := 44) hx hb hu uX7 hown hK hI.1 0 rfl rfl 1 (by decide) (hu _ uww_538) (fun _ h9 => h9) rfl dX7_innerToFour_287 ?_
                        refine lv_iload_n hx hb dX7_innerToFour_290 rfl (lv_at hl 1 rfl) ?_
                        refine lv_bipush (v := (7 : Int32)) hx hb dX7_innerToFour_291 (by decide) ?_
                        refine lv_iadd hx hb dX7_innerToFour_293 ?_
                        refine rpcalli_p hsz hI (va_runS (As := [.ref (a 1), .int (p1 + (7 : Int32))]) (rest := [.int (M22 0 34), .int (M22 0 33), .int v25, .int v23, .int ((20 : Int32) + x18), .int r24, .int r21, .ref (a 0)]) ⟨hx, hb, hml, hown, hu⟩ (met_X7_octetAt_1 l dC dI a kA t _ M22 L12 (p1 + (7 : Int32)) _ h) (cwl_X7_111_S hu ⟨by decide, by decide⟩) (rppreS hK hE hsz hI) rfl rfl hl.1 rfl (lv_room (Nat.le_of_ble_eq_true rfl)) dX7_innerToFour_294 ⟨by decide, by decide⟩) (fun r26 H locs h hI => ?_)
                        refine rpcallv hsz hI (va_runV (As := [.int r21, .int r24, .int ((20 : Int32) + x18), .int v23, .int v25, .int (M22 0 33), .int (M22 0 34), .int r26]) (rest := []) ⟨hx, hb, hml, hown, hu⟩ (met_X7_head4_0 l dC dI a kA t _ M22 L12 r21 r24 ((20 : Int32) + x18) v23 v25 (M22 0 33) (M22 0 34) r26 _ h) (cwl_X7_337_X7 hu ⟨by decide, by decide⟩) (rppre (ci := 6) hK hE hsz hI rfl rfl) rfl rfl hl.1 rfl (lv_room (Nat.le_of_ble_eq_true rfl)) dX7_innerToFour_297 ⟨by decide, by decide⟩) (fun M27 L28 H locs h hI => ?_)
                        refine lv_iconst (v := (0 : Int32)) hx hb dX7_innerToFour_300 (by decide) ?_
                        refine lv_istore (lv' := [(11, .int (0 : Int32)), (0, .ref (a 0)), (1, .int p1), (5, .int x16), (7, .int x18), (8, .int x20), (9, .int r21)]) hx hb dX7_innerToFour_301 hl (by decide) rfl (fun ls hl => ?_)
                        obtain ⟨I303, m303, h, hs303⟩ := h
                        have P303 : ∀ (n303 : Nat) (x29 : Int32) (M30 : cM) (H : Heap) (locs : List Loc) (ls : Array Slot), I303 x29 M30 → m303 x29 M30 < n303 → rpI dC dI a kA (rpA a sz) s M30 L28 H locs → lv_has ls 12 [(0, .ref (a 0)), (5, .int x16), (7, .int x18), (8, .int x20), (9, .int r21), (11, .int x29)] → W p l e rm_X7_innerToFour_0 s m (av_X7_innerToFour_0 a t p1 p2).toArray below meth c H locs 0 0 (MQ below (qc_X7_innerToFour_0 dC dI a kA sz M L Z) (av_X7_innerToFour_0 a t p1 p2).toArray s 0 0 (rpA a sz)) (F0 m 303 ls []) := by
                          intro n303
                          induction n303 with
                          | zero => intro x29 M30 H locs ls _ hn; exact absurd hn (Nat.not_lt_zero _)
                          | succ n303 ih303 =>
                            intro x29 M30 H locs ls h hn303 hI hl
                            have h := hs303 x29 M30 h
                            refine lv_iload hx hb dX7_innerToFour_303 (lv_at hl 5 rfl) ?_
                            refine lv_bipush (v := (20 : Int32)) hx hb dX7_innerToFour_305 (by decide) ?_
                            refine lv_icmp_ge (tgt := 336) hx hb dX7_innerToFour_307 (by decide) (fun c31 => ?_) (fun c31 => ?_)
                            · have h := h.1 c31
                              refine lv_aload_n hx hb dX7_innerToFour_336 rfl (lv_at hl 0 rfl) ?_
                              refine lv_iload hx hb dX7_innerToFour_337 (lv_at hl 3 rfl) ?_
                              refine rpput (ci := 6) (C := RX7) (T := TX7) (N := 44) (ty := .int) hx hb hu uX7 tyX7 tyX7_ok nmX7 hown hK hI 0 rfl rfl 20 (by decide) (hu _ uww_622) (fun _ h9 => h9) rfl (by decide +kernel) rfl rfl (Nat.le_of_ble_eq_true rfl) (rpset_0_20 _ _ _ _ _) dX7_innerToFour_339 (fun H locs M32 eM32 hI => ?_)
                              have h := h M32 eM32
                              refine lv_iconst (v := (0 : Int32)) hx hb dX7_innerToFour_342 (by decide) ?_
                              refine lv_istore (lv' := [(11, .int (0 : Int32)), (0, .ref (a 0)), (5, .int x16), (7, .int x18), (8, .int x20), (9, .int r21)]) hx hb dX7_innerToFour_343 hl (by decide) rfl (fun ls hl => ?_)
                              obtain ⟨I345, m345, h, hs345⟩ := h
                              have P345 : ∀ (n345 : Nat) (x33 : Int32) (M34 : cM) (H : Heap) (locs : List Loc) (ls : Array Slot), I345 x33 M34 → m345 x33 M34 < n345 → rpI dC dI a kA (rpA a sz) s M34 L28 H locs → lv_has ls 12 [(0, .ref (a 0)), (5, .int x16), (7, .int x18), (11, .int x33)] → W p l e rm_X7_innerToFour_0 s m (av_X7_innerToFour_0 a t p1 p2).toArray below meth c H locs 0 0 (MQ below (qc_X7_innerToFour_0 dC dI a kA sz M L Z) (av_X7_innerToFour_0 a t p1 p2).toArray s 0 0 (rpA a sz)) (F0 m 345 ls []) := by
                                intro n345
                                induction n345 with
                                | zero => intro x33 M34 H locs ls _ hn; exact absurd hn (Nat.not_lt_zero _)
                                | succ n345 ih345 =>
                                  intro x33 M34 H locs ls h hn345 hI hl
                                  have h := hs345 x33 M34 h
                                  refine lv_iload hx hb dX7_innerToFour_345 (lv_at hl 3 rfl) ?_
                                  refine lv_iload hx hb dX7_innerToFour_347 (lv_at hl 1 rfl) ?_
                                  refine lv_icmp_ge (tgt := 380) hx hb dX7_innerToFour_349 (by decide) (fun c35 => ?_) (fun c35 => ?_)
                                  · have h := h.1 c35
                                    refine lv_aload_n hx hb dX7_innerToFour_380 rfl (lv_at hl 0 rfl) ?_
                                    refine lv_bipush (v := (28 : Int32)) hx hb dX7_innerToFour_381 (by decide) ?_
                                    refine lv_iload hx hb dX7_innerToFour_383 (lv_at hl 1 rfl) ?_
                                    refine lv_iadd hx hb dX7_innerToFour_385 ?_
                                    refine rpput (ci := 6) (C := RX7) (T := TX7) (N := 44) (ty := .int) hx hb hu uX7 tyX7 tyX7_ok nmX7 hown hK hI 0 rfl rfl 24 (by decide) (hu _ uww_626) (fun _ h9 => h9) rfl (by decide +kernel) rfl rfl (Nat.le_of_ble_eq_true rfl) (rpset_0_24 _ _ _ _ _) dX7_innerToFour_386 (fun H locs M36 eM36 hI => ?_)
                                    have h := h M36 eM36
                                    refine lv_aload_n hx hb dX7_innerToFour_389 rfl (lv_at hl 0 rfl) ?_
                                    refine lv_bipush (v := (28 : Int32)) hx hb dX7_innerToFour_390 (by decide) ?_
                                    refine lv_iload hx hb dX7_innerToFour_392 (lv_at hl 1 rfl) ?_
                                    refine lv_iload hx hb dX7_innerToFour_394 (lv_at hl 2 rfl) ?_
                                    refine lv_aload_n hx hb dX7_innerToFour_396 rfl (lv_at hl 0 rfl) ?_
                                    refine va_get (D := (dC, dI)) (ci := 6) (v := .int (M36 0 33)) (C := RX7) (T := TX7) (N := 44) hx hb hu uX7 hown hK hI.1 0 rfl rfl 33 (by decide) (hu _ uww_669) (fun _ h9 => h9) rfl dX7_innerToFour_397 ?_
                                    refine lv_iconst (v := (0 : Int32)) hx hb dX7_innerToFour_400 (by decide) ?_
                                    refine rpcallv hsz hI (va_runV (As := [.int (28 : Int32), .int x16, .int x18, .int (M36 0 33), .int (0 : Int32)]) (rest := []) ⟨hx, hb, hml, hown, hu⟩ (met_X7_mendInner_0 l dC dI a kA t _ M36 L28 (28 : Int32) x16 x18 (M36 0 33) (0 : Int32) _ h) (cwl_X7_295_X7 hu ⟨by decide, by decide⟩) (rppre (ci := 6) hK hE hsz hI rfl rfl) rfl rfl hl.1 rfl (lv_room (Nat.le_of_ble_eq_true rfl)) dX7_innerToFour_401 ⟨by decide, by decide⟩) (fun M37 L38 H locs h hI => ?_)
                                    refine lv_iconst (v := (1 : Int32)) hx hb dX7_innerToFour_404 (by decide) ?_
                                    exact rpzret (Z := (fun r M' L' => Z r M' L')) hx hb hr hlocks hK hI dX7_innerToFour_405 ⟨isB_1, h⟩
                                  · have h := h.2 c35
                                    refine lv_aload_n hx hb dX7_innerToFour_352 rfl (lv_at hl 0 rfl) ?_
                                    refine va_get (D := (dC, dI)) (ci := 6) (v := .ref (a 5)) (C := RX7) (T := TX7) (N := 44) hx hb hu uX7 hown hK hI.1 0 rfl rfl 23 (by decide) (hu _ uww_554) (fun _ h9 => h9) rfl dX7_innerToFour_353 ?_
                                    refine lv_bipush (v := (28 : Int32)) hx hb dX7_innerToFour_356 (by decide) ?_
                                    refine lv_iload hx hb dX7_innerToFour_358 (lv_at hl 3 rfl) ?_
                                    refine lv_iadd hx hb dX7_innerToFour_360 ?_
                                    refine lv_aload_n hx hb dX7_innerToFour_361 rfl (lv_at hl 0 rfl) ?_
                                    refine va_get (D := (dC, dI)) (ci := 6) (v := .ref (a 1)) (C := RX7) (T := TX7) (N := 44) hx hb hu uX7 hown hK hI.1 0 rfl rfl 1 (by decide) (hu _ uww_538) (fun _ h9 => h9) rfl dX7_innerToFour_362 ?_
                                    refine lv_aload_n hx hb dX7_innerToFour_365 rfl (lv_at hl 0 rfl) ?_
                                    refine va_get (D := (dC, dI)) (ci := 6) (v := .int (M34 0 40)) (C := RX7) (T := TX7) (N := 44) hx hb hu uX7 hown hK hI.1 0 rfl rfl 40 (by decide) (hu _ uww_767) (fun _ h9 => h9) rfl dX7_innerToFour_366 ?_
                                    refine lv_iload hx hb dX7_innerToFour_369 (lv_at hl 3 rfl) ?_
                                    refine lv_iadd hx hb dX7_innerToFour_371 ?_
                                    refine va_bald hx hb hK hI.1 1 0 rfl rfl h.1 dX7_innerToFour_372 ?_
                                    have h := h.2
                                    refine rpbast hx hb hK hI 5 4 rfl rfl h.1 (rpset_5 _ _ _ _ _ _) dX7_innerToFour_373 (fun H locs M39 eM39 hI => ?_)
                                    have h := h.2 M39 eM39
                                    obtain ⟨x40, ex40⟩ : ∃ y : Int32, y = (x33 + (1 : Int32)) := ⟨_, rfl⟩
                                    have h := h x40 ex40
                                    refine lv_iinc (v := x40) (lv' := [(11, .int x40), (0, .ref (a 0)), (5, .int x16), (7, .int x18)]) hx hb dX7_innerToFour_374 hl (k := 3) rfl (by rw [ex40]; rfl) (by decide) rfl (fun ls hl => ?_)
                                    refine lv_goto (tgt := 345) hx hb dX7_innerToFour_377 (by decide) ?_
                                    exact ih345 x40 M39 _ _ _ h.1 (Nat.lt_of_lt_of_le h.2 (Nat.le_of_lt_succ hn345)) hI (lv_sub hl [1, 2, 3, 0] rfl)
                              exact P345 (m345 (0 : Int32) M32 + 1) (0 : Int32) M32 _ _ _ h (Nat.lt_succ_self _) hI (lv_sub hl [1, 2, 3, 0] rfl)
                            · have h := h.2 c31
                              refine lv_aload_n hx hb dX7_innerToFour_310 rfl (lv_at hl 0 rfl) ?_
                              refine va_get (D := (dC, dI)) (ci := 6) (v := .ref (a 5)) (C := RX7) (T := TX7) (N := 44) hx hb hu uX7 hown hK hI.1 0 rfl rfl 23 (by decide) (hu _ uww_554) (fun _ h9 => h9) rfl dX7_innerToFour_311 ?_
                              refine lv_bipush (v := (8 : Int32)) hx hb dX7_innerToFour_314 (by decide) ?_
                              refine lv_iload hx hb dX7_innerToFour_316 (lv_at hl 5 rfl) ?_
                              refine lv_iadd hx hb dX7_innerToFour_318 ?_
                              refine lv_aload_n hx hb dX7_innerToFour_319 rfl (lv_at hl 0 rfl) ?_
                              refine va_get (D := (dC, dI)) (ci := 6) (v := .ref (a 3)) (C := RX7) (T := TX7) (N := 44) hx hb hu uX7 hown hK hI.1 0 rfl rfl 19 (by decide) (hu _ uww_552) (fun _ h9 => h9) rfl dX7_innerToFour_320 ?_
                              refine lv_iload hx hb dX7_innerToFour_323 (lv_at hl 4 rfl) ?_
                              refine lv_iload hx hb dX7_innerToFour_325 (lv_at hl 5 rfl) ?_
                              refine lv_iadd hx hb dX7_innerToFour_327 ?_
                              refine va_bald hx hb hK hI.1 3 2 rfl rfl h.1 dX7_innerToFour_328 ?_
                              have h := h.2
                              refine rpbast hx hb hK hI 5 4 rfl rfl h.1 (rpset_5 _ _ _ _ _ _) dX7_innerToFour_329 (fun H locs M41 eM41 hI => ?_)
                              have h := h.2 M41 eM41
                              obtain ⟨x42, ex42⟩ : ∃ y : Int32, y = (x29 + (1 : Int32)) := ⟨_, rfl⟩
                              have h := h x42 ex42
                              refine lv_iinc (v := x42) (lv' := [(11, .int x42), (0, .ref (a 0)), (5, .int x16), (7, .int x18), (8, .int x20), (9, .int r21)]) hx hb dX7_innerToFour_330 hl (k := 5) rfl (by rw [ex42]; rfl) (by decide) rfl (fun ls hl => ?_)
                              refine lv_goto (tgt := 303) hx hb dX7_innerToFour_333 (by decide) ?_
                              exact ih303 x42 M41 _ _ _ h.1 (Nat.lt_of_lt_of_le h.2 (Nat.le_of_lt_succ hn303)) hI (lv_sub hl [1, 2, 3, 4, 5, 0] rfl)
                        exact P303 (m303 (0 : Int32) M27 + 1) (0 : Int32) M27 _ _ _ h (Nat.lt_succ_self _) hI (lv_sub hl [1, 3, 4, 5, 6, 0] rfl)
                      obtain ⟨K277, hK277, h⟩ := h
                      have J277 : ∀  (H : Heap) (locs : List Loc) (ls : Array Slot), K277  → rpI dC dI a kA (rpA a sz) s M22 L12 H locs → lv_has ls 12 [(0, .ref (a 0)), (1, .int p1), (5, .int x16), (7, .int x18), (8, .int x20), (9, .int r21)] → W p l e rm_X7_innerToFour_0 s m (av_X7_innerToFour_0 a t p1 p2).toArray below meth c H locs 0 0 (MQ below (qc_X7_innerToFour_0 dC dI a kA sz M L Z) (av_X7_innerToFour_0 a t p1 p2).toArray s 0 0 (rpA a sz)) (F0 m 277 ls [.int v23, .int ((20 : Int32) + x18), .int r24, .int r21, .ref (a 0)]) := by
                        intro  H locs ls h hI hl
                        have h := hK277  h
                        refine lv_iconst (v := (0 : Int32)) hx hb dX7_innerToFour_277 (by decide) ?_
                        exact J278 (0 : Int32) _ _ _ h hI (lv_sub hl [0, 1, 2, 3, 4, 5] rfl)
                      refine lv_if_ge (tgt := 277) hx hb dX7_innerToFour_259 (by decide) (fun c43 => ?_) (fun c43 => ?_)
                      · have h := h.1 c43
                        exact J277  _ _ _ h hI (lv_sub hl [1, 2, 3, 4, 5, 6] rfl)
                      · have h := h.2 c43
                        refine lv_bipush (v := (20 : Int32)) hx hb dX7_innerToFour_262 (by decide) ?_
                        refine lv_iload hx hb dX7_innerToFour_264 (lv_at hl 4 rfl) ?_
                        refine lv_iadd hx hb dX7_innerToFour_266 ?_
                        refine lv_sipush (v := (1260 : Int32)) hx hb dX7_innerToFour_267 (by decide) ?_
                        refine lv_icmp_le (tgt := 277) hx hb dX7_innerToFour_270 (by decide) (fun c44 => ?_) (fun c44 => ?_)
                        · have h := h.1 c44
                          exact J277  _ _ _ h hI (lv_sub hl [1, 2, 3, 4, 5, 6] rfl)
                        · have h := h.2 c44
                          refine lv_iconst (v := (1 : Int32)) hx hb dX7_innerToFour_273 (by decide) ?_
                          refine lv_goto (tgt := 278) hx hb dX7_innerToFour_274 (by decide) ?_
                          exact J278 (1 : Int32) _ _ _ h hI (lv_sub hl [1, 2, 3, 4, 5, 6] rfl)
                    refine lv_if_ge (tgt := 224) hx hb dX7_innerToFour_217 (by decide) (fun c45 => ?_) (fun c45 => ?_)
                    · have h := h.1 c45
                      refine lv_aload_n hx hb dX7_innerToFour_224 rfl (lv_at hl 3 rfl) ?_
                      refine va_get (D := (dC, dI)) (ci := 6) (v := .ref (a 1)) (C := RX7) (T := TX7) (N := 44) hx hb hu uX7 hown hK hI.1 0 rfl rfl 1 (by decide) (hu _ uww_538) (fun _ h9 => h9) rfl dX7_innerToFour_225 ?_
                      refine lv_aload_n hx hb dX7_innerToFour_228 rfl (lv_at hl 3 rfl) ?_
                      refine va_get (D := (dC, dI)) (ci := 6) (v := .int (M22 0 41)) (C := RX7) (T := TX7) (N := 44) hx hb hu uX7 hown hK hI.1 0 rfl rfl 41 (by decide) (hu _ uww_764) (fun _ h9 => h9) rfl dX7_innerToFour_229 ?_
                      refine lv_bipush (v := (6 : Int32)) hx hb dX7_innerToFour_232 (by decide) ?_
                      refine lv_iadd hx hb dX7_innerToFour_234 ?_
                      refine rpcalli_p hsz hI (va_runS (As := [.ref (a 1), .int ((M22 0 41) + (6 : Int32))]) (rest := []) ⟨hx, hb, hml, hown, hu⟩ (met_X7_twoAt_1 l dC dI a kA t _ M22 L12 ((M22 0 41) + (6 : Int32)) _ h) (cwl_X7_115_S hu ⟨by decide, by decide⟩) (rppreS hK hE hsz hI) rfl rfl hl.1 rfl (lv_room (Nat.le_of_ble_eq_true rfl)) dX7_innerToFour_235 ⟨by decide, by decide⟩) (fun r46 H locs h hI => ?_)
                      exact J238 r46 _ _ _ h hI (lv_sub hl [3, 4, 6, 2, 1, 0] rfl)
                    · have h := h.2 c45
                      refine lv_iconst (v := (0 : Int32)) hx hb dX7_innerToFour_220 (by decide) ?_
                      refine lv_goto (tgt := 238) hx hb dX7_innerToFour_221 (by decide) ?_
                      exact J238 (0 : Int32) _ _ _ h hI (lv_sub hl [3, 4, 6, 2, 1, 0] rfl)
                  · have h := h.2 c19
                    refine lv_iconst (v := (0 : Int32)) hx hb dX7_innerToFour_197 (by decide) ?_
                    exact rpzret (Z := (fun r M' L' => Z r M' L')) hx hb hr hlocks hK hI dX7_innerToFour_198 ⟨isB_0, h⟩
                refine lv_icmp_ne (tgt := 174) hx hb dX7_innerToFour_124 (by decide) (fun c47 => ?_) (fun c47 => ?_)
                · have h := h.1 c47
                  exact J174  _ _ _ h hI (lv_sub hl [1, 2, 3, 4] rfl)
                · have h := h.2 c47
                  refine lv_iload hx hb dX7_innerToFour_127 (lv_at hl 0 rfl) ?_
                  refine lv_if_ne (tgt := 172) hx hb dX7_innerToFour_129 (by decide) (fun c48 => ?_) (fun c48 => ?_)
                  · have h := h.1 c48
                    refine lv_iconst (v := (0 : Int32)) hx hb dX7_innerToFour_172 (by decide) ?_
                    exact rpzret (Z := (fun r M' L' => Z r M' L')) hx hb hr hlocks hK hI dX7_innerToFour_173 ⟨isB_0, h⟩
                  · have h := h.2 c48
                    refine lv_iload hx hb dX7_innerToFour_132 (lv_at hl 4 rfl) ?_
                    refine lv_iconst (v := (4 : Int32)) hx hb dX7_innerToFour_134 (by decide) ?_
                    refine lv_icmp_lt (tgt := 172) hx hb dX7_innerToFour_135 (by decide) (fun c49 => ?_) (fun c49 => ?_)
                    · have h := h.1 c49
                      refine lv_iconst (v := (0 : Int32)) hx hb dX7_innerToFour_172 (by decide) ?_
                      exact rpzret (Z := (fun r M' L' => Z r M' L')) hx hb hr hlocks hK hI dX7_innerToFour_173 ⟨isB_0, h⟩
                    · have h := h.2 c49
                      refine lv_aload_n hx hb dX7_innerToFour_138 rfl (lv_at hl 1 rfl) ?_
                      refine va_get (D := (dC, dI)) (ci := 6) (v := .ref (a 1)) (C := RX7) (T := TX7) (N := 44) hx hb hu uX7 hown hK hI.1 0 rfl rfl 1 (by decide) (hu _ uww_538) (fun _ h9 => h9) rfl dX7_innerToFour_139 ?_
                      refine lv_aload_n hx hb dX7_innerToFour_142 rfl (lv_at hl 1 rfl) ?_
                      refine va_get (D := (dC, dI)) (ci := 6) (v := .int (M11 0 40)) (C := RX7) (T := TX7) (N := 44) hx hb hu uX7 hown hK hI.1 0 rfl rfl 40 (by decide) (hu _ uww_767) (fun _ h9 => h9) rfl dX7_innerToFour_143 ?_
                      refine rpcalli_p hsz hI (va_runS (As := [.ref (a 1), .int (M11 0 40)]) (rest := []) ⟨hx, hb, hml, hown, hu⟩ (met_X7_octetAt_1 l dC dI a kA t _ M11 L12 (M11 0 40) _ h) (cwl_X7_111_S hu ⟨by decide, by decide⟩) (rppreS hK hE hsz hI) rfl rfl hl.1 rfl (lv_room (Nat.le_of_ble_eq_true rfl)) dX7_innerToFour_146 ⟨by decide, by decide⟩) (fun r50 H locs h hI => ?_)
                      refine lv_sipush (v := (128 : Int32)) hx hb dX7_innerToFour_149 (by decide) ?_
                      refine lv_icmp_eq (tgt := 174) hx hb dX7_innerToFour_152 (by decide) (fun c51 => ?_) (fun c51 => ?_)
                      · have h := h.1 c51
                        exact J174  _ _ _ h hI (lv_sub hl [1, 2, 3, 4] rfl)
                      · have h := h.2 c51
                        refine lv_aload_n hx hb dX7_innerToFour_155 rfl (lv_at hl 1 rfl) ?_
                        refine va_get (D := (dC, dI)) (ci := 6) (v := .ref (a 1)) (C := RX7) (T := TX7) (N := 44) hx hb hu uX7 hown hK hI.1 0 rfl rfl 1 (by decide) (hu _ uww_538) (fun _ h9 => h9) rfl dX7_innerToFour_156 ?_
                        refine lv_aload_n hx hb dX7_innerToFour_159 rfl (lv_at hl 1 rfl) ?_
                        refine va_get (D := (dC, dI)) (ci := 6) (v := .int (M11 0 40)) (C := RX7) (T := TX7) (N := 44) hx hb hu uX7 hown hK hI.1 0 rfl rfl 40 (by decide) (hu _ uww_767) (fun _ h9 => h9) rfl dX7_innerToFour_160 ?_
                        refine rpcalli_p hsz hI (va_runS (As := [.ref (a 1), .int (M11 0 40)]) (rest := []) ⟨hx, hb, hml, hown, hu⟩ (met_X7_octetAt_1 l dC dI a kA t _ M11 L12 (M11 0 40) _ h) (cwl_X7_111_S hu ⟨by decide, by decide⟩) (rppreS hK hE hsz hI) rfl rfl hl.1 rfl (lv_room (Nat.le_of_ble_eq_true rfl)) dX7_innerToFour_163 ⟨by decide, by decide⟩) (fun r52 H locs h hI => ?_)
                        refine lv_sipush (v := (129 : Int32)) hx hb dX7_innerToFour_166 (by decide) ?_
                        refine lv_icmp_eq (tgt := 174) hx hb dX7_innerToFour_169 (by decide) (fun c53 => ?_) (fun c53 => ?_)
                        · have h := h.1 c53
                          exact J174  _ _ _ h hI (lv_sub hl [1, 2, 3, 4] rfl)
                        · have h := h.2 c53
                          refine lv_iconst (v := (0 : Int32)) hx hb dX7_innerToFour_172 (by decide) ?_
                          exact rpzret (Z := (fun r M' L' => Z r M' L')) hx hb hr hlocks hK hI dX7_innerToFour_173 ⟨isB_0, h⟩
              obtain ⟨K111, hK111, h⟩ := h
              have J111 : ∀  (H : Heap) (locs : List Loc) (ls : Array Slot), K111  → rpI dC dI a kA (rpA a sz) s M11 L12 H locs → lv_has ls 12 [(0, .ref (a 0)), (1, .int p1), (3, .int r4), (5, .int x16)] → W p l e rm_X7_innerToFour_0 s m (av_X7_innerToFour_0 a t p1 p2).toArray below meth c H locs 0 0 (MQ below (qc_X7_innerToFour_0 dC dI a kA sz M L Z) (av_X7_innerToFour_0 a t p1 p2).toArray s 0 0 (rpA a sz)) (F0 m 111 ls []) := by
                intro  H locs ls h hI hl
                have h := hK111  h
                refine lv_iconst (v := (1 : Int32)) hx hb dX7_innerToFour_111 (by decide) ?_
                refine lv_goto (tgt := 116) hx hb dX7_innerToFour_112 (by decide) ?_
                exact J116 (1 : Int32) _ _ _ h hI (lv_sub hl [0, 1, 2, 3] rfl)
              refine lv_if_ne (tgt := 111) hx hb dX7_innerToFour_101 (by decide) (fun c54 => ?_) (fun c54 => ?_)
              · have h := h.1 c54
                exact J111  _ _ _ h hI (lv_sub hl [2, 3, 4, 0] rfl)
              · have h := h.2 c54
                refine lv_aload_n hx hb dX7_innerToFour_104 rfl (lv_at hl 2 rfl) ?_
                refine va_get (D := (dC, dI)) (ci := 6) (v := .int (M11 0 33)) (C := RX7) (T := TX7) (N := 44) hx hb hu uX7 hown hK hI.1 0 rfl rfl 33 (by decide) (hu _ uww_669) (fun _ h9 => h9) rfl dX7_innerToFour_105 ?_
                refine lv_if_le (tgt := 115) hx hb dX7_innerToFour_108 (by decide) (fun c55 => ?_) (fun c55 => ?_)
                · have h := h.1 c55
                  refine lv_iconst (v := (0 : Int32)) hx hb dX7_innerToFour_115 (by decide) ?_
                  exact J116 (0 : Int32) _ _ _ h hI (lv_sub hl [2, 3, 4, 0] rfl)
                · have h := h.2 c55
                  exact J111  _ _ _ h hI (lv_sub hl [2, 3, 4, 0] rfl)
            · have h := h.2 c15
              refine lv_iconst (v := (0 : Int32)) hx hb dX7_innerToFour_86 (by decide) ?_
              exact rpzret (Z := (fun r M' L' => Z r M' L')) hx hb hr hlocks hK hI dX7_innerToFour_87 ⟨isB_0, h⟩
      refine lv_icmp_ge (tgt := 47) hx hb dX7_innerToFour_40 (by decide) (fun c56 => ?_) (fun c56 => ?_)
      · have h := h.1 c56
        refine lv_bipush (v := (40 : Int32)) hx hb dX7_innerToFour_47 (by decide) ?_
        refine lv_iload_n hx hb dX7_innerToFour_49 rfl (lv_at hl 0 rfl) ?_
        refine lv_iadd hx hb dX7_innerToFour_50 ?_
        exact J51 ((40 : Int32) + r4) _ _ _ h hI (lv_sub hl [1, 2, 0] rfl)
      · have h := h.2 c56
        refine lv_iload_n hx hb dX7_innerToFour_43 rfl (lv_at hl 3 rfl) ?_
        refine lv_goto (tgt := 51) hx hb dX7_innerToFour_44 (by decide) ?_
        exact J51 p2 _ _ _ h hI (lv_sub hl [1, 2, 0] rfl)
    · have h := h.2 c3
      refine lv_iconst (v := (0 : Int32)) hx hb dX7_innerToFour_21 (by decide) ?_
      exact rpzret (Z := (fun r M' L' => Z r M' L')) hx hb hr hlocks hK hI dX7_innerToFour_22 ⟨isB_0, h⟩
