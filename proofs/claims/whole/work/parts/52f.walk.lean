abbrev rm_X6_faultOfTransport_0_13 : Room := { frames := 1, cells := 0, slots := 0, locals := 21 }
abbrev av_X6_faultOfTransport_0_13 (a t : Nat → Nat) (p2 : Int32) : List Value := [.ref (a 0), .ref (a 13), .int p2]
abbrev qc_X6_faultOfTransport_0_13 (dC : Nat → ClassId) (dI : Nat → Nat → Nat) (a : Nat → Nat) (kA : Nat → ClassId) (sz : Nat) (M : cM) (L : cL) (Z : Int32 → Prop) : Array Value → State → Outcome → State → Prop := va_Qi (fun r (u : cM × cL) => u.1 = M ∧ u.2 = L ∧ Z r) (cpAt dC dI a kA (cpA a sz)) (cpA a sz)
set_option maxHeartbeats 4000000 in
set_option maxRecDepth 100000 in
theorem met_X6_faultOfTransport_0_13 (l : Launch) (dC : Nat → ClassId) (dI : Nat → Nat → Nat) (a : Nat → Nat) (kA : Nat → ClassId) (t : Nat → Nat) (sz : Nat) (M : cM) (L : cL) (p2 : Int32) (Z : Int32 → Prop) (h : wp_X6_faultOfTransport_0_13 M L p2 Z) : Met l yX6_faultOfTransport (Cond.code yX6_faultOfTransport cX6_faultOfTransport 5 (some .int) :: uW) rm_X6_faultOfTransport_0_13 (va_Pc (av_X6_faultOfTransport_0_13 a t p2) (cpPre dC dI a kA t M L sz)) (qc_X6_faultOfTransport_0_13 dC dI a kA sz M L Z) 0 0 (cpA a sz) := by
  refine cpenter (cc := cX6_faultOfTransport) (n := 5) (ret := (some .int)) (by decide) rfl (Nat.le_of_ble_eq_true rfl) ?_
  intro p e s m below meth c ls hx hb hml hr hlocks hown hts hK hE hsz hI hl hmn
  have hu : ∀ w ∈ uW, w.before (av_X6_faultOfTransport_0_13 a t p2).toArray s = true := fun w h => hts w (List.mem_cons_of_mem _ h)
  have hown : s.vm.findClass RX6 = some m.cls := hown
  have hl : lv_has ls 5 [(0, .ref (a 0)), (1, .ref (a 13)), (2, .int p2)] := hl
  unfold wp_X6_faultOfTransport_0_13 at h
  refine lv_aload_n hx hb dX6_faultOfTransport_0 rfl (lv_at hl 1 rfl) ?_
  refine va_get (D := (dC, dI)) (ci := 4) (v := .int (M 13 3)) (C := RX5) (T := TX5) (N := 16) hx hb hu uX5 hown hK hI.1 13 rfl rfl 3 (by decide) (hu _ uww_321) (fun _ h9 => h9) rfl dX6_faultOfTransport_1 ?_
  refine lv_bipush (v := (17 : Int32)) hx hb dX6_faultOfTransport_4 (by decide) ?_
  obtain ⟨K14, hK14, h⟩ := h
  have J14 : ∀ (v1 : Int32) (H : Heap) (locs : List Loc) (ls : Array Slot), K14 v1 → cpI dC dI a kA (cpA a sz) s M L H locs → lv_has ls 5 [(0, .ref (a 0)), (1, .ref (a 13)), (2, .int p2)] → W p l e rm_X6_faultOfTransport_0_13 s m (av_X6_faultOfTransport_0_13 a t p2).toArray below meth c H locs 0 0 (MQ below (qc_X6_faultOfTransport_0_13 dC dI a kA sz M L Z) (av_X6_faultOfTransport_0_13 a t p2).toArray s 0 0 (cpA a sz)) (F0 m 14 ls [.int v1]) := by
    intro v1 H locs ls h hI hl
    have h := hK14 v1 h
    refine lv_istore_n (lv' := [(3, .int v1), (0, .ref (a 0)), (1, .ref (a 13)), (2, .int p2)]) hx hb dX6_faultOfTransport_14 rfl hl (by decide) rfl (fun ls hl => ?_)
    refine lv_aload_n hx hb dX6_faultOfTransport_15 rfl (lv_at hl 2 rfl) ?_
    refine va_get (D := (dC, dI)) (ci := 4) (v := .int (M 13 3)) (C := RX5) (T := TX5) (N := 16) hx hb hu uX5 hown hK hI.1 13 rfl rfl 3 (by decide) (hu _ uww_321) (fun _ h9 => h9) rfl dX6_faultOfTransport_16 ?_
    refine lv_iconst (v := (1 : Int32)) hx hb dX6_faultOfTransport_19 (by decide) ?_
    obtain ⟨K37, hK37, h⟩ := h
    have J37 : ∀ (v2 : Int32) (H : Heap) (locs : List Loc) (ls : Array Slot), K37 v2 → cpI dC dI a kA (cpA a sz) s M L H locs → lv_has ls 5 [(0, .ref (a 0)), (1, .ref (a 13)), (2, .int p2), (3, .int v1)] → W p l e rm_X6_faultOfTransport_0_13 s m (av_X6_faultOfTransport_0_13 a t p2).toArray below meth c H locs 0 0 (MQ below (qc_X6_faultOfTransport_0_13 dC dI a kA sz M L Z) (av_X6_faultOfTransport_0_13 a t p2).toArray s 0 0 (cpA a sz)) (F0 m 37 ls [.int v2]) := by
      intro v2 H locs ls h hI hl
      have h := hK37 v2 h
      refine lv_istore (lv' := [(4, .int v2), (0, .ref (a 0)), (1, .ref (a 13)), (2, .int p2), (3, .int v1)]) hx hb dX6_faultOfTransport_37 hl (by decide) rfl (fun ls hl => ?_)
      refine lv_aload_n hx hb dX6_faultOfTransport_39 rfl (lv_at hl 2 rfl) ?_
      refine va_get (D := (dC, dI)) (ci := 4) (v := .int (M 13 6)) (C := RX5) (T := TX5) (N := 16) hx hb hu uX5 hown hK hI.1 13 rfl rfl 6 (by decide) (hu _ uww_322) (fun _ h9 => h9) rfl dX6_faultOfTransport_40 ?_
      refine lv_if_ne (tgt := 64) hx hb dX6_faultOfTransport_43 (by decide) (fun c3 => ?_) (fun c3 => ?_)
      · have h := h.1 c3
        refine lv_iconst (v := (0 : Int32)) hx hb dX6_faultOfTransport_64 (by decide) ?_
        exact cpiret (Z := (fun r M' L' => M' = M ∧ L' = L ∧ Z r)) hx hb hr hlocks hK hI dX6_faultOfTransport_65 ⟨rfl, rfl, h⟩
      · have h := h.2 c3
        refine lv_iload_n hx hb dX6_faultOfTransport_46 rfl (lv_at hl 4 rfl) ?_
        obtain ⟨K66, hK66, h⟩ := h
        have J66 : ∀  (H : Heap) (locs : List Loc) (ls : Array Slot), K66  → cpI dC dI a kA (cpA a sz) s M L H locs → lv_has ls 5 [(0, .ref (a 0)), (1, .ref (a 13)), (2, .int p2), (3, .int v1)] → W p l e rm_X6_faultOfTransport_0_13 s m (av_X6_faultOfTransport_0_13 a t p2).toArray below meth c H locs 0 0 (MQ below (qc_X6_faultOfTransport_0_13 dC dI a kA sz M L Z) (av_X6_faultOfTransport_0_13 a t p2).toArray s 0 0 (cpA a sz)) (F0 m 66 ls []) := by
          intro  H locs ls h hI hl
          have h := hK66  h
          refine lv_aload_n hx hb dX6_faultOfTransport_66 rfl (lv_at hl 1 rfl) ?_
          refine va_get (D := (dC, dI)) (ci := 4) (v := .int (M 13 8)) (C := RX5) (T := TX5) (N := 16) hx hb hu uX5 hown hK hI.1 13 rfl rfl 8 (by decide) (hu _ uww_323) (fun _ h9 => h9) rfl dX6_faultOfTransport_67 ?_
          refine lv_aload_n hx hb dX6_faultOfTransport_70 rfl (lv_at hl 1 rfl) ?_
          refine va_get (D := (dC, dI)) (ci := 4) (v := .int (M 13 3)) (C := RX5) (T := TX5) (N := 16) hx hb hu uX5 hown hK hI.1 13 rfl rfl 3 (by decide) (hu _ uww_321) (fun _ h9 => h9) rfl dX6_faultOfTransport_71 ?_
          refine lv_bipush (v := (6 : Int32)) hx hb dX6_faultOfTransport_74 (by decide) ?_
          obtain ⟨K86, hK86, h⟩ := h
          have J86 : ∀ (v4 : Int32) (H : Heap) (locs : List Loc) (ls : Array Slot), K86 v4 → cpI dC dI a kA (cpA a sz) s M L H locs → lv_has ls 5 [(0, .ref (a 0)), (1, .ref (a 13)), (2, .int p2), (3, .int v1)] → W p l e rm_X6_faultOfTransport_0_13 s m (av_X6_faultOfTransport_0_13 a t p2).toArray below meth c H locs 0 0 (MQ below (qc_X6_faultOfTransport_0_13 dC dI a kA sz M L Z) (av_X6_faultOfTransport_0_13 a t p2).toArray s 0 0 (cpA a sz)) (F0 m 86 ls [.int v4, .int (M 13 8)]) := by
            intro v4 H locs ls h hI hl
            have h := hK86 v4 h
            refine lv_icmp_ge (tgt := 91) hx hb dX6_faultOfTransport_86 (by decide) (fun c5 => ?_) (fun c5 => ?_)
            · have h := h.1 c5
              refine lv_iload_n hx hb dX6_faultOfTransport_91 rfl (lv_at hl 3 rfl) ?_
              obtain ⟨K124, hK124, h⟩ := h
              have J124 : ∀  (H : Heap) (locs : List Loc) (ls : Array Slot), K124  → cpI dC dI a kA (cpA a sz) s M L H locs → lv_has ls 5 [(0, .ref (a 0)), (1, .ref (a 13)), (2, .int p2), (3, .int v1)] → W p l e rm_X6_faultOfTransport_0_13 s m (av_X6_faultOfTransport_0_13 a t p2).toArray below meth c H locs 0 0 (MQ below (qc_X6_faultOfTransport_0_13 dC dI a kA sz M L Z) (av_X6_faultOfTransport_0_13 a t p2).toArray s 0 0 (cpA a sz)) (F0 m 124 ls []) := by
                intro  H locs ls h hI hl
                have h := hK124  h
                refine lv_iload_n hx hb dX6_faultOfTransport_124 rfl (lv_at hl 3 rfl) ?_
                refine lv_if_eq (tgt := 154) hx hb dX6_faultOfTransport_125 (by decide) (fun c6 => ?_) (fun c6 => ?_)
                · have h := h.1 c6
                  refine lv_iconst (v := (0 : Int32)) hx hb dX6_faultOfTransport_154 (by decide) ?_
                  exact cpiret (Z := (fun r M' L' => M' = M ∧ L' = L ∧ Z r)) hx hb hr hlocks hK hI dX6_faultOfTransport_155 ⟨rfl, rfl, h⟩
                · have h := h.2 c6
                  refine lv_iload_n hx hb dX6_faultOfTransport_128 rfl (lv_at hl 2 rfl) ?_
                  refine lv_if_ne (tgt := 154) hx hb dX6_faultOfTransport_129 (by decide) (fun c7 => ?_) (fun c7 => ?_)
                  · have h := h.1 c7
                    refine lv_iconst (v := (0 : Int32)) hx hb dX6_faultOfTransport_154 (by decide) ?_
                    exact cpiret (Z := (fun r M' L' => M' = M ∧ L' = L ∧ Z r)) hx hb hr hlocks hK hI dX6_faultOfTransport_155 ⟨rfl, rfl, h⟩
                  · have h := h.2 c7
                    refine lv_aload_n hx hb dX6_faultOfTransport_132 rfl (lv_at hl 0 rfl) ?_
                    refine va_get (D := (dC, dI)) (ci := 5) (v := .ref (a 1)) (C := RX6) (T := TX6) (N := 17) hx hb hu uX6 hown hK hI.1 0 rfl rfl 0 (by decide) (hu _ uww_213) (fun _ h9 => h9) rfl dX6_faultOfTransport_133 ?_
                    refine lv_aload_n hx hb dX6_faultOfTransport_136 rfl (lv_at hl 1 rfl) ?_
                    refine va_get (D := (dC, dI)) (ci := 4) (v := .int (M 13 7)) (C := RX5) (T := TX5) (N := 16) hx hb hu uX5 hown hK hI.1 13 rfl rfl 7 (by decide) (hu _ uww_325) (fun _ h9 => h9) rfl dX6_faultOfTransport_137 ?_
                    refine lv_bipush (v := (6 : Int32)) hx hb dX6_faultOfTransport_140 (by decide) ?_
                    refine lv_iadd hx hb dX6_faultOfTransport_142 ?_
                    refine cpcalli_p hsz hI (va_runV (As := [.int ((M 13 7) + (6 : Int32))]) (rest := []) ⟨hx, hb, hml, hown, hu⟩ (met_X4_word_1 l dC dI a kA t _ M L ((M 13 7) + (6 : Int32)) _ h) (cwl_X6_272_X4 hu ⟨by decide, by decide⟩) (cppre (ci := 3) hK hE hsz hI rfl rfl) rfl rfl hl.1 rfl (lv_room (Nat.le_of_ble_eq_true rfl)) dX6_faultOfTransport_143 ⟨by decide, by decide⟩) (fun r8 H locs h hI => ?_)
                    refine lv_if_ne (tgt := 154) hx hb dX6_faultOfTransport_146 (by decide) (fun c9 => ?_) (fun c9 => ?_)
                    · have h := h.1 c9
                      refine lv_iconst (v := (0 : Int32)) hx hb dX6_faultOfTransport_154 (by decide) ?_
                      exact cpiret (Z := (fun r M' L' => M' = M ∧ L' = L ∧ Z r)) hx hb hr hlocks hK hI dX6_faultOfTransport_155 ⟨rfl, rfl, h⟩
                    · have h := h.2 c9
                      refine lv_bipush (v := (7 : Int32)) hx hb dX6_faultOfTransport_149 (by decide) ?_
                      refine lv_goto (tgt := 155) hx hb dX6_faultOfTransport_151 (by decide) ?_
                      exact cpiret (Z := (fun r M' L' => M' = M ∧ L' = L ∧ Z r)) hx hb hr hlocks hK hI dX6_faultOfTransport_155 ⟨rfl, rfl, h⟩
              refine lv_if_eq (tgt := 124) hx hb dX6_faultOfTransport_92 (by decide) (fun c10 => ?_) (fun c10 => ?_)
              · have h := h.1 c10
                exact J124  _ _ _ h hI (lv_sub hl [0, 1, 2, 3] rfl)
              · have h := h.2 c10
                refine lv_aload_n hx hb dX6_faultOfTransport_95 rfl (lv_at hl 1 rfl) ?_
                refine va_get (D := (dC, dI)) (ci := 4) (v := .int (M 13 5)) (C := RX5) (T := TX5) (N := 16) hx hb hu uX5 hown hK hI.1 13 rfl rfl 5 (by decide) (hu _ uww_324) (fun _ h9 => h9) rfl dX6_faultOfTransport_96 ?_
                refine lv_if_ne (tgt := 124) hx hb dX6_faultOfTransport_99 (by decide) (fun c11 => ?_) (fun c11 => ?_)
                · have h := h.1 c11
                  exact J124  _ _ _ h hI (lv_sub hl [0, 1, 2, 3] rfl)
                · have h := h.2 c11
                  refine lv_aload_n hx hb dX6_faultOfTransport_102 rfl (lv_at hl 0 rfl) ?_
                  refine va_get (D := (dC, dI)) (ci := 5) (v := .ref (a 1)) (C := RX6) (T := TX6) (N := 17) hx hb hu uX6 hown hK hI.1 0 rfl rfl 0 (by decide) (hu _ uww_213) (fun _ h9 => h9) rfl dX6_faultOfTransport_103 ?_
                  refine lv_aload_n hx hb dX6_faultOfTransport_106 rfl (lv_at hl 1 rfl) ?_
                  refine va_get (D := (dC, dI)) (ci := 4) (v := .int (M 13 7)) (C := RX5) (T := TX5) (N := 16) hx hb hu uX5 hown hK hI.1 13 rfl rfl 7 (by decide) (hu _ uww_325) (fun _ h9 => h9) rfl dX6_faultOfTransport_107 ?_
                  refine lv_iconst (v := (4 : Int32)) hx hb dX6_faultOfTransport_110 (by decide) ?_
                  refine lv_iadd hx hb dX6_faultOfTransport_111 ?_
                  refine cpcalli_p hsz hI (va_runV (As := [.int ((M 13 7) + (4 : Int32))]) (rest := []) ⟨hx, hb, hml, hown, hu⟩ (met_X4_word_1 l dC dI a kA t _ M L ((M 13 7) + (4 : Int32)) _ h) (cwl_X6_272_X4 hu ⟨by decide, by decide⟩) (cppre (ci := 3) hK hE hsz hI rfl rfl) rfl rfl hl.1 rfl (lv_room (Nat.le_of_ble_eq_true rfl)) dX6_faultOfTransport_112 ⟨by decide, by decide⟩) (fun r12 H locs h hI => ?_)
                  refine lv_aload_n hx hb dX6_faultOfTransport_115 rfl (lv_at hl 1 rfl) ?_
                  refine va_get (D := (dC, dI)) (ci := 4) (v := .int (M 13 8)) (C := RX5) (T := TX5) (N := 16) hx hb hu uX5 hown hK hI.1 13 rfl rfl 8 (by decide) (hu _ uww_323) (fun _ h9 => h9) rfl dX6_faultOfTransport_116 ?_
                  refine lv_icmp_eq (tgt := 124) hx hb dX6_faultOfTransport_119 (by decide) (fun c13 => ?_) (fun c13 => ?_)
                  · have h := h.1 c13
                    exact J124  _ _ _ h hI (lv_sub hl [0, 1, 2, 3] rfl)
                  · have h := h.2 c13
                    refine lv_iconst (v := (4 : Int32)) hx hb dX6_faultOfTransport_122 (by decide) ?_
                    exact cpiret (Z := (fun r M' L' => M' = M ∧ L' = L ∧ Z r)) hx hb hr hlocks hK hI dX6_faultOfTransport_123 ⟨rfl, rfl, h⟩
            · have h := h.2 c5
              refine lv_iconst (v := (4 : Int32)) hx hb dX6_faultOfTransport_89 (by decide) ?_
              exact cpiret (Z := (fun r M' L' => M' = M ∧ L' = L ∧ Z r)) hx hb hr hlocks hK hI dX6_faultOfTransport_90 ⟨rfl, rfl, h⟩
          refine lv_icmp_ne (tgt := 84) hx hb dX6_faultOfTransport_76 (by decide) (fun c14 => ?_) (fun c14 => ?_)
          · have h := h.1 c14
            refine lv_bipush (v := (8 : Int32)) hx hb dX6_faultOfTransport_84 (by decide) ?_
            exact J86 (8 : Int32) _ _ _ h hI (lv_sub hl [0, 1, 2, 3] rfl)
          · have h := h.2 c14
            refine lv_bipush (v := (20 : Int32)) hx hb dX6_faultOfTransport_79 (by decide) ?_
            refine lv_goto (tgt := 86) hx hb dX6_faultOfTransport_81 (by decide) ?_
            exact J86 (20 : Int32) _ _ _ h hI (lv_sub hl [0, 1, 2, 3] rfl)
        refine lv_if_ne (tgt := 66) hx hb dX6_faultOfTransport_47 (by decide) (fun c15 => ?_) (fun c15 => ?_)
        · have h := h.1 c15
          exact J66  _ _ _ h hI (lv_sub hl [1, 2, 3, 4] rfl)
        · have h := h.2 c15
          refine lv_iload hx hb dX6_faultOfTransport_50 (lv_at hl 0 rfl) ?_
          refine lv_if_ne (tgt := 66) hx hb dX6_faultOfTransport_52 (by decide) (fun c16 => ?_) (fun c16 => ?_)
          · have h := h.1 c16
            exact J66  _ _ _ h hI (lv_sub hl [1, 2, 3, 4] rfl)
          · have h := h.2 c16
            refine lv_aload_n hx hb dX6_faultOfTransport_55 rfl (lv_at hl 2 rfl) ?_
            refine va_get (D := (dC, dI)) (ci := 4) (v := .int (M 13 3)) (C := RX5) (T := TX5) (N := 16) hx hb hu uX5 hown hK hI.1 13 rfl rfl 3 (by decide) (hu _ uww_321) (fun _ h9 => h9) rfl dX6_faultOfTransport_56 ?_
            refine lv_bipush (v := (6 : Int32)) hx hb dX6_faultOfTransport_59 (by decide) ?_
            refine lv_icmp_eq (tgt := 66) hx hb dX6_faultOfTransport_61 (by decide) (fun c17 => ?_) (fun c17 => ?_)
            · have h := h.1 c17
              exact J66  _ _ _ h hI (lv_sub hl [1, 2, 3, 4] rfl)
            · have h := h.2 c17
              refine lv_iconst (v := (0 : Int32)) hx hb dX6_faultOfTransport_64 (by decide) ?_
              exact cpiret (Z := (fun r M' L' => M' = M ∧ L' = L ∧ Z r)) hx hb hr hlocks hK hI dX6_faultOfTransport_65 ⟨rfl, rfl, h⟩
    obtain ⟨K32, hK32, h⟩ := h
    have J32 : ∀  (H : Heap) (locs : List Loc) (ls : Array Slot), K32  → cpI dC dI a kA (cpA a sz) s M L H locs → lv_has ls 5 [(0, .ref (a 0)), (1, .ref (a 13)), (2, .int p2), (3, .int v1)] → W p l e rm_X6_faultOfTransport_0_13 s m (av_X6_faultOfTransport_0_13 a t p2).toArray below meth c H locs 0 0 (MQ below (qc_X6_faultOfTransport_0_13 dC dI a kA sz M L Z) (av_X6_faultOfTransport_0_13 a t p2).toArray s 0 0 (cpA a sz)) (F0 m 32 ls []) := by
      intro  H locs ls h hI hl
      have h := hK32  h
      refine lv_iconst (v := (1 : Int32)) hx hb dX6_faultOfTransport_32 (by decide) ?_
      refine lv_goto (tgt := 37) hx hb dX6_faultOfTransport_33 (by decide) ?_
      exact J37 (1 : Int32) _ _ _ h hI (lv_sub hl [0, 1, 2, 3] rfl)
    refine lv_icmp_eq (tgt := 32) hx hb dX6_faultOfTransport_20 (by decide) (fun c18 => ?_) (fun c18 => ?_)
    · have h := h.1 c18
      exact J32  _ _ _ h hI (lv_sub hl [1, 2, 3, 0] rfl)
    · have h := h.2 c18
      refine lv_aload_n hx hb dX6_faultOfTransport_23 rfl (lv_at hl 2 rfl) ?_
      refine va_get (D := (dC, dI)) (ci := 4) (v := .int (M 13 3)) (C := RX5) (T := TX5) (N := 16) hx hb hu uX5 hown hK hI.1 13 rfl rfl 3 (by decide) (hu _ uww_321) (fun _ h9 => h9) rfl dX6_faultOfTransport_24 ?_
      refine lv_bipush (v := (58 : Int32)) hx hb dX6_faultOfTransport_27 (by decide) ?_
      refine lv_icmp_ne (tgt := 36) hx hb dX6_faultOfTransport_29 (by decide) (fun c19 => ?_) (fun c19 => ?_)
      · have h := h.1 c19
        refine lv_iconst (v := (0 : Int32)) hx hb dX6_faultOfTransport_36 (by decide) ?_
        exact J37 (0 : Int32) _ _ _ h hI (lv_sub hl [1, 2, 3, 0] rfl)
      · have h := h.2 c19
        exact J32  _ _ _ h hI (lv_sub hl [1, 2, 3, 0] rfl)
  refine lv_icmp_ne (tgt := 13) hx hb dX6_faultOfTransport_6 (by decide) (fun c20 => ?_) (fun c20 => ?_)
  · have h := h.1 c20
    refine lv_iconst (v := (0 : Int32)) hx hb dX6_faultOfTransport_13 (by decide) ?_
    exact J14 (0 : Int32) _ _ _ h hI (lv_sub hl [0, 1, 2] rfl)
  · have h := h.2 c20
    refine lv_iconst (v := (1 : Int32)) hx hb dX6_faultOfTransport_9 (by decide) ?_
    refine lv_goto (tgt := 14) hx hb dX6_faultOfTransport_10 (by decide) ?_
    exact J14 (1 : Int32) _ _ _ h hI (lv_sub hl [0, 1, 2] rfl)

abbrev rm_X6_isEchoSix : Room := { frames := 0, cells := 0, slots := 0, locals := 0 }
abbrev av_X6_isEchoSix (a t : Nat → Nat) (p0 : Int32) : List Value := [.int p0]
abbrev qc_X6_isEchoSix (dC : Nat → ClassId) (dI : Nat → Nat → Nat) (a : Nat → Nat) (kA : Nat → ClassId) (sz : Nat) (M : cM) (L : cL) (Z : Int32 → Prop) : Array Value → State → Outcome → State → Prop := va_Qi (fun r (u : cM × cL) => u.1 = M ∧ u.2 = L ∧ Z r) (cpAt dC dI a kA (cpA a sz)) (cpA a sz)
set_option maxHeartbeats 4000000 in
set_option maxRecDepth 100000 in
theorem met_X6_isEchoSix (l : Launch) (dC : Nat → ClassId) (dI : Nat → Nat → Nat) (a : Nat → Nat) (kA : Nat → ClassId) (t : Nat → Nat) (sz : Nat) (M : cM) (L : cL) (p0 : Int32) (Z : Int32 → Prop) (h : wp_X6_isEchoSix M L p0 Z) : Met l yX6_isEchoSix (Cond.code yX6_isEchoSix cX6_isEchoSix 1 (some .boolean) :: uW) rm_X6_isEchoSix (va_Pc (av_X6_isEchoSix a t p0) (cpPre dC dI a kA t M L sz)) (qc_X6_isEchoSix dC dI a kA sz M L Z) 0 0 (cpA a sz) := by
  refine cpenter (cc := cX6_isEchoSix) (n := 1) (ret := (some .boolean)) (by decide) rfl (Nat.le_of_ble_eq_true rfl) ?_
  intro p e s m below meth c ls hx hb hml hr hlocks hown hts hK hE hsz hI hl hmn
  have hu : ∀ w ∈ uW, w.before (av_X6_isEchoSix a t p0).toArray s = true := fun w h => hts w (List.mem_cons_of_mem _ h)
  have hown : s.vm.findClass RX6 = some m.cls := hown
  have hl : lv_has ls 1 [(0, .int p0)] := hl
  unfold wp_X6_isEchoSix at h
  refine lv_iload_n hx hb dX6_isEchoSix_0 rfl (lv_at hl 0 rfl) ?_
  refine lv_sipush (v := (128 : Int32)) hx hb dX6_isEchoSix_1 (by decide) ?_
  refine lv_icmp_eq (tgt := 14) hx hb dX6_isEchoSix_4 (by decide) (fun c1 => ?_) (fun c1 => ?_)
  · have h := h.1 c1
    refine lv_iconst (v := (1 : Int32)) hx hb dX6_isEchoSix_14 (by decide) ?_
    refine lv_goto (tgt := 19) hx hb dX6_isEchoSix_15 (by decide) ?_
    exact cpzret (Z := (fun r M' L' => M' = M ∧ L' = L ∧ Z r)) hx hb hr hlocks hK hI dX6_isEchoSix_19 ⟨isB_1, ⟨rfl, rfl, h⟩⟩
  · have h := h.2 c1
    refine lv_iload_n hx hb dX6_isEchoSix_7 rfl (lv_at hl 0 rfl) ?_
    refine lv_sipush (v := (129 : Int32)) hx hb dX6_isEchoSix_8 (by decide) ?_
    refine lv_icmp_ne (tgt := 18) hx hb dX6_isEchoSix_11 (by decide) (fun c2 => ?_) (fun c2 => ?_)
    · have h := h.1 c2
      refine lv_iconst (v := (0 : Int32)) hx hb dX6_isEchoSix_18 (by decide) ?_
      exact cpzret (Z := (fun r M' L' => M' = M ∧ L' = L ∧ Z r)) hx hb hr hlocks hK hI dX6_isEchoSix_19 ⟨isB_0, ⟨rfl, rfl, h⟩⟩
    · have h := h.2 c2
      refine lv_iconst (v := (1 : Int32)) hx hb dX6_isEchoSix_14 (by decide) ?_
      refine lv_goto (tgt := 19) hx hb dX6_isEchoSix_15 (by decide) ?_
      exact cpzret (Z := (fun r M' L' => M' = M ∧ L' = L ∧ Z r)) hx hb hr hlocks hK hI dX6_isEchoSix_19 ⟨isB_1, ⟨rfl, rfl, h⟩⟩

abbrev rm_X6_isErrorSix : Room := { frames := 0, cells := 0, slots := 0, locals := 0 }
abbrev av_X6_isErrorSix (a t : Nat → Nat) (p0 : Int32) : List Value := [.int p0]
abbrev qc_X6_isErrorSix (dC : Nat → ClassId) (dI : Nat → Nat → Nat) (a : Nat → Nat) (kA : Nat → ClassId) (sz : Nat) (M : cM) (L : cL) (Z : Int32 → Prop) : Array Value → State → Outcome → State → Prop := va_Qi (fun r (u : cM × cL) => u.1 = M ∧ u.2 = L ∧ Z r) (cpAt dC dI a kA (cpA a sz)) (cpA a sz)
set_option maxHeartbeats 4000000 in
set_option maxRecDepth 100000 in
theorem met_X6_isErrorSix (l : Launch) (dC : Nat → ClassId) (dI : Nat → Nat → Nat) (a : Nat → Nat) (kA : Nat → ClassId) (t : Nat → Nat) (sz : Nat) (M : cM) (L : cL) (p0 : Int32) (Z : Int32 → Prop) (h : wp_X6_isErrorSix M L p0 Z) : Met l yX6_isErrorSix (Cond.code yX6_isErrorSix cX6_isErrorSix 1 (some .boolean) :: uW) rm_X6_isErrorSix (va_Pc (av_X6_isErrorSix a t p0) (cpPre dC dI a kA t M L sz)) (qc_X6_isErrorSix dC dI a kA sz M L Z) 0 0 (cpA a sz) := by
  refine cpenter (cc := cX6_isErrorSix) (n := 1) (ret := (some .boolean)) (by decide) rfl (Nat.le_of_ble_eq_true rfl) ?_
  intro p e s m below meth c ls hx hb hml hr hlocks hown hts hK hE hsz hI hl hmn
  have hu : ∀ w ∈ uW, w.before (av_X6_isErrorSix a t p0).toArray s = true := fun w h => hts w (List.mem_cons_of_mem _ h)
  have hown : s.vm.findClass RX6 = some m.cls := hown
  have hl : lv_has ls 1 [(0, .int p0)] := hl
  unfold wp_X6_isErrorSix at h
  refine lv_iload_n hx hb dX6_isErrorSix_0 rfl (lv_at hl 0 rfl) ?_
  refine lv_iconst (v := (1 : Int32)) hx hb dX6_isErrorSix_1 (by decide) ?_
  refine lv_icmp_lt (tgt := 14) hx hb dX6_isErrorSix_2 (by decide) (fun c1 => ?_) (fun c1 => ?_)
  · have h := h.1 c1
    refine lv_iconst (v := (0 : Int32)) hx hb dX6_isErrorSix_14 (by decide) ?_
    exact cpzret (Z := (fun r M' L' => M' = M ∧ L' = L ∧ Z r)) hx hb hr hlocks hK hI dX6_isErrorSix_15 ⟨isB_0, ⟨rfl, rfl, h⟩⟩
  · have h := h.2 c1
    refine lv_iload_n hx hb dX6_isErrorSix_5 rfl (lv_at hl 0 rfl) ?_
    refine lv_iconst (v := (4 : Int32)) hx hb dX6_isErrorSix_6 (by decide) ?_
    refine lv_icmp_gt (tgt := 14) hx hb dX6_isErrorSix_7 (by decide) (fun c2 => ?_) (fun c2 => ?_)
    · have h := h.1 c2
      refine lv_iconst (v := (0 : Int32)) hx hb dX6_isErrorSix_14 (by decide) ?_
      exact cpzret (Z := (fun r M' L' => M' = M ∧ L' = L ∧ Z r)) hx hb hr hlocks hK hI dX6_isErrorSix_15 ⟨isB_0, ⟨rfl, rfl, h⟩⟩
    · have h := h.2 c2
      refine lv_iconst (v := (1 : Int32)) hx hb dX6_isErrorSix_10 (by decide) ?_
      refine lv_goto (tgt := 15) hx hb dX6_isErrorSix_11 (by decide) ?_
      exact cpzret (Z := (fun r M' L' => M' = M ∧ L' = L ∧ Z r)) hx hb hr hlocks hK hI dX6_isErrorSix_15 ⟨isB_1, ⟨rfl, rfl, h⟩⟩

abbrev rm_X6_faultOfSix_0_13 : Room := { frames := 2, cells := 0, slots := 0, locals := 45 }
abbrev av_X6_faultOfSix_0_13 (a t : Nat → Nat)  : List Value := [.ref (a 0), .ref (a 13)]
abbrev qc_X6_faultOfSix_0_13 (dC : Nat → ClassId) (dI : Nat → Nat → Nat) (a : Nat → Nat) (kA : Nat → ClassId) (sz : Nat) (M : cM) (L : cL) (Z : Int32 → Prop) : Array Value → State → Outcome → State → Prop := va_Qi (fun r (u : cM × cL) => u.1 = M ∧ u.2 = L ∧ Z r) (cpAt dC dI a kA (cpA a sz)) (cpA a sz)
set_option maxHeartbeats 4000000 in
set_option maxRecDepth 100000 in
theorem met_X6_faultOfSix_0_13 (l : Launch) (dC : Nat → ClassId) (dI : Nat → Nat → Nat) (a : Nat → Nat) (kA : Nat → ClassId) (t : Nat → Nat) (sz : Nat) (M : cM) (L : cL)  (Z : Int32 → Prop) (h : wp_X6_faultOfSix_0_13 M L  Z) : Met l yX6_faultOfSix (Cond.code yX6_faultOfSix cX6_faultOfSix 4 (some .int) :: uW) rm_X6_faultOfSix_0_13 (va_Pc (av_X6_faultOfSix_0_13 a t ) (cpPre dC dI a kA t M L sz)) (qc_X6_faultOfSix_0_13 dC dI a kA sz M L Z) 0 0 (cpA a sz) := by
  refine cpenter (cc := cX6_faultOfSix) (n := 4) (ret := (some .int)) (by decide) rfl (Nat.le_of_ble_eq_true rfl) ?_
  intro p e s m below meth c ls hx hb hml hr hlocks hown hts hK hE hsz hI hl hmn
  have hu : ∀ w ∈ uW, w.before (av_X6_faultOfSix_0_13 a t ).toArray s = true := fun w h => hts w (List.mem_cons_of_mem _ h)
  have hown : s.vm.findClass RX6 = some m.cls := hown
  have hl : lv_has ls 4 [(0, .ref (a 0)), (1, .ref (a 13))] := hl
  unfold wp_X6_faultOfSix_0_13 at h
  refine lv_aload_n hx hb dX6_faultOfSix_0 rfl (lv_at hl 1 rfl) ?_
  refine va_get (D := (dC, dI)) (ci := 4) (v := .int (M 13 3)) (C := RX5) (T := TX5) (N := 16) hx hb hu uX5 hown hK hI.1 13 rfl rfl 3 (by decide) (hu _ uww_425) (u_same (hu _ uww_183)) rfl dX6_faultOfSix_1 ?_
  refine cpcalli_p hsz hI (va_runS (As := [.int (M 13 3)]) (rest := []) ⟨hx, hb, hml, hown, hu⟩ (met_X6_neverFromSix l dC dI a kA t _ M L (M 13 3) _ h) (cwl_X6_426_S hu ⟨by decide, by decide⟩) (cppreS hK hE hsz hI) rfl rfl hl.1 rfl (lv_room (Nat.le_of_ble_eq_true rfl)) dX6_faultOfSix_4 ⟨by decide, by decide⟩) (fun r1 H locs h hI => ?_)
  refine lv_if_eq (tgt := 13) hx hb dX6_faultOfSix_7 (by decide) (fun c2 => ?_) (fun c2 => ?_)
  · have h := h.1 c2
    refine lv_aload_n hx hb dX6_faultOfSix_13 rfl (lv_at hl 1 rfl) ?_
    refine va_get (D := (dC, dI)) (ci := 4) (v := .int (M 13 3)) (C := RX5) (T := TX5) (N := 16) hx hb hu uX5 hown hK hI.1 13 rfl rfl 3 (by decide) (hu _ uww_425) (u_same (hu _ uww_183)) rfl dX6_faultOfSix_14 ?_
    refine lv_bipush (v := (58 : Int32)) hx hb dX6_faultOfSix_17 (by decide) ?_
    obtain ⟨K31, hK31, h⟩ := h
    have J31 : ∀  (H : Heap) (locs : List Loc) (ls : Array Slot), K31  → cpI dC dI a kA (cpA a sz) s M L H locs → lv_has ls 4 [(0, .ref (a 0)), (1, .ref (a 13))] → W p l e rm_X6_faultOfSix_0_13 s m (av_X6_faultOfSix_0_13 a t ).toArray below meth c H locs 0 0 (MQ below (qc_X6_faultOfSix_0_13 dC dI a kA sz M L Z) (av_X6_faultOfSix_0_13 a t ).toArray s 0 0 (cpA a sz)) (F0 m 31 ls []) := by
      intro  H locs ls h hI hl
      have h := hK31  h
      refine lv_aload_n hx hb dX6_faultOfSix_31 rfl (lv_at hl 0 rfl) ?_
      refine lv_aload_n hx hb dX6_faultOfSix_32 rfl (lv_at hl 1 rfl) ?_
      refine lv_iconst (v := (0 : Int32)) hx hb dX6_faultOfSix_33 (by decide) ?_
      refine cpcalli_p hsz hI (va_runV (As := [.ref (a 13), .int (0 : Int32)]) (rest := []) ⟨hx, hb, hml, hown, hu⟩ (met_X6_faultOfTransport_0_13 l dC dI a kA t _ M L (0 : Int32) _ h) (cwl_X6_253_X6 hu ⟨by decide, by decide⟩) (cppre (ci := 5) hK hE hsz hI rfl rfl) rfl rfl hl.1 rfl (lv_room (Nat.le_of_ble_eq_true rfl)) dX6_faultOfSix_34 ⟨by decide, by decide⟩) (fun r3 H locs h hI => ?_)
      refine lv_istore_n (lv' := [(2, .int r3), (0, .ref (a 0)), (1, .ref (a 13))]) hx hb dX6_faultOfSix_37 rfl hl (by decide) rfl (fun ls hl => ?_)
      refine lv_iload_n hx hb dX6_faultOfSix_38 rfl (lv_at hl 0 rfl) ?_
      refine lv_if_ne (tgt := 51) hx hb dX6_faultOfSix_39 (by decide) (fun c4 => ?_) (fun c4 => ?_)
      · have h := h.1 c4
        refine lv_iload_n hx hb dX6_faultOfSix_51 rfl (lv_at hl 0 rfl) ?_
        exact cpiret (Z := (fun r M' L' => M' = M ∧ L' = L ∧ Z r)) hx hb hr hlocks hK hI dX6_faultOfSix_52 ⟨rfl, rfl, h⟩
      · have h := h.2 c4
        refine lv_aload_n hx hb dX6_faultOfSix_42 rfl (lv_at hl 2 rfl) ?_
        refine va_get (D := (dC, dI)) (ci := 4) (v := .int (M 13 3)) (C := RX5) (T := TX5) (N := 16) hx hb hu uX5 hown hK hI.1 13 rfl rfl 3 (by decide) (hu _ uww_425) (u_same (hu _ uww_183)) rfl dX6_faultOfSix_43 ?_
        refine lv_bipush (v := (58 : Int32)) hx hb dX6_faultOfSix_46 (by decide) ?_
        refine lv_icmp_eq (tgt := 53) hx hb dX6_faultOfSix_48 (by decide) (fun c5 => ?_) (fun c5 => ?_)
        · have h := h.1 c5
          refine lv_aload_n hx hb dX6_faultOfSix_53 rfl (lv_at hl 1 rfl) ?_
          refine va_get (D := (dC, dI)) (ci := 5) (v := .ref (a 1)) (C := RX6) (T := TX6) (N := 17) hx hb hu uX6 hown hK hI.1 0 rfl rfl 0 (by decide) (hu _ uww_213) (fun _ h9 => h9) rfl dX6_faultOfSix_54 ?_
          refine lv_aload_n hx hb dX6_faultOfSix_57 rfl (lv_at hl 2 rfl) ?_
          refine va_get (D := (dC, dI)) (ci := 4) (v := .int (M 13 7)) (C := RX5) (T := TX5) (N := 16) hx hb hu uX5 hown hK hI.1 13 rfl rfl 7 (by decide) (hu _ uww_426) (u_same (hu _ uww_169)) rfl dX6_faultOfSix_58 ?_
          refine cpcalli_p hsz hI (va_runV (As := [.int (M 13 7)]) (rest := []) ⟨hx, hb, hml, hown, hu⟩ (met_X4_at_1 l dC dI a kA t _ M L (M 13 7) _ h) (cwl_X6_158_X4 hu ⟨by decide, by decide⟩) (cppre (ci := 3) hK hE hsz hI rfl rfl) rfl rfl hl.1 rfl (lv_room (Nat.le_of_ble_eq_true rfl)) dX6_faultOfSix_61 ⟨by decide, by decide⟩) (fun r6 H locs h hI => ?_)
          refine lv_istore_n (lv' := [(3, .int r6), (2, .int r3), (0, .ref (a 0)), (1, .ref (a 13))]) hx hb dX6_faultOfSix_64 rfl hl (by decide) rfl (fun ls hl => ?_)
          refine lv_iload_n hx hb dX6_faultOfSix_65 rfl (lv_at hl 0 rfl) ?_
          refine cpcalli_p hsz hI (va_runS (As := [.int r6]) (rest := []) ⟨hx, hb, hml, hown, hu⟩ (met_X6_isEchoSix l dC dI a kA t _ M L r6 _ h) (cwl_X6_430_S hu ⟨by decide, by decide⟩) (cppreS hK hE hsz hI) rfl rfl hl.1 rfl (lv_room (Nat.le_of_ble_eq_true rfl)) dX6_faultOfSix_66 ⟨by decide, by decide⟩) (fun r7 H locs h hI => ?_)
          refine lv_if_ne (tgt := 79) hx hb dX6_faultOfSix_69 (by decide) (fun c8 => ?_) (fun c8 => ?_)
          · have h := h.1 c8
            refine lv_iconst (v := (0 : Int32)) hx hb dX6_faultOfSix_79 (by decide) ?_
            refine lv_goto (tgt := 85) hx hb dX6_faultOfSix_80 (by decide) ?_
            exact cpiret (Z := (fun r M' L' => M' = M ∧ L' = L ∧ Z r)) hx hb hr hlocks hK hI dX6_faultOfSix_85 ⟨rfl, rfl, h⟩
          · have h := h.2 c8
            refine lv_iload_n hx hb dX6_faultOfSix_72 rfl (lv_at hl 0 rfl) ?_
            refine cpcalli_p hsz hI (va_runS (As := [.int r6]) (rest := []) ⟨hx, hb, hml, hown, hu⟩ (met_X6_isErrorSix l dC dI a kA t _ M L r6 _ h) (cwl_X6_409_S hu ⟨by decide, by decide⟩) (cppreS hK hE hsz hI) rfl rfl hl.1 rfl (lv_room (Nat.le_of_ble_eq_true rfl)) dX6_faultOfSix_73 ⟨by decide, by decide⟩) (fun r9 H locs h hI => ?_)
            refine lv_if_eq (tgt := 83) hx hb dX6_faultOfSix_76 (by decide) (fun c10 => ?_) (fun c10 => ?_)
            · have h := h.1 c10
              refine lv_bipush (v := (6 : Int32)) hx hb dX6_faultOfSix_83 (by decide) ?_
              exact cpiret (Z := (fun r M' L' => M' = M ∧ L' = L ∧ Z r)) hx hb hr hlocks hK hI dX6_faultOfSix_85 ⟨rfl, rfl, h⟩
            · have h := h.2 c10
              refine lv_iconst (v := (0 : Int32)) hx hb dX6_faultOfSix_79 (by decide) ?_
              refine lv_goto (tgt := 85) hx hb dX6_faultOfSix_80 (by decide) ?_
              exact cpiret (Z := (fun r M' L' => M' = M ∧ L' = L ∧ Z r)) hx hb hr hlocks hK hI dX6_faultOfSix_85 ⟨rfl, rfl, h⟩
        · have h := h.2 c5
          refine lv_iload_n hx hb dX6_faultOfSix_51 rfl (lv_at hl 0 rfl) ?_
          exact cpiret (Z := (fun r M' L' => M' = M ∧ L' = L ∧ Z r)) hx hb hr hlocks hK hI dX6_faultOfSix_52 ⟨rfl, rfl, h⟩
    refine lv_icmp_ne (tgt := 31) hx hb dX6_faultOfSix_19 (by decide) (fun c11 => ?_) (fun c11 => ?_)
    · have h := h.1 c11
      exact J31  _ _ _ h hI (lv_sub hl [0, 1] rfl)
    · have h := h.2 c11
      refine lv_aload_n hx hb dX6_faultOfSix_22 rfl (lv_at hl 1 rfl) ?_
      refine cpcalli_p hsz hI (va_runU (As := []) (rest := []) ⟨hx, hb, hml, hown, hu⟩ (met_X2_fragment_13 l dC dI a kA t _ M L  _ h) (cwl_X6_429_X5 hu ⟨by decide, by decide⟩) (cppre (ci := 4) hK hE hsz hI rfl rfl) rfl rfl hl.1 rfl (lv_room (Nat.le_of_ble_eq_true rfl)) dX6_faultOfSix_23 ⟨by decide, by decide⟩) (fun r12 H locs h hI => ?_)
      refine lv_if_eq (tgt := 31) hx hb dX6_faultOfSix_26 (by decide) (fun c13 => ?_) (fun c13 => ?_)
      · have h := h.1 c13
        exact J31  _ _ _ h hI (lv_sub hl [0, 1] rfl)
      · have h := h.2 c13
        refine lv_iconst (v := (5 : Int32)) hx hb dX6_faultOfSix_29 (by decide) ?_
        exact cpiret (Z := (fun r M' L' => M' = M ∧ L' = L ∧ Z r)) hx hb hr hlocks hK hI dX6_faultOfSix_30 ⟨rfl, rfl, h⟩
  · have h := h.2 c2
    refine lv_bipush (v := (6 : Int32)) hx hb dX6_faultOfSix_10 (by decide) ?_
    exact cpiret (Z := (fun r M' L' => M' = M ∧ L' = L ∧ Z r)) hx hb hr hlocks hK hI dX6_faultOfSix_12 ⟨rfl, rfl, h⟩

abbrev rm_X5_flags_13 : Room := { frames := 0, cells := 0, slots := 0, locals := 0 }
abbrev av_X5_flags_13 (a t : Nat → Nat) (p1 : Int32) : List Value := [.ref (a 13), .int p1]
abbrev qc_X5_flags_13 (dC : Nat → ClassId) (dI : Nat → Nat → Nat) (a : Nat → Nat) (kA : Nat → ClassId) (sz : Nat) (M : cM) (L : cL) (Z : Int32 → Prop) : Array Value → State → Outcome → State → Prop := va_Qi (fun r (u : cM × cL) => u.1 = M ∧ u.2 = L ∧ Z r) (cpAt dC dI a kA (cpA a sz)) (cpA a sz)
set_option maxHeartbeats 4000000 in
set_option maxRecDepth 100000 in
theorem met_X5_flags_13 (l : Launch) (dC : Nat → ClassId) (dI : Nat → Nat → Nat) (a : Nat → Nat) (kA : Nat → ClassId) (t : Nat → Nat) (sz : Nat) (M : cM) (L : cL) (p1 : Int32) (Z : Int32 → Prop) (h : wp_X5_flags_13 M L p1 Z) : Met l yX5_flags (Cond.code yX5_flags cX5_flags 2 (some .int) :: uW) rm_X5_flags_13 (va_Pc (av_X5_flags_13 a t p1) (cpPre dC dI a kA t M L sz)) (qc_X5_flags_13 dC dI a kA sz M L Z) 0 0 (cpA a sz) := by
  refine cpenter (cc := cX5_flags) (n := 2) (ret := (some .int)) (by decide) rfl (Nat.le_of_ble_eq_true rfl) ?_
  intro p e s m below meth c ls hx hb hml hr hlocks hown hts hK hE hsz hI hl hmn
  have hu : ∀ w ∈ uW, w.before (av_X5_flags_13 a t p1).toArray s = true := fun w h => hts w (List.mem_cons_of_mem _ h)
  have hown : s.vm.findClass RX5 = some m.cls := hown
  have hl : lv_has ls 2 [(0, .ref (a 13)), (1, .int p1)] := hl
  unfold wp_X5_flags_13 at h
  refine lv_aload_n hx hb dX5_flags_0 rfl (lv_at hl 0 rfl) ?_
  refine va_get (D := (dC, dI)) (ci := 4) (v := .int (M 13 14)) (C := RX5) (T := TX5) (N := 16) hx hb hu uX5 hown hK hI.1 13 rfl rfl 14 (by decide) (hu _ uww_180) (fun _ h9 => h9) rfl dX5_flags_1 ?_
  refine lv_if_ne (tgt := 22) hx hb dX5_flags_4 (by decide) (fun c1 => ?_) (fun c1 => ?_)
  · have h := h.1 c1
    refine lv_aload_n hx hb dX5_flags_22 rfl (lv_at hl 0 rfl) ?_
    refine va_get (D := (dC, dI)) (ci := 4) (v := .int (M 13 6)) (C := RX5) (T := TX5) (N := 16) hx hb hu uX5 hown hK hI.1 13 rfl rfl 6 (by decide) (hu _ uww_178) (u_same (hu _ uww_179)) rfl dX5_flags_23 ?_
    refine lv_aload_n hx hb dX5_flags_26 rfl (lv_at hl 0 rfl) ?_
    refine va_get (D := (dC, dI)) (ci := 4) (v := .int (M 13 5)) (C := RX5) (T := TX5) (N := 16) hx hb hu uX5 hown hK hI.1 13 rfl rfl 5 (by decide) (hu _ uww_149) (u_same (hu _ uww_150)) rfl dX5_flags_27 ?_
    refine lv_if_eq (tgt := 39) hx hb dX5_flags_30 (by decide) (fun c2 => ?_) (fun c2 => ?_)
    · have h := h.1 c2
      refine lv_iconst (v := (0 : Int32)) hx hb dX5_flags_39 (by decide) ?_
      refine lv_ior hx hb dX5_flags_40 ?_
      exact cpiret (Z := (fun r M' L' => M' = M ∧ L' = L ∧ Z r)) hx hb hr hlocks hK hI dX5_flags_41 ⟨rfl, rfl, h⟩
    · have h := h.2 c2
      refine lv_sipush (v := (8192 : Int32)) hx hb dX5_flags_33 (by decide) ?_
      refine lv_goto (tgt := 40) hx hb dX5_flags_36 (by decide) ?_
      refine lv_ior hx hb dX5_flags_40 ?_
      exact cpiret (Z := (fun r M' L' => M' = M ∧ L' = L ∧ Z r)) hx hb hr hlocks hK hI dX5_flags_41 ⟨rfl, rfl, h⟩
  · have h := h.2 c1
    refine lv_iload_n hx hb dX5_flags_7 rfl (lv_at hl 1 rfl) ?_
    refine lv_sipush (v := (1260 : Int32)) hx hb dX5_flags_8 (by decide) ?_
    refine lv_icmp_le (tgt := 20) hx hb dX5_flags_11 (by decide) (fun c3 => ?_) (fun c3 => ?_)
    · have h := h.1 c3
      refine lv_iconst (v := (0 : Int32)) hx hb dX5_flags_20 (by decide) ?_
      exact cpiret (Z := (fun r M' L' => M' = M ∧ L' = L ∧ Z r)) hx hb hr hlocks hK hI dX5_flags_21 ⟨rfl, rfl, h⟩
    · have h := h.2 c3
      refine lv_sipush (v := (16384 : Int32)) hx hb dX5_flags_14 (by decide) ?_
      refine lv_goto (tgt := 21) hx hb dX5_flags_17 (by decide) ?_
      exact cpiret (Z := (fun r M' L' => M' = M ∧ L' = L ∧ Z r)) hx hb hr hlocks hK hI dX5_flags_21 ⟨rfl, rfl, h⟩

abbrev rm_X6_identFor_0_13 : Room := { frames := 0, cells := 0, slots := 0, locals := 0 }
abbrev av_X6_identFor_0_13 (a t : Nat → Nat) (p2 : Int32) : List Value := [.ref (a 0), .ref (a 13), .int p2]
abbrev qc_X6_identFor_0_13 (dC : Nat → ClassId) (dI : Nat → Nat → Nat) (a : Nat → Nat) (kA : Nat → ClassId) (sz : Nat) (M : cM) (L : cL) (Z : Int32 → cM → Prop) : Array Value → State → Outcome → State → Prop := va_Qi (fun r (u : cM × cL) => u.2 = L ∧ Z r u.1) (cpAt dC dI a kA (cpA a sz)) (cpA a sz)
set_option maxHeartbeats 4000000 in
set_option maxRecDepth 100000 in
theorem met_X6_identFor_0_13 (l : Launch) (dC : Nat → ClassId) (dI : Nat → Nat → Nat) (a : Nat → Nat) (kA : Nat → ClassId) (t : Nat → Nat) (sz : Nat) (M : cM) (L : cL) (p2 : Int32) (Z : Int32 → cM → Prop) (h : wp_X6_identFor_0_13 M L p2 Z) : Met l yX6_identFor (Cond.code yX6_identFor cX6_identFor 3 (some .int) :: uW) rm_X6_identFor_0_13 (va_Pc (av_X6_identFor_0_13 a t p2) (cpPre dC dI a kA t M L sz)) (qc_X6_identFor_0_13 dC dI a kA sz M L Z) 0 0 (cpA a sz) := by
  refine cpenter (cc := cX6_identFor) (n := 3) (ret := (some .int)) (by decide) rfl (Nat.le_of_ble_eq_true rfl) ?_
  intro p e s m below meth c ls hx hb hml hr hlocks hown hts hK hE hsz hI hl hmn
  have hu : ∀ w ∈ uW, w.before (av_X6_identFor_0_13 a t p2).toArray s = true := fun w h => hts w (List.mem_cons_of_mem _ h)
  have hown : s.vm.findClass RX6 = some m.cls := hown
  have hl : lv_has ls 3 [(0, .ref (a 0)), (1, .ref (a 13)), (2, .int p2)] := hl
  unfold wp_X6_identFor_0_13 at h
  refine lv_aload_n hx hb dX6_identFor_0 rfl (lv_at hl 1 rfl) ?_
  refine va_getN (D := (dC, dI)) (ci := 4) (v := .int (M 13 14)) (C := RX5) (T := TX5) (N := 16) hx hb hu uX5 hown hK hI.1 13 rfl rfl 14 (by decide) (va_Nw.use rfl (hE.1 _ cpn_13)) (fun _ h9 => h9) rfl dX6_identFor_1 ?_
  refine lv_if_eq (tgt := 12) hx hb dX6_identFor_4 (by decide) (fun c1 => ?_) (fun c1 => ?_)
  · have h := h.1 c1
    refine lv_iload_n hx hb dX6_identFor_12 rfl (lv_at hl 2 rfl) ?_
    refine lv_sipush (v := (16384 : Int32)) hx hb dX6_identFor_13 (by decide) ?_
    refine lv_iand hx hb dX6_identFor_16 ?_
    refine lv_if_eq (tgt := 22) hx hb dX6_identFor_17 (by decide) (fun c2 => ?_) (fun c2 => ?_)
    · have h := h.1 c2
      refine lv_aload_n hx hb dX6_identFor_22 rfl (lv_at hl 0 rfl) ?_
      refine lv_aload_n hx hb dX6_identFor_23 rfl (lv_at hl 0 rfl) ?_
      refine va_get (D := (dC, dI)) (ci := 5) (v := .int (M 0 16)) (C := RX6) (T := TX6) (N := 17) hx hb hu uX6 hown hK hI.1 0 rfl rfl 16 (by decide) (hu _ uww_240) (fun _ h9 => h9) rfl dX6_identFor_24 ?_
      refine lv_iconst (v := (1 : Int32)) hx hb dX6_identFor_27 (by decide) ?_
      refine lv_iadd hx hb dX6_identFor_28 ?_
      refine lv_ldcw (own := RX6) (v := (65535 : Int32)) hx hb hown (hu _ uww_300) dX6_identFor_29 ?_
      refine lv_iand hx hb dX6_identFor_32 ?_
      refine cpput (ci := 5) (C := RX6) (T := TX6) (N := 17) (ty := .int) hx hb hu uX6 tyX6 tyX6_ok nmX6 hown hK hI 0 rfl rfl 16 (by decide) (hu _ uww_240) (fun _ h9 => h9) rfl (by decide +kernel) rfl rfl (Nat.le_of_ble_eq_true rfl) (cpset_0_16 _ _ _ _ _) dX6_identFor_33 (fun H locs M3 eM3 hI => ?_)
      have h := h M3 eM3
      refine lv_aload_n hx hb dX6_identFor_36 rfl (lv_at hl 0 rfl) ?_
      refine va_get (D := (dC, dI)) (ci := 5) (v := .int (M3 0 16)) (C := RX6) (T := TX6) (N := 17) hx hb hu uX6 hown hK hI.1 0 rfl rfl 16 (by decide) (hu _ uww_240) (fun _ h9 => h9) rfl dX6_identFor_37 ?_
      exact cpiret (Z := (fun r M' L' => L' = L ∧ Z r M')) hx hb hr hlocks hK hI dX6_identFor_40 ⟨rfl, h⟩
    · have h := h.2 c2
      refine lv_iconst (v := (0 : Int32)) hx hb dX6_identFor_20 (by decide) ?_
      exact cpiret (Z := (fun r M' L' => L' = L ∧ Z r M')) hx hb hr hlocks hK hI dX6_identFor_21 ⟨rfl, h⟩
  · have h := h.2 c1
    refine lv_aload_n hx hb dX6_identFor_7 rfl (lv_at hl 1 rfl) ?_
    refine va_get (D := (dC, dI)) (ci := 4) (v := .int (M 13 4)) (C := RX5) (T := TX5) (N := 16) hx hb hu uX5 hown hK hI.1 13 rfl rfl 4 (by decide) (hu _ uww_492) (u_same (hu _ uww_189)) rfl dX6_identFor_8 ?_
    exact cpiret (Z := (fun r M' L' => L' = L ∧ Z r M')) hx hb hr hlocks hK hI dX6_identFor_11 ⟨rfl, h⟩

abbrev rm_X6_putFourHeader_0_6_13 : Room := { frames := 2, cells := 0, slots := 0, locals := 47 }
abbrev av_X6_putFourHeader_0_6_13 (a t : Nat → Nat) (p2 : Int32) (p4 : Int32) (p5 : Int32) (p6 : Int32) (p7 : Int32) : List Value := [.ref (a 0), .ref (a 6), .int p2, .ref (a 13), .int p4, .int p5, .int p6, .int p7]
abbrev qc_X6_putFourHeader_0_6_13 (dC : Nat → ClassId) (dI : Nat → Nat → Nat) (a : Nat → Nat) (kA : Nat → ClassId) (sz : Nat) (M : cM) (L : cL) (Z : cM → Prop) : Array Value → State → Outcome → State → Prop := va_Qv (fun (u : cM × cL) => u.2 = L ∧ Z u.1) (cpAt dC dI a kA (cpA a sz)) (cpA a sz)
set_option maxHeartbeats 4000000 in
set_option maxRecDepth 100000 in
theorem met_X6_putFourHeader_0_6_13 (l : Launch) (dC : Nat → ClassId) (dI : Nat → Nat → Nat) (a : Nat → Nat) (kA : Nat → ClassId) (t : Nat → Nat) (sz : Nat) (M : cM) (L : cL) (p2 : Int32) (p4 : Int32) (p5 : Int32) (p6 : Int32) (p7 : Int32) (Z : cM → Prop) (h : wp_X6_putFourHeader_0_6_13 M L p2 p4 p5 p6 p7 Z) : Met l yX6_putFourHeader (Cond.code yX6_putFourHeader cX6_putFourHeader 8 none :: uW) rm_X6_putFourHeader_0_6_13 (va_Pc (av_X6_putFourHeader_0_6_13 a t p2 p4 p5 p6 p7) (cpPre dC dI a kA t M L sz)) (qc_X6_putFourHeader_0_6_13 dC dI a kA sz M L Z) 0 0 (cpA a sz) := by
  refine cpenter (cc := cX6_putFourHeader) (n := 8) (ret := none) (by decide) rfl (Nat.le_of_ble_eq_true rfl) ?_
  intro p e s m below meth c ls hx hb hml hr hlocks hown hts hK hE hsz hI hl hmn
  have hu : ∀ w ∈ uW, w.before (av_X6_putFourHeader_0_6_13 a t p2 p4 p5 p6 p7).toArray s = true := fun w h => hts w (List.mem_cons_of_mem _ h)
  have hown : s.vm.findClass RX6 = some m.cls := hown
  have hl : lv_has ls 8 [(0, .ref (a 0)), (1, .ref (a 6)), (2, .int p2), (3, .ref (a 13)), (4, .int p4), (5, .int p5), (6, .int p6), (7, .int p7)] := hl
  unfold wp_X6_putFourHeader_0_6_13 at h
  refine lv_aload_n hx hb dX6_putFourHeader_0 rfl (lv_at hl 1 rfl) ?_
  refine lv_iload_n hx hb dX6_putFourHeader_1 rfl (lv_at hl 2 rfl) ?_
  refine lv_iconst (v := (1 : Int32)) hx hb dX6_putFourHeader_2 (by decide) ?_
  refine lv_ldc2 (own := RX6) (v := (69 : Int64)) hx hb hown (hu _ uww_500) dX6_putFourHeader_3 ?_
  refine cpcallv_m hsz hI (va_runV (As := [.int p2, .int (1 : Int32), .long (69 : Int64)]) (rest := []) ⟨hx, hb, hml, hown, hu⟩ (met_X4_put_6 l dC dI a kA t _ M L p2 (1 : Int32) (69 : Int64) _ h) (cwl_X6_99_X4 hu ⟨by decide, by decide⟩) (cppre (ci := 3) hK hE hsz hI rfl rfl) rfl rfl hl.1 rfl (lv_room (Nat.le_of_ble_eq_true rfl)) dX6_putFourHeader_6 ⟨by decide, by decide⟩) (fun M1 H locs h hI => ?_)
  refine lv_aload_n hx hb dX6_putFourHeader_9 rfl (lv_at hl 1 rfl) ?_
  refine lv_iload_n hx hb dX6_putFourHeader_10 rfl (lv_at hl 2 rfl) ?_
  refine lv_iconst (v := (1 : Int32)) hx hb dX6_putFourHeader_11 (by decide) ?_
  refine lv_iadd hx hb dX6_putFourHeader_12 ?_
  refine lv_iconst (v := (1 : Int32)) hx hb dX6_putFourHeader_13 (by decide) ?_
  refine lv_aload_n hx hb dX6_putFourHeader_14 rfl (lv_at hl 0 rfl) ?_
  refine va_get (D := (dC, dI)) (ci := 5) (v := .int (M1 0 14)) (C := RX6) (T := TX6) (N := 17) hx hb hu uX6 hown hK hI.1 0 rfl rfl 14 (by decide) (hu _ uww_238) (fun _ h9 => h9) rfl dX6_putFourHeader_15 ?_
  obtain ⟨K30, hK30, h⟩ := h
  have J30 : ∀ (v2 : Int64) (H : Heap) (locs : List Loc) (ls : Array Slot), K30 v2 → cpI dC dI a kA (cpA a sz) s M1 L H locs → lv_has ls 8 [(1, .ref (a 6)), (2, .int p2), (3, .ref (a 13)), (4, .int p4), (5, .int p5), (6, .int p6), (7, .int p7)] → W p l e rm_X6_putFourHeader_0_6_13 s m (av_X6_putFourHeader_0_6_13 a t p2 p4 p5 p6 p7).toArray below meth c H locs 0 0 (MQ below (qc_X6_putFourHeader_0_6_13 dC dI a kA sz M L Z) (av_X6_putFourHeader_0_6_13 a t p2 p4 p5 p6 p7).toArray s 0 0 (cpA a sz)) (F0 m 30 ls [.long v2, .int (1 : Int32), .int (p2 + (1 : Int32)), .ref (a 6)]) := by
    intro v2 H locs ls h hI hl
    have h := hK30 v2 h
    refine cpcallv_m hsz hI (va_runV (As := [.int (p2 + (1 : Int32)), .int (1 : Int32), .long v2]) (rest := []) ⟨hx, hb, hml, hown, hu⟩ (met_X4_put_6 l dC dI a kA t _ M1 L (p2 + (1 : Int32)) (1 : Int32) v2 _ h) (cwl_X6_99_X4 hu ⟨by decide, by decide⟩) (cppre (ci := 3) hK hE hsz hI rfl rfl) rfl rfl hl.1 rfl (lv_room (Nat.le_of_ble_eq_true rfl)) dX6_putFourHeader_30 ⟨by decide, by decide⟩) (fun M3 H locs h hI => ?_)
    refine lv_aload_n hx hb dX6_putFourHeader_33 rfl (lv_at hl 0 rfl) ?_
    refine lv_iload_n hx hb dX6_putFourHeader_34 rfl (lv_at hl 1 rfl) ?_
    refine lv_iconst (v := (2 : Int32)) hx hb dX6_putFourHeader_35 (by decide) ?_
    refine lv_iadd hx hb dX6_putFourHeader_36 ?_
    refine lv_iconst (v := (2 : Int32)) hx hb dX6_putFourHeader_37 (by decide) ?_
    refine lv_iload hx hb dX6_putFourHeader_38 (lv_at hl 3 rfl) ?_
    refine lv_i2l hx hb dX6_putFourHeader_40 rfl ?_
    refine cpcallv_m hsz hI (va_runV (As := [.int (p2 + (2 : Int32)), .int (2 : Int32), .long (p4.toInt64)]) (rest := []) ⟨hx, hb, hml, hown, hu⟩ (met_X4_put_6 l dC dI a kA t _ M3 L (p2 + (2 : Int32)) (2 : Int32) (p4.toInt64) _ h) (cwl_X6_99_X4 hu ⟨by decide, by decide⟩) (cppre (ci := 3) hK hE hsz hI rfl rfl) rfl rfl hl.1 rfl (lv_room (Nat.le_of_ble_eq_true rfl)) dX6_putFourHeader_41 ⟨by decide, by decide⟩) (fun M4 H locs h hI => ?_)
    refine lv_aload_n hx hb dX6_putFourHeader_44 rfl (lv_at hl 0 rfl) ?_
    refine lv_iload_n hx hb dX6_putFourHeader_45 rfl (lv_at hl 1 rfl) ?_
    refine lv_iconst (v := (4 : Int32)) hx hb dX6_putFourHeader_46 (by decide) ?_
    refine lv_iadd hx hb dX6_putFourHeader_47 ?_
    refine lv_iconst (v := (2 : Int32)) hx hb dX6_putFourHeader_48 (by decide) ?_
    refine lv_iload hx hb dX6_putFourHeader_49 (lv_at hl 5 rfl) ?_
    refine lv_i2l hx hb dX6_putFourHeader_51 rfl ?_
    refine cpcallv_m hsz hI (va_runV (As := [.int (p2 + (4 : Int32)), .int (2 : Int32), .long (p6.toInt64)]) (rest := []) ⟨hx, hb, hml, hown, hu⟩ (met_X4_put_6 l dC dI a kA t _ M4 L (p2 + (4 : Int32)) (2 : Int32) (p6.toInt64) _ h) (cwl_X6_99_X4 hu ⟨by decide, by decide⟩) (cppre (ci := 3) hK hE hsz hI rfl rfl) rfl rfl hl.1 rfl (lv_room (Nat.le_of_ble_eq_true rfl)) dX6_putFourHeader_52 ⟨by decide, by decide⟩) (fun M5 H locs h hI => ?_)
    refine lv_aload_n hx hb dX6_putFourHeader_55 rfl (lv_at hl 0 rfl) ?_
    refine lv_iload_n hx hb dX6_putFourHeader_56 rfl (lv_at hl 1 rfl) ?_
    refine lv_bipush (v := (6 : Int32)) hx hb dX6_putFourHeader_57 (by decide) ?_
    refine lv_iadd hx hb dX6_putFourHeader_59 ?_
    refine lv_iconst (v := (2 : Int32)) hx hb dX6_putFourHeader_60 (by decide) ?_
    refine lv_iload hx hb dX6_putFourHeader_61 (lv_at hl 4 rfl) ?_
    refine lv_i2l hx hb dX6_putFourHeader_63 rfl ?_
    refine cpcallv_m hsz hI (va_runV (As := [.int (p2 + (6 : Int32)), .int (2 : Int32), .long (p5.toInt64)]) (rest := []) ⟨hx, hb, hml, hown, hu⟩ (met_X4_put_6 l dC dI a kA t _ M5 L (p2 + (6 : Int32)) (2 : Int32) (p5.toInt64) _ h) (cwl_X6_99_X4 hu ⟨by decide, by decide⟩) (cppre (ci := 3) hK hE hsz hI rfl rfl) rfl rfl hl.1 rfl (lv_room (Nat.le_of_ble_eq_true rfl)) dX6_putFourHeader_64 ⟨by decide, by decide⟩) (fun M6 H locs h hI => ?_)
    refine lv_aload_n hx hb dX6_putFourHeader_67 rfl (lv_at hl 0 rfl) ?_
    refine lv_iload_n hx hb dX6_putFourHeader_68 rfl (lv_at hl 1 rfl) ?_
    refine lv_bipush (v := (8 : Int32)) hx hb dX6_putFourHeader_69 (by decide) ?_
    refine lv_iadd hx hb dX6_putFourHeader_71 ?_
    refine lv_iconst (v := (1 : Int32)) hx hb dX6_putFourHeader_72 (by decide) ?_
    refine lv_iload hx hb dX6_putFourHeader_73 (lv_at hl 6 rfl) ?_
    refine lv_i2l hx hb dX6_putFourHeader_75 rfl ?_
    refine cpcallv_m hsz hI (va_runV (As := [.int (p2 + (8 : Int32)), .int (1 : Int32), .long (p7.toInt64)]) (rest := []) ⟨hx, hb, hml, hown, hu⟩ (met_X4_put_6 l dC dI a kA t _ M6 L (p2 + (8 : Int32)) (1 : Int32) (p7.toInt64) _ h) (cwl_X6_99_X4 hu ⟨by decide, by decide⟩) (cppre (ci := 3) hK hE hsz hI rfl rfl) rfl rfl hl.1 rfl (lv_room (Nat.le_of_ble_eq_true rfl)) dX6_putFourHeader_76 ⟨by decide, by decide⟩) (fun M7 H locs h hI => ?_)
    refine lv_aload_n hx hb dX6_putFourHeader_79 rfl (lv_at hl 0 rfl) ?_
    refine lv_iload_n hx hb dX6_putFourHeader_80 rfl (lv_at hl 1 rfl) ?_
    refine lv_bipush (v := (9 : Int32)) hx hb dX6_putFourHeader_81 (by decide) ?_
    refine lv_iadd hx hb dX6_putFourHeader_83 ?_
    refine lv_iconst (v := (1 : Int32)) hx hb dX6_putFourHeader_84 (by decide) ?_
    refine lv_aload_n hx hb dX6_putFourHeader_85 rfl (lv_at hl 2 rfl) ?_
    refine va_get (D := (dC, dI)) (ci := 4) (v := .int (M7 13 3)) (C := RX5) (T := TX5) (N := 16) hx hb hu uX5 hown hK hI.1 13 rfl rfl 3 (by decide) (hu _ uww_425) (u_same (hu _ uww_183)) rfl dX6_putFourHeader_86 ?_
    refine lv_bipush (v := (58 : Int32)) hx hb dX6_putFourHeader_89 (by decide) ?_
    obtain ⟨K103, hK103, h⟩ := h
    have J103 : ∀ (v8 : Int64) (H : Heap) (locs : List Loc) (ls : Array Slot), K103 v8 → cpI dC dI a kA (cpA a sz) s M7 L H locs → lv_has ls 8 [(1, .ref (a 6)), (2, .int p2), (3, .ref (a 13))] → W p l e rm_X6_putFourHeader_0_6_13 s m (av_X6_putFourHeader_0_6_13 a t p2 p4 p5 p6 p7).toArray below meth c H locs 0 0 (MQ below (qc_X6_putFourHeader_0_6_13 dC dI a kA sz M L Z) (av_X6_putFourHeader_0_6_13 a t p2 p4 p5 p6 p7).toArray s 0 0 (cpA a sz)) (F0 m 103 ls [.long v8, .int (1 : Int32), .int (p2 + (9 : Int32)), .ref (a 6)]) := by
      intro v8 H locs ls h hI hl
      have h := hK103 v8 h
      refine cpcallv_m hsz hI (va_runV (As := [.int (p2 + (9 : Int32)), .int (1 : Int32), .long v8]) (rest := []) ⟨hx, hb, hml, hown, hu⟩ (met_X4_put_6 l dC dI a kA t _ M7 L (p2 + (9 : Int32)) (1 : Int32) v8 _ h) (cwl_X6_99_X4 hu ⟨by decide, by decide⟩) (cppre (ci := 3) hK hE hsz hI rfl rfl) rfl rfl hl.1 rfl (lv_room (Nat.le_of_ble_eq_true rfl)) dX6_putFourHeader_103 ⟨by decide, by decide⟩) (fun M9 H locs h hI => ?_)
      refine lv_aload_n hx hb dX6_putFourHeader_106 rfl (lv_at hl 0 rfl) ?_
      refine lv_iload_n hx hb dX6_putFourHeader_107 rfl (lv_at hl 1 rfl) ?_
      refine lv_bipush (v := (10 : Int32)) hx hb dX6_putFourHeader_108 (by decide) ?_
      refine lv_iadd hx hb dX6_putFourHeader_110 ?_
      refine lv_iconst (v := (2 : Int32)) hx hb dX6_putFourHeader_111 (by decide) ?_
      refine lv_lconst (v := (0 : Int64)) hx hb dX6_putFourHeader_112 (by decide) ?_
      refine cpcallv_m hsz hI (va_runV (As := [.int (p2 + (10 : Int32)), .int (2 : Int32), .long (0 : Int64)]) (rest := []) ⟨hx, hb, hml, hown, hu⟩ (met_X4_put_6 l dC dI a kA t _ M9 L (p2 + (10 : Int32)) (2 : Int32) (0 : Int64) _ h) (cwl_X6_99_X4 hu ⟨by decide, by decide⟩) (cppre (ci := 3) hK hE hsz hI rfl rfl) rfl rfl hl.1 rfl (lv_room (Nat.le_of_ble_eq_true rfl)) dX6_putFourHeader_113 ⟨by decide, by decide⟩) (fun M10 H locs h hI => ?_)
      refine lv_aload_n hx hb dX6_putFourHeader_116 rfl (lv_at hl 0 rfl) ?_
      refine lv_iload_n hx hb dX6_putFourHeader_117 rfl (lv_at hl 1 rfl) ?_
      refine lv_bipush (v := (12 : Int32)) hx hb dX6_putFourHeader_118 (by decide) ?_
      refine lv_iadd hx hb dX6_putFourHeader_120 ?_
      refine lv_iconst (v := (4 : Int32)) hx hb dX6_putFourHeader_121 (by decide) ?_
      refine lv_aload_n hx hb dX6_putFourHeader_122 rfl (lv_at hl 2 rfl) ?_
      refine va_get (D := (dC, dI)) (ci := 4) (v := .int (M10 13 10)) (C := RX5) (T := TX5) (N := 16) hx hb hu uX5 hown hK hI.1 13 rfl rfl 10 (by decide) (hu _ uww_502) (u_same (hu _ uww_202)) rfl dX6_putFourHeader_123 ?_
      refine lv_i2l hx hb dX6_putFourHeader_126 rfl ?_
      refine cpcallv_m hsz hI (va_runV (As := [.int (p2 + (12 : Int32)), .int (4 : Int32), .long ((M10 13 10).toInt64)]) (rest := []) ⟨hx, hb, hml, hown, hu⟩ (met_X4_put_6 l dC dI a kA t _ M10 L (p2 + (12 : Int32)) (4 : Int32) ((M10 13 10).toInt64) _ h) (cwl_X6_99_X4 hu ⟨by decide, by decide⟩) (cppre (ci := 3) hK hE hsz hI rfl rfl) rfl rfl hl.1 rfl (lv_room (Nat.le_of_ble_eq_true rfl)) dX6_putFourHeader_127 ⟨by decide, by decide⟩) (fun M11 H locs h hI => ?_)
      refine lv_aload_n hx hb dX6_putFourHeader_130 rfl (lv_at hl 0 rfl) ?_
      refine lv_iload_n hx hb dX6_putFourHeader_131 rfl (lv_at hl 1 rfl) ?_
      refine lv_bipush (v := (16 : Int32)) hx hb dX6_putFourHeader_132 (by decide) ?_
      refine lv_iadd hx hb dX6_putFourHeader_134 ?_
      refine lv_iconst (v := (4 : Int32)) hx hb dX6_putFourHeader_135 (by decide) ?_
      refine lv_aload_n hx hb dX6_putFourHeader_136 rfl (lv_at hl 2 rfl) ?_
      refine va_get (D := (dC, dI)) (ci := 4) (v := .int (M11 13 11)) (C := RX5) (T := TX5) (N := 16) hx hb hu uX5 hown hK hI.1 13 rfl rfl 11 (by decide) (hu _ uww_503) (u_same (hu _ uww_204)) rfl dX6_putFourHeader_137 ?_
      refine lv_i2l hx hb dX6_putFourHeader_140 rfl ?_
      refine cpcallv_m hsz hI (va_runV (As := [.int (p2 + (16 : Int32)), .int (4 : Int32), .long ((M11 13 11).toInt64)]) (rest := []) ⟨hx, hb, hml, hown, hu⟩ (met_X4_put_6 l dC dI a kA t _ M11 L (p2 + (16 : Int32)) (4 : Int32) ((M11 13 11).toInt64) _ h) (cwl_X6_99_X4 hu ⟨by decide, by decide⟩) (cppre (ci := 3) hK hE hsz hI rfl rfl) rfl rfl hl.1 rfl (lv_room (Nat.le_of_ble_eq_true rfl)) dX6_putFourHeader_141 ⟨by decide, by decide⟩) (fun M12 H locs h hI => ?_)
      refine lv_aload_n hx hb dX6_putFourHeader_144 rfl (lv_at hl 0 rfl) ?_
      refine lv_iload_n hx hb dX6_putFourHeader_145 rfl (lv_at hl 1 rfl) ?_
      refine lv_bipush (v := (10 : Int32)) hx hb dX6_putFourHeader_146 (by decide) ?_
      refine lv_iadd hx hb dX6_putFourHeader_148 ?_
      refine lv_iconst (v := (2 : Int32)) hx hb dX6_putFourHeader_149 (by decide) ?_
      refine lv_aload_n hx hb dX6_putFourHeader_150 rfl (lv_at hl 0 rfl) ?_
      refine lv_iload_n hx hb dX6_putFourHeader_151 rfl (lv_at hl 1 rfl) ?_
      refine lv_iload_n hx hb dX6_putFourHeader_152 rfl (lv_at hl 1 rfl) ?_
      refine lv_bipush (v := (20 : Int32)) hx hb dX6_putFourHeader_153 (by decide) ?_
      refine lv_iadd hx hb dX6_putFourHeader_155 ?_
      refine cpcalll_p hsz hI (va_runV (As := [.int p2, .int (p2 + (20 : Int32))]) (rest := [.int (2 : Int32), .int (p2 + (10 : Int32)), .ref (a 6)]) ⟨hx, hb, hml, hown, hu⟩ (met_X4_sum_6 l dC dI a kA t _ M12 L p2 (p2 + (20 : Int32)) _ h) (cwl_X6_163_X4 hu ⟨by decide, by decide⟩) (cppre (ci := 3) hK hE hsz hI rfl rfl) rfl rfl hl.1 rfl (lv_room (Nat.le_of_ble_eq_true rfl)) dX6_putFourHeader_156 ⟨by decide, by decide⟩) (fun r13 H locs h hI => ?_)
      refine cpcalli_p hsz hI (va_runS (As := [.long r13]) (rest := [.int (2 : Int32), .int (p2 + (10 : Int32)), .ref (a 6)]) ⟨hx, hb, hml, hown, hu⟩ (met_X6_checksum l dC dI a kA t _ M12 L r13 _ h) (cwl_X6_167_S hu ⟨by decide, by decide⟩) (cppreS hK hE hsz hI) rfl rfl hl.1 rfl (lv_room (Nat.le_of_ble_eq_true rfl)) dX6_putFourHeader_159 ⟨by decide, by decide⟩) (fun r14 H locs h hI => ?_)
      refine lv_i2l hx hb dX6_putFourHeader_162 rfl ?_
      refine cpcallv_m hsz hI (va_runV (As := [.int (p2 + (10 : Int32)), .int (2 : Int32), .long (r14.toInt64)]) (rest := []) ⟨hx, hb, hml, hown, hu⟩ (met_X4_put_6 l dC dI a kA t _ M12 L (p2 + (10 : Int32)) (2 : Int32) (r14.toInt64) _ h) (cwl_X6_99_X4 hu ⟨by decide, by decide⟩) (cppre (ci := 3) hK hE hsz hI rfl rfl) rfl rfl hl.1 rfl (lv_room (Nat.le_of_ble_eq_true rfl)) dX6_putFourHeader_163 ⟨by decide, by decide⟩) (fun M15 H locs h hI => ?_)
      exact cpvret (Z := (fun M' L' => L' = L ∧ Z M')) hx hb hr hlocks hK hI dX6_putFourHeader_166 ⟨rfl, h⟩
    refine lv_icmp_ne (tgt := 98) hx hb dX6_putFourHeader_91 (by decide) (fun c16 => ?_) (fun c16 => ?_)
    · have h := h.1 c16
      refine lv_aload_n hx hb dX6_putFourHeader_98 rfl (lv_at hl 2 rfl) ?_
      refine va_get (D := (dC, dI)) (ci := 4) (v := .int (M7 13 3)) (C := RX5) (T := TX5) (N := 16) hx hb hu uX5 hown hK hI.1 13 rfl rfl 3 (by decide) (hu _ uww_425) (u_same (hu _ uww_183)) rfl dX6_putFourHeader_99 ?_
      refine lv_i2l hx hb dX6_putFourHeader_102 rfl ?_
      exact J103 ((M7 13 3).toInt64) _ _ _ h hI (lv_sub hl [0, 1, 2] rfl)
    · have h := h.2 c16
      refine lv_lconst (v := (1 : Int64)) hx hb dX6_putFourHeader_94 (by decide) ?_
      refine lv_goto (tgt := 103) hx hb dX6_putFourHeader_95 (by decide) ?_
      exact J103 (1 : Int64) _ _ _ h hI (lv_sub hl [0, 1, 2] rfl)
  refine lv_if_eq (tgt := 29) hx hb dX6_putFourHeader_18 (by decide) (fun c17 => ?_) (fun c17 => ?_)
  · have h := h.1 c17
    refine lv_lconst (v := (0 : Int64)) hx hb dX6_putFourHeader_29 (by decide) ?_
    exact J30 (0 : Int64) _ _ _ h hI (lv_sub hl [1, 2, 3, 4, 5, 6, 7] rfl)
  · have h := h.2 c17
    refine lv_aload_n hx hb dX6_putFourHeader_21 rfl (lv_at hl 3 rfl) ?_
    refine va_get (D := (dC, dI)) (ci := 4) (v := .int (M1 13 1)) (C := RX5) (T := TX5) (N := 16) hx hb hu uX5 hown hK hI.1 13 rfl rfl 1 (by decide) (hu _ uww_501) (u_same (hu _ uww_162)) rfl dX6_putFourHeader_22 ?_
    refine lv_i2l hx hb dX6_putFourHeader_25 rfl ?_
    refine lv_goto (tgt := 30) hx hb dX6_putFourHeader_26 (by decide) ?_
    exact J30 ((M1 13 1).toInt64) _ _ _ h hI (lv_sub hl [1, 2, 3, 4, 5, 6, 7] rfl)

abbrev rm_X6_sendFour_0_13 : Room := { frames := 3, cells := 0, slots := 0, locals := 85 }
abbrev av_X6_sendFour_0_13 (a t : Nat → Nat)  : List Value := [.ref (a 0), .ref (a 13)]
abbrev qc_X6_sendFour_0_13 (dC : Nat → ClassId) (dI : Nat → Nat → Nat) (a : Nat → Nat) (kA : Nat → ClassId) (sz : Nat) (M : cM) (L : cL) (Z : cM → Prop) : Array Value → State → Outcome → State → Prop := va_Qv (fun (u : cM × cL) => u.2 = L ∧ Z u.1) (cpAt dC dI a kA (cpA a sz)) (cpA a sz)
set_option maxHeartbeats 4000000 in
set_option maxRecDepth 100000 in
theorem met_X6_sendFour_0_13 (l : Launch) (dC : Nat → ClassId) (dI : Nat → Nat → Nat) (a : Nat → Nat) (kA : Nat → ClassId) (t : Nat → Nat) (sz : Nat) (M : cM) (L : cL)  (Z : cM → Prop) (h : wp_X6_sendFour_0_13 M L  Z) : Met l yX6_sendFour (Cond.code yX6_sendFour cX6_sendFour 11 none :: uW) rm_X6_sendFour_0_13 (va_Pc (av_X6_sendFour_0_13 a t ) (cpPre dC dI a kA t M L sz)) (qc_X6_sendFour_0_13 dC dI a kA sz M L Z) 0 0 (cpA a sz) := by
  refine cpenter (cc := cX6_sendFour) (n := 11) (ret := none) (by decide) rfl (Nat.le_of_ble_eq_true rfl) ?_
  intro p e s m below meth c ls hx hb hml hr hlocks hown hts hK hE hsz hI hl hmn
  have hu : ∀ w ∈ uW, w.before (av_X6_sendFour_0_13 a t ).toArray s = true := fun w h => hts w (List.mem_cons_of_mem _ h)
  have hown : s.vm.findClass RX6 = some m.cls := hown
  have hl : lv_has ls 11 [(0, .ref (a 0)), (1, .ref (a 13))] := hl
  unfold wp_X6_sendFour_0_13 at h
  refine lv_aload_n hx hb dX6_sendFour_0 rfl (lv_at hl 1 rfl) ?_
  refine lv_bipush (v := (20 : Int32)) hx hb dX6_sendFour_1 (by decide) ?_
  refine lv_aload_n hx hb dX6_sendFour_3 rfl (lv_at hl 0 rfl) ?_
  refine va_get (D := (dC, dI)) (ci := 5) (v := .ref (a 3)) (C := RX6) (T := TX6) (N := 17) hx hb hu uX6 hown hK hI.1 0 rfl rfl 1 (by decide) (hu _ uww_214) (fun _ h9 => h9) rfl dX6_sendFour_4 ?_
  refine va_getN (D := (dC, dI)) (ci := 3) (v := .int (M 3 1)) (C := RX4) (T := TX4) (N := 2) hx hb hu uX4 hown hK hI.1 3 rfl rfl 1 (by decide) (va_Nw.use rfl (hE.1 _ cpn_1)) (fun _ h9 => h9) rfl dX6_sendFour_7 ?_
  refine lv_iadd hx hb dX6_sendFour_10 ?_
  refine cpcalli_p hsz hI (va_runV (As := [.int ((20 : Int32) + (M 3 1))]) (rest := []) ⟨hx, hb, hml, hown, hu⟩ (met_X5_flags_13 l dC dI a kA t _ M L ((20 : Int32) + (M 3 1)) _ h) (cwl_X6_470_X5 hu ⟨by decide, by decide⟩) (cppre (ci := 4) hK hE hsz hI rfl rfl) rfl rfl hl.1 rfl (lv_room (Nat.le_of_ble_eq_true rfl)) dX6_sendFour_11 ⟨by decide, by decide⟩) (fun r1 H locs h hI => ?_)
  refine lv_istore_n (lv' := [(2, .int r1), (0, .ref (a 0)), (1, .ref (a 13))]) hx hb dX6_sendFour_14 rfl hl (by decide) rfl (fun ls hl => ?_)
  refine lv_aload_n hx hb dX6_sendFour_15 rfl (lv_at hl 1 rfl) ?_
  refine lv_aload_n hx hb dX6_sendFour_16 rfl (lv_at hl 2 rfl) ?_
  refine lv_iload_n hx hb dX6_sendFour_17 rfl (lv_at hl 0 rfl) ?_
  refine cpcalli_m hsz hI (va_runV (As := [.ref (a 13), .int r1]) (rest := []) ⟨hx, hb, hml, hown, hu⟩ (met_X6_identFor_0_13 l dC dI a kA t _ M L r1 _ h) (cwl_X6_478_X6 hu ⟨by decide, by decide⟩) (cppre (ci := 5) hK hE hsz hI rfl rfl) rfl rfl hl.1 rfl (lv_room (Nat.le_of_ble_eq_true rfl)) dX6_sendFour_18 ⟨by decide, by decide⟩) (fun r2 M3 H locs h hI => ?_)
  refine lv_istore_n (lv' := [(3, .int r2), (2, .int r1), (0, .ref (a 0)), (1, .ref (a 13))]) hx hb dX6_sendFour_21 rfl hl (by decide) rfl (fun ls hl => ?_)
  refine lv_aload_n hx hb dX6_sendFour_22 rfl (lv_at hl 2 rfl) ?_
  refine va_get (D := (dC, dI)) (ci := 5) (v := .int (M3 0 12)) (C := RX6) (T := TX6) (N := 17) hx hb hu uX6 hown hK hI.1 0 rfl rfl 12 (by decide) (hu _ uww_236) (fun _ h9 => h9) rfl dX6_sendFour_23 ?_
  refine lv_bipush (v := (20 : Int32)) hx hb dX6_sendFour_26 (by decide) ?_
  refine lv_isub hx hb dX6_sendFour_28 ?_
  refine lv_topi (fun x4 ex4 => ?_)
  have h := h x4 ex4
  refine lv_istore (lv' := [(4, .int x4), (3, .int r2), (2, .int r1), (0, .ref (a 0)), (1, .ref (a 13))]) hx hb dX6_sendFour_29 hl (by decide) rfl (fun ls hl => ?_)
  refine lv_iconst (v := (0 : Int32)) hx hb dX6_sendFour_31 (by decide) ?_
  refine lv_istore (lv' := [(5, .int (0 : Int32)), (4, .int x4), (3, .int r2), (2, .int r1), (0, .ref (a 0)), (1, .ref (a 13))]) hx hb dX6_sendFour_32 hl (by decide) rfl (fun ls hl => ?_)
  refine lv_iconst (v := (0 : Int32)) hx hb dX6_sendFour_34 (by decide) ?_
  refine lv_istore (lv' := [(6, .int (0 : Int32)), (5, .int (0 : Int32)), (4, .int x4), (3, .int r2), (2, .int r1), (0, .ref (a 0)), (1, .ref (a 13))]) hx hb dX6_sendFour_35 hl (by decide) rfl (fun ls hl => ?_)
  obtain ⟨I37, m37, h, hs37⟩ := h
  have P37 : ∀ (n37 : Nat) (x5 : Int32) (x6 : Int32) (M7 : cM) (H : Heap) (locs : List Loc) (ls : Array Slot), I37 x5 x6 M7 → m37 x5 x6 M7 < n37 → cpI dC dI a kA (cpA a sz) s M7 L H locs → lv_has ls 11 [(0, .ref (a 0)), (1, .ref (a 13)), (2, .int r1), (3, .int r2), (4, .int x4), (5, .int x5), (6, .int x6)] → W p l e rm_X6_sendFour_0_13 s m (av_X6_sendFour_0_13 a t ).toArray below meth c H locs 0 0 (MQ below (qc_X6_sendFour_0_13 dC dI a kA sz M L Z) (av_X6_sendFour_0_13 a t ).toArray s 0 0 (cpA a sz)) (F0 m 37 ls []) := by
    intro n37
    induction n37 with
    | zero => intro x5 x6 M7 H locs ls _ hn; exact absurd hn (Nat.not_lt_zero _)
    | succ n37 ih37 =>
      intro x5 x6 M7 H locs ls h hn37 hI hl
      have h := hs37 x5 x6 M7 h
      refine lv_iload hx hb dX6_sendFour_37 (lv_at hl 6 rfl) ?_
      refine lv_bipush (v := (49 : Int32)) hx hb dX6_sendFour_39 (by decide) ?_
      refine lv_icmp_ge (tgt := 202) hx hb dX6_sendFour_41 (by decide) (fun c8 => ?_) (fun c8 => ?_)
      · have h := h.1 c8
        exact cpvret (Z := (fun M' L' => L' = L ∧ Z M')) hx hb hr hlocks hK hI dX6_sendFour_202 ⟨rfl, h⟩
      · have h := h.2 c8
        refine lv_iload hx hb dX6_sendFour_44 (lv_at hl 5 rfl) ?_
        refine lv_aload_n hx hb dX6_sendFour_46 rfl (lv_at hl 0 rfl) ?_
        refine va_get (D := (dC, dI)) (ci := 5) (v := .ref (a 3)) (C := RX6) (T := TX6) (N := 17) hx hb hu uX6 hown hK hI.1 0 rfl rfl 1 (by decide) (hu _ uww_214) (fun _ h9 => h9) rfl dX6_sendFour_47 ?_
        refine va_getN (D := (dC, dI)) (ci := 3) (v := .int (M7 3 1)) (C := RX4) (T := TX4) (N := 2) hx hb hu uX4 hown hK hI.1 3 rfl rfl 1 (by decide) (va_Nw.use rfl (hE.1 _ cpn_1)) (fun _ h9 => h9) rfl dX6_sendFour_50 ?_
        refine lv_icmp_gt (tgt := 202) hx hb dX6_sendFour_53 (by decide) (fun c9 => ?_) (fun c9 => ?_)
        · have h := h.1 c9
          exact cpvret (Z := (fun M' L' => L' = L ∧ Z M')) hx hb hr hlocks hK hI dX6_sendFour_202 ⟨rfl, h⟩
        · have h := h.2 c9
          refine lv_aload_n hx hb dX6_sendFour_56 rfl (lv_at hl 0 rfl) ?_
          refine va_get (D := (dC, dI)) (ci := 5) (v := .ref (a 3)) (C := RX6) (T := TX6) (N := 17) hx hb hu uX6 hown hK hI.1 0 rfl rfl 1 (by decide) (hu _ uww_214) (fun _ h9 => h9) rfl dX6_sendFour_57 ?_
          refine va_getN (D := (dC, dI)) (ci := 3) (v := .int (M7 3 1)) (C := RX4) (T := TX4) (N := 2) hx hb hu uX4 hown hK hI.1 3 rfl rfl 1 (by decide) (va_Nw.use rfl (hE.1 _ cpn_1)) (fun _ h9 => h9) rfl dX6_sendFour_60 ?_
          refine lv_iload hx hb dX6_sendFour_63 (lv_at hl 5 rfl) ?_
          refine lv_isub hx hb dX6_sendFour_65 ?_
          refine lv_topi (fun x10 ex10 => ?_)
          have h := h x10 ex10
          refine lv_istore (lv' := [(7, .int x10), (0, .ref (a 0)), (1, .ref (a 13)), (2, .int r1), (3, .int r2), (4, .int x4), (5, .int x5), (6, .int x6)]) hx hb dX6_sendFour_66 hl (by decide) rfl (fun ls hl => ?_)
          refine lv_iload hx hb dX6_sendFour_68 (lv_at hl 0 rfl) ?_
          refine lv_iload hx hb dX6_sendFour_70 (lv_at hl 5 rfl) ?_
          obtain ⟨K88, hK88, h⟩ := h
          have J88 : ∀ (v11 : Int32) (H : Heap) (locs : List Loc) (ls : Array Slot), K88 v11 → cpI dC dI a kA (cpA a sz) s M7 L H locs → lv_has ls 11 [(0, .ref (a 0)), (1, .ref (a 13)), (2, .int r1), (3, .int r2), (4, .int x4), (5, .int x5), (6, .int x6), (7, .int x10)] → W p l e rm_X6_sendFour_0_13 s m (av_X6_sendFour_0_13 a t ).toArray below meth c H locs 0 0 (MQ below (qc_X6_sendFour_0_13 dC dI a kA sz M L Z) (av_X6_sendFour_0_13 a t ).toArray s 0 0 (cpA a sz)) (F0 m 88 ls [.int v11]) := by
            intro v11 H locs ls h hI hl
            have h := hK88 v11 h
            refine lv_istore (lv' := [(8, .int v11), (0, .ref (a 0)), (1, .ref (a 13)), (2, .int r1), (3, .int r2), (4, .int x4), (5, .int x5), (6, .int x6), (7, .int x10)]) hx hb dX6_sendFour_88 hl (by decide) rfl (fun ls hl => ?_)
            refine lv_aload_n hx hb dX6_sendFour_90 rfl (lv_at hl 1 rfl) ?_
            refine va_get (D := (dC, dI)) (ci := 5) (v := .ref (a 5)) (C := RX6) (T := TX6) (N := 17) hx hb hu uX6 hown hK hI.1 0 rfl rfl 2 (by decide) (hu _ uww_218) (fun _ h9 => h9) rfl dX6_sendFour_91 ?_
            refine lv_bipush (v := (20 : Int32)) hx hb dX6_sendFour_94 (by decide) ?_
            refine lv_iload hx hb dX6_sendFour_96 (lv_at hl 0 rfl) ?_
            refine lv_iadd hx hb dX6_sendFour_98 ?_
            refine cpcalli_m hsz hI (va_runV (As := [.int ((20 : Int32) + v11)]) (rest := []) ⟨hx, hb, hml, hown, hu⟩ (met_X3_open_5 l dC dI a kA t _ M7 L ((20 : Int32) + v11) _ h) (cwl_X6_373_X3 hu ⟨by decide, by decide⟩) (cppre (ci := 2) hK hE hsz hI rfl rfl) rfl rfl hl.1 rfl (lv_room (Nat.le_of_ble_eq_true rfl)) dX6_sendFour_99 ⟨by decide, by decide⟩) (fun r12 M13 H locs h hI => ?_)
            refine lv_istore (lv' := [(9, .int r12), (8, .int v11), (0, .ref (a 0)), (1, .ref (a 13)), (2, .int r1), (3, .int r2), (4, .int x4), (5, .int x5), (6, .int x6), (7, .int x10)]) hx hb dX6_sendFour_102 hl (by decide) rfl (fun ls hl => ?_)
            refine lv_iload hx hb dX6_sendFour_104 (lv_at hl 1 rfl) ?_
            refine lv_iload hx hb dX6_sendFour_106 (lv_at hl 9 rfl) ?_
            obtain ⟨K118, hK118, h⟩ := h
            have J118 : ∀ (v14 : Int32) (H : Heap) (locs : List Loc) (ls : Array Slot), K118 v14 → cpI dC dI a kA (cpA a sz) s M13 L H locs → lv_has ls 11 [(0, .ref (a 0)), (1, .ref (a 13)), (2, .int r1), (3, .int r2), (4, .int x4), (5, .int x5), (6, .int x6), (7, .int x10), (8, .int v11), (9, .int r12)] → W p l e rm_X6_sendFour_0_13 s m (av_X6_sendFour_0_13 a t ).toArray below meth c H locs 0 0 (MQ below (qc_X6_sendFour_0_13 dC dI a kA sz M L Z) (av_X6_sendFour_0_13 a t ).toArray s 0 0 (cpA a sz)) (F0 m 118 ls [.int v14]) := by
              intro v14 H locs ls h hI hl
              have h := hK118 v14 h
              refine lv_istore (lv' := [(10, .int v14), (0, .ref (a 0)), (1, .ref (a 13)), (2, .int r1), (3, .int r2), (4, .int x4), (5, .int x5), (6, .int x6), (7, .int x10), (8, .int v11), (9, .int r12)]) hx hb dX6_sendFour_118 hl (by decide) rfl (fun ls hl => ?_)
              refine lv_aload_n hx hb dX6_sendFour_120 rfl (lv_at hl 1 rfl) ?_
              refine lv_aload_n hx hb dX6_sendFour_121 rfl (lv_at hl 1 rfl) ?_
              refine va_get (D := (dC, dI)) (ci := 5) (v := .ref (a 5)) (C := RX6) (T := TX6) (N := 17) hx hb hu uX6 hown hK hI.1 0 rfl rfl 2 (by decide) (hu _ uww_218) (fun _ h9 => h9) rfl dX6_sendFour_122 ?_
              refine va_getN (D := (dC, dI)) (ci := 2) (v := .ref (a 6)) (C := RX3) (T := TX3) (N := 4) hx hb hu uX3 hown hK hI.1 5 rfl rfl 0 (by decide) (va_Nw.use rfl (hE.1 _ cpn_4)) (fun _ h9 => h9) rfl dX6_sendFour_125 ?_
              refine lv_iload hx hb dX6_sendFour_128 (lv_at hl 10 rfl) ?_
              refine lv_aload_n hx hb dX6_sendFour_130 rfl (lv_at hl 2 rfl) ?_
              refine lv_bipush (v := (20 : Int32)) hx hb dX6_sendFour_131 (by decide) ?_
              refine lv_iload hx hb dX6_sendFour_133 (lv_at hl 9 rfl) ?_
              refine lv_iadd hx hb dX6_sendFour_135 ?_
              refine lv_iload_n hx hb dX6_sendFour_136 rfl (lv_at hl 3 rfl) ?_
              refine lv_iload hx hb dX6_sendFour_137 (lv_at hl 0 rfl) ?_
              refine lv_ior hx hb dX6_sendFour_139 ?_
              refine lv_iload hx hb dX6_sendFour_140 (lv_at hl 6 rfl) ?_
              refine lv_bipush (v := (8 : Int32)) hx hb dX6_sendFour_142 (by decide) ?_
              refine lv_idiv hx hb dX6_sendFour_144 (by decide) ?_
              refine lv_iadd hx hb dX6_sendFour_145 ?_
              refine lv_iload_n hx hb dX6_sendFour_146 rfl (lv_at hl 4 rfl) ?_
              refine lv_aload_n hx hb dX6_sendFour_147 rfl (lv_at hl 2 rfl) ?_
              refine va_get (D := (dC, dI)) (ci := 4) (v := .int (M13 13 2)) (C := RX5) (T := TX5) (N := 16) hx hb hu uX5 hown hK hI.1 13 rfl rfl 2 (by decide) (hu _ uww_424) (u_same (hu _ uww_164)) rfl dX6_sendFour_148 ?_
              refine lv_iconst (v := (1 : Int32)) hx hb dX6_sendFour_151 (by decide) ?_
              refine lv_isub hx hb dX6_sendFour_152 ?_
              refine cpcallv_m hsz hI (va_runV (As := [.ref (a 6), .int r12, .ref (a 13), .int ((20 : Int32) + v11), .int ((r1 ||| v14) + (x5 / (8 : Int32))), .int r2, .int ((M13 13 2) - (1 : Int32))]) (rest := []) ⟨hx, hb, hml, hown, hu⟩ (met_X6_putFourHeader_0_6_13 l dC dI a kA t _ M13 L r12 ((20 : Int32) + v11) ((r1 ||| v14) + (x5 / (8 : Int32))) r2 ((M13 13 2) - (1 : Int32)) _ h) (cwl_X6_474_X6 hu ⟨by decide, by decide⟩) (cppre (ci := 5) hK hE hsz hI rfl rfl) rfl rfl hl.1 rfl (lv_room (Nat.le_of_ble_eq_true rfl)) dX6_sendFour_153 ⟨by decide, by decide⟩) (fun M15 H locs h hI => ?_)
              refine lv_aload_n hx hb dX6_sendFour_156 rfl (lv_at hl 1 rfl) ?_
              refine va_get (D := (dC, dI)) (ci := 5) (v := .ref (a 5)) (C := RX6) (T := TX6) (N := 17) hx hb hu uX6 hown hK hI.1 0 rfl rfl 2 (by decide) (hu _ uww_218) (fun _ h9 => h9) rfl dX6_sendFour_157 ?_
              refine va_getN (D := (dC, dI)) (ci := 2) (v := .ref (a 6)) (C := RX3) (T := TX3) (N := 4) hx hb hu uX3 hown hK hI.1 5 rfl rfl 0 (by decide) (va_Nw.use rfl (hE.1 _ cpn_4)) (fun _ h9 => h9) rfl dX6_sendFour_160 ?_
              refine lv_aload_n hx hb dX6_sendFour_163 rfl (lv_at hl 1 rfl) ?_
              refine va_get (D := (dC, dI)) (ci := 5) (v := .ref (a 3)) (C := RX6) (T := TX6) (N := 17) hx hb hu uX6 hown hK hI.1 0 rfl rfl 1 (by decide) (hu _ uww_214) (fun _ h9 => h9) rfl dX6_sendFour_164 ?_
              refine lv_iload hx hb dX6_sendFour_167 (lv_at hl 6 rfl) ?_
              refine lv_iload hx hb dX6_sendFour_169 (lv_at hl 10 rfl) ?_
              refine lv_bipush (v := (20 : Int32)) hx hb dX6_sendFour_171 (by decide) ?_
              refine lv_iadd hx hb dX6_sendFour_173 ?_
              refine lv_iload hx hb dX6_sendFour_174 (lv_at hl 9 rfl) ?_
              refine cpcallv_m hsz hI (va_runV (As := [.ref (a 3), .int x5, .int (r12 + (20 : Int32)), .int v11]) (rest := []) ⟨hx, hb, hml, hown, hu⟩ (met_X4_copy_6_3 l dC dI a kA t _ M15 L x5 (r12 + (20 : Int32)) v11 _ h) (cwl_X6_276_X4 hu ⟨by decide, by decide⟩) (cppre (ci := 3) hK hE hsz hI rfl rfl) rfl rfl hl.1 rfl (lv_room (Nat.le_of_ble_eq_true rfl)) dX6_sendFour_176 ⟨by decide, by decide⟩) (fun M16 H locs h hI => ?_)
              refine lv_iload hx hb dX6_sendFour_179 (lv_at hl 9 rfl) ?_
              refine lv_iload hx hb dX6_sendFour_181 (lv_at hl 8 rfl) ?_
              refine lv_icmp_ne (tgt := 189) hx hb dX6_sendFour_183 (by decide) (fun c17 => ?_) (fun c17 => ?_)
              · have h := h.1 c17
                refine lv_iload hx hb dX6_sendFour_189 (lv_at hl 6 rfl) ?_
                refine lv_iload hx hb dX6_sendFour_191 (lv_at hl 9 rfl) ?_
                refine lv_iadd hx hb dX6_sendFour_193 ?_
                refine lv_topi (fun x18 ex18 => ?_)
                have h := h x18 ex18
                refine lv_istore (lv' := [(5, .int x18), (10, .int v14), (0, .ref (a 0)), (1, .ref (a 13)), (2, .int r1), (3, .int r2), (4, .int x4), (6, .int x6), (7, .int x10), (8, .int v11), (9, .int r12)]) hx hb dX6_sendFour_194 hl (by decide) rfl (fun ls hl => ?_)
                obtain ⟨x19, ex19⟩ : ∃ y : Int32, y = (x6 + (1 : Int32)) := ⟨_, rfl⟩
                have h := h x19 ex19
                refine lv_iinc (v := x19) (lv' := [(6, .int x19), (5, .int x18), (10, .int v14), (0, .ref (a 0)), (1, .ref (a 13)), (2, .int r1), (3, .int r2), (4, .int x4), (7, .int x10), (8, .int v11), (9, .int r12)]) hx hb dX6_sendFour_196 hl (k := 7) rfl (by rw [ex19]; rfl) (by decide) rfl (fun ls hl => ?_)
                refine lv_goto (tgt := 37) hx hb dX6_sendFour_199 (by decide) ?_
                exact ih37 x18 x19 M16 _ _ _ h.1 (Nat.lt_of_lt_of_le h.2 (Nat.le_of_lt_succ hn37)) hI (lv_sub hl [3, 4, 5, 6, 7, 1, 0] rfl)
              · have h := h.2 c17
                refine lv_goto (tgt := 202) hx hb dX6_sendFour_186 (by decide) ?_
                exact cpvret (Z := (fun M' L' => L' = L ∧ Z M')) hx hb hr hlocks hK hI dX6_sendFour_202 ⟨rfl, h⟩
            refine lv_icmp_ge (tgt := 117) hx hb dX6_sendFour_108 (by decide) (fun c20 => ?_) (fun c20 => ?_)
            · have h := h.1 c20
              refine lv_iconst (v := (0 : Int32)) hx hb dX6_sendFour_117 (by decide) ?_
              exact J118 (0 : Int32) _ _ _ h hI (lv_sub hl [2, 3, 4, 5, 6, 7, 8, 9, 1, 0] rfl)
            · have h := h.2 c20
              refine lv_sipush (v := (8192 : Int32)) hx hb dX6_sendFour_111 (by decide) ?_
              refine lv_goto (tgt := 118) hx hb dX6_sendFour_114 (by decide) ?_
              exact J118 (8192 : Int32) _ _ _ h hI (lv_sub hl [2, 3, 4, 5, 6, 7, 8, 9, 1, 0] rfl)
          refine lv_icmp_gt (tgt := 80) hx hb dX6_sendFour_72 (by decide) (fun c21 => ?_) (fun c21 => ?_)
          · have h := h.1 c21
            refine lv_iload hx hb dX6_sendFour_80 (lv_at hl 5 rfl) ?_
            refine lv_bipush (v := (8 : Int32)) hx hb dX6_sendFour_82 (by decide) ?_
            refine lv_idiv hx hb dX6_sendFour_84 (by decide) ?_
            refine lv_bipush (v := (8 : Int32)) hx hb dX6_sendFour_85 (by decide) ?_
            refine lv_imul hx hb dX6_sendFour_87 ?_
            exact J88 ((x4 / (8 : Int32)) * (8 : Int32)) _ _ _ h hI (lv_sub hl [1, 2, 3, 4, 5, 6, 7, 0] rfl)
          · have h := h.2 c21
            refine lv_iload hx hb dX6_sendFour_75 (lv_at hl 0 rfl) ?_
            refine lv_goto (tgt := 88) hx hb dX6_sendFour_77 (by decide) ?_
            exact J88 x10 _ _ _ h hI (lv_sub hl [1, 2, 3, 4, 5, 6, 7, 0] rfl)
  exact P37 (m37 (0 : Int32) (0 : Int32) M3 + 1) (0 : Int32) (0 : Int32) M3 _ _ _ h (Nat.lt_succ_self _) hI (lv_sub hl [5, 6, 4, 3, 2, 1, 0] rfl)

abbrev rm_X6_answerSix_0_13 : Room := { frames := 2, cells := 0, slots := 0, locals := 85 }
abbrev av_X6_answerSix_0_13 (a t : Nat → Nat) (p2 : Int32) (p3 : Int32) : List Value := [.ref (a 0), .ref (a 13), .int p2, .int p3]
abbrev qc_X6_answerSix_0_13 (dC : Nat → ClassId) (dI : Nat → Nat → Nat) (a : Nat → Nat) (kA : Nat → ClassId) (sz : Nat) (M : cM) (L : cL) (Z : Int32 → cM → Prop) : Array Value → State → Outcome → State → Prop := va_Qi (fun r (u : cM × cL) => u.2 = L ∧ Z r u.1) (cpAt dC dI a kA (cpA a sz)) (cpA a sz)
set_option maxHeartbeats 4000000 in
set_option maxRecDepth 100000 in
theorem met_X6_answerSix_0_13 (l : Launch) (dC : Nat → ClassId) (dI : Nat → Nat → Nat) (a : Nat → Nat) (kA : Nat → ClassId) (t : Nat → Nat) (sz : Nat) (M : cM) (L : cL) (p2 : Int32) (p3 : Int32) (Z : Int32 → cM → Prop) (h : wp_X6_answerSix_0_13 M L p2 p3 Z) : Met l yX6_answerSix (Cond.code yX6_answerSix cX6_answerSix 12 (some .int) :: uW) rm_X6_answerSix_0_13 (va_Pc (av_X6_answerSix_0_13 a t p2 p3) (cpPre dC dI a kA t M L sz)) (qc_X6_answerSix_0_13 dC dI a kA sz M L Z) 0 0 (cpA a sz) := by
  refine cpenter (cc := cX6_answerSix) (n := 12) (ret := (some .int)) (by decide) rfl (Nat.le_of_ble_eq_true rfl) ?_
  intro p e s m below meth c ls hx hb hml hr hlocks hown hts hK hE hsz hI hl hmn
  have hu : ∀ w ∈ uW, w.before (av_X6_answerSix_0_13 a t p2 p3).toArray s = true := fun w h => hts w (List.mem_cons_of_mem _ h)
  have hown : s.vm.findClass RX6 = some m.cls := hown
  have hl : lv_has ls 12 [(0, .ref (a 0)), (1, .ref (a 13)), (2, .int p2), (3, .int p3)] := hl
  unfold wp_X6_answerSix_0_13 at h
  refine lv_aload_n hx hb dX6_answerSix_0 rfl (lv_at hl 1 rfl) ?_
  refine va_get (D := (dC, dI)) (ci := 4) (v := .int (M 13 8)) (C := RX5) (T := TX5) (N := 16) hx hb hu uX5 hown hK hI.1 13 rfl rfl 8 (by decide) (hu _ uww_441) (u_same (hu _ uww_152)) rfl dX6_answerSix_1 ?_
  obtain ⟨K29, hK29, h⟩ := h
  have J29 : ∀ (v1 : Int32) (H : Heap) (locs : List Loc) (ls : Array Slot), K29 v1 → cpI dC dI a kA (cpA a sz) s M L H locs → lv_has ls 12 [(0, .ref (a 0)), (1, .ref (a 13)), (2, .int p2), (3, .int p3)] → W p l e rm_X6_answerSix_0_13 s m (av_X6_answerSix_0_13 a t p2 p3).toArray below meth c H locs 0 0 (MQ below (qc_X6_answerSix_0_13 dC dI a kA sz M L Z) (av_X6_answerSix_0_13 a t p2 p3).toArray s 0 0 (cpA a sz)) (F0 m 29 ls [.int v1]) := by
    intro v1 H locs ls h hI hl
    have h := hK29 v1 h
    refine lv_istore (lv' := [(4, .int v1), (0, .ref (a 0)), (1, .ref (a 13)), (2, .int p2), (3, .int p3)]) hx hb dX6_answerSix_29 hl (by decide) rfl (fun ls hl => ?_)
    refine lv_aload_n hx hb dX6_answerSix_31 rfl (lv_at hl 2 rfl) ?_
    refine va_get (D := (dC, dI)) (ci := 4) (v := .int (M 13 6)) (C := RX5) (T := TX5) (N := 16) hx hb hu uX5 hown hK hI.1 13 rfl rfl 6 (by decide) (hu _ uww_442) (u_same (hu _ uww_179)) rfl dX6_answerSix_32 ?_
    refine lv_if_ne (tgt := 52) hx hb dX6_answerSix_35 (by decide) (fun c2 => ?_) (fun c2 => ?_)
    · have h := h.1 c2
      refine lv_bipush (v := (9 : Int32)) hx hb dX6_answerSix_52 (by decide) ?_
      exact cpiret (Z := (fun r M' L' => L' = L ∧ Z r M')) hx hb hr hlocks hK hI dX6_answerSix_54 ⟨rfl, h⟩
    · have h := h.2 c2
      refine lv_aload_n hx hb dX6_answerSix_38 rfl (lv_at hl 2 rfl) ?_
      refine va_get (D := (dC, dI)) (ci := 4) (v := .int (M 13 3)) (C := RX5) (T := TX5) (N := 16) hx hb hu uX5 hown hK hI.1 13 rfl rfl 3 (by decide) (hu _ uww_425) (u_same (hu _ uww_183)) rfl dX6_answerSix_39 ?_
      refine lv_bipush (v := (58 : Int32)) hx hb dX6_answerSix_42 (by decide) ?_
      obtain ⟨K55, hK55, h⟩ := h
      have J55 : ∀  (H : Heap) (locs : List Loc) (ls : Array Slot), K55  → cpI dC dI a kA (cpA a sz) s M L H locs → lv_has ls 12 [(0, .ref (a 0)), (1, .ref (a 13)), (2, .int p2), (3, .int p3)] → W p l e rm_X6_answerSix_0_13 s m (av_X6_answerSix_0_13 a t p2 p3).toArray below meth c H locs 0 0 (MQ below (qc_X6_answerSix_0_13 dC dI a kA sz M L Z) (av_X6_answerSix_0_13 a t p2 p3).toArray s 0 0 (cpA a sz)) (F0 m 55 ls []) := by
        intro  H locs ls h hI hl
        have h := hK55  h
        refine lv_aload_n hx hb dX6_answerSix_55 rfl (lv_at hl 1 rfl) ?_
        refine va_get (D := (dC, dI)) (ci := 4) (v := .int (M 13 7)) (C := RX5) (T := TX5) (N := 16) hx hb hu uX5 hown hK hI.1 13 rfl rfl 7 (by decide) (hu _ uww_426) (u_same (hu _ uww_169)) rfl dX6_answerSix_56 ?_
        refine lv_aload_n hx hb dX6_answerSix_59 rfl (lv_at hl 1 rfl) ?_
        refine va_get (D := (dC, dI)) (ci := 4) (v := .int (M 13 8)) (C := RX5) (T := TX5) (N := 16) hx hb hu uX5 hown hK hI.1 13 rfl rfl 8 (by decide) (hu _ uww_441) (u_same (hu _ uww_152)) rfl dX6_answerSix_60 ?_
        refine lv_iadd hx hb dX6_answerSix_63 ?_
        refine lv_sipush (v := (1232 : Int32)) hx hb dX6_answerSix_64 (by decide) ?_
        refine va_mmin hx hb (hml.trans hl.1.symm) hown (hu _ uww_286) (hu _ uww_42) (hu _ uww_43) (hu _ uww_44) (Nat.le_of_ble_eq_true rfl) (Nat.le_of_ble_eq_true rfl) (Nat.le_of_ble_eq_true rfl) (Nat.le_of_ble_eq_true rfl) dX6_answerSix_67 ?_
        refine lv_topi (fun x3 ex3 => ?_)
        have h := h x3 ex3
        refine lv_istore (lv' := [(5, .int x3), (0, .ref (a 0)), (1, .ref (a 13)), (2, .int p2), (3, .int p3)]) hx hb dX6_answerSix_70 hl (by decide) rfl (fun ls hl => ?_)
        refine lv_bipush (v := (8 : Int32)) hx hb dX6_answerSix_72 (by decide) ?_
        refine lv_iload hx hb dX6_answerSix_74 (lv_at hl 0 rfl) ?_
        refine lv_iadd hx hb dX6_answerSix_76 ?_
        refine lv_topi (fun x4 ex4 => ?_)
        have h := h x4 ex4
        refine lv_istore (lv' := [(6, .int x4), (5, .int x3), (0, .ref (a 0)), (1, .ref (a 13)), (2, .int p2), (3, .int p3)]) hx hb dX6_answerSix_77 hl (by decide) rfl (fun ls hl => ?_)
        refine lv_aload_n hx hb dX6_answerSix_79 rfl (lv_at hl 2 rfl) ?_
        refine va_get (D := (dC, dI)) (ci := 5) (v := .ref (a 5)) (C := RX6) (T := TX6) (N := 17) hx hb hu uX6 hown hK hI.1 0 rfl rfl 2 (by decide) (hu _ uww_218) (fun _ h9 => h9) rfl dX6_answerSix_80 ?_
        refine va_getN (D := (dC, dI)) (ci := 2) (v := .ref (a 6)) (C := RX3) (T := TX3) (N := 4) hx hb hu uX3 hown hK hI.1 5 rfl rfl 0 (by decide) (va_Nw.use rfl (hE.1 _ cpn_4)) (fun _ h9 => h9) rfl dX6_answerSix_83 ?_
        refine lv_astore (lv' := [(7, .ref (a 6)), (6, .int x4), (5, .int x3), (0, .ref (a 0)), (1, .ref (a 13)), (2, .int p2), (3, .int p3)]) hx hb dX6_answerSix_86 hl (by decide) rfl (fun ls hl => ?_)
        refine lv_aload_n hx hb dX6_answerSix_88 rfl (lv_at hl 3 rfl) ?_
        refine va_get (D := (dC, dI)) (ci := 5) (v := .ref (a 5)) (C := RX6) (T := TX6) (N := 17) hx hb hu uX6 hown hK hI.1 0 rfl rfl 2 (by decide) (hu _ uww_218) (fun _ h9 => h9) rfl dX6_answerSix_89 ?_
        refine lv_bipush (v := (40 : Int32)) hx hb dX6_answerSix_92 (by decide) ?_
        refine lv_iload hx hb dX6_answerSix_94 (lv_at hl 1 rfl) ?_
        refine lv_iadd hx hb dX6_answerSix_96 ?_
        refine cpcalli_m hsz hI (va_runV (As := [.int ((40 : Int32) + x4)]) (rest := []) ⟨hx, hb, hml, hown, hu⟩ (met_X3_open_5 l dC dI a kA t _ M L ((40 : Int32) + x4) _ h) (cwl_X6_373_X3 hu ⟨by decide, by decide⟩) (cppre (ci := 2) hK hE hsz hI rfl rfl) rfl rfl hl.1 rfl (lv_room (Nat.le_of_ble_eq_true rfl)) dX6_answerSix_97 ⟨by decide, by decide⟩) (fun r5 M6 H locs h hI => ?_)
        refine lv_istore (lv' := [(8, .int r5), (7, .ref (a 6)), (6, .int x4), (5, .int x3), (0, .ref (a 0)), (1, .ref (a 13)), (2, .int p2), (3, .int p3)]) hx hb dX6_answerSix_100 hl (by decide) rfl (fun ls hl => ?_)
        refine lv_aload hx hb dX6_answerSix_102 (lv_at hl 1 rfl) ?_
        refine lv_iload hx hb dX6_answerSix_104 (lv_at hl 0 rfl) ?_
        refine lv_iconst (v := (4 : Int32)) hx hb dX6_answerSix_106 (by decide) ?_
        refine lv_ldc2 (own := RX6) (v := (1610612736 : Int64)) hx hb hown (hu _ uww_383) dX6_answerSix_107 ?_
        refine cpcallv_m hsz hI (va_runV (As := [.int r5, .int (4 : Int32), .long (1610612736 : Int64)]) (rest := []) ⟨hx, hb, hml, hown, hu⟩ (met_X4_put_6 l dC dI a kA t _ M6 L r5 (4 : Int32) (1610612736 : Int64) _ h) (cwl_X6_99_X4 hu ⟨by decide, by decide⟩) (cppre (ci := 3) hK hE hsz hI rfl rfl) rfl rfl hl.1 rfl (lv_room (Nat.le_of_ble_eq_true rfl)) dX6_answerSix_110 ⟨by decide, by decide⟩) (fun M7 H locs h hI => ?_)
        refine lv_aload hx hb dX6_answerSix_113 (lv_at hl 1 rfl) ?_
        refine lv_iload hx hb dX6_answerSix_115 (lv_at hl 0 rfl) ?_
        refine lv_iconst (v := (4 : Int32)) hx hb dX6_answerSix_117 (by decide) ?_
        refine lv_iadd hx hb dX6_answerSix_118 ?_
        refine lv_iconst (v := (2 : Int32)) hx hb dX6_answerSix_119 (by decide) ?_
        refine lv_iload hx hb dX6_answerSix_120 (lv_at hl 2 rfl) ?_
        refine lv_i2l hx hb dX6_answerSix_122 rfl ?_
        refine cpcallv_m hsz hI (va_runV (As := [.int (r5 + (4 : Int32)), .int (2 : Int32), .long (x4.toInt64)]) (rest := []) ⟨hx, hb, hml, hown, hu⟩ (met_X4_put_6 l dC dI a kA t _ M7 L (r5 + (4 : Int32)) (2 : Int32) (x4.toInt64) _ h) (cwl_X6_99_X4 hu ⟨by decide, by decide⟩) (cppre (ci := 3) hK hE hsz hI rfl rfl) rfl rfl hl.1 rfl (lv_room (Nat.le_of_ble_eq_true rfl)) dX6_answerSix_123 ⟨by decide, by decide⟩) (fun M8 H locs h hI => ?_)
        refine lv_aload hx hb dX6_answerSix_126 (lv_at hl 1 rfl) ?_
        refine lv_iload hx hb dX6_answerSix_128 (lv_at hl 0 rfl) ?_
        refine lv_bipush (v := (6 : Int32)) hx hb dX6_answerSix_130 (by decide) ?_
        refine lv_iadd hx hb dX6_answerSix_132 ?_
        refine lv_iconst (v := (1 : Int32)) hx hb dX6_answerSix_133 (by decide) ?_
        refine lv_ldc2 (own := RX6) (v := (58 : Int64)) hx hb hown (hu _ uww_342) dX6_answerSix_134 ?_
        refine cpcallv_m hsz hI (va_runV (As := [.int (r5 + (6 : Int32)), .int (1 : Int32), .long (58 : Int64)]) (rest := []) ⟨hx, hb, hml, hown, hu⟩ (met_X4_put_6 l dC dI a kA t _ M8 L (r5 + (6 : Int32)) (1 : Int32) (58 : Int64) _ h) (cwl_X6_99_X4 hu ⟨by decide, by decide⟩) (cppre (ci := 3) hK hE hsz hI rfl rfl) rfl rfl hl.1 rfl (lv_room (Nat.le_of_ble_eq_true rfl)) dX6_answerSix_137 ⟨by decide, by decide⟩) (fun M9 H locs h hI => ?_)
        refine lv_aload hx hb dX6_answerSix_140 (lv_at hl 1 rfl) ?_
        refine lv_iload hx hb dX6_answerSix_142 (lv_at hl 0 rfl) ?_
        refine lv_bipush (v := (7 : Int32)) hx hb dX6_answerSix_144 (by decide) ?_
        refine lv_iadd hx hb dX6_answerSix_146 ?_
        refine lv_iconst (v := (1 : Int32)) hx hb dX6_answerSix_147 (by decide) ?_
        refine lv_ldc2 (own := RX6) (v := (64 : Int64)) hx hb hown (hu _ uww_443) dX6_answerSix_148 ?_
        refine cpcallv_m hsz hI (va_runV (As := [.int (r5 + (7 : Int32)), .int (1 : Int32), .long (64 : Int64)]) (rest := []) ⟨hx, hb, hml, hown, hu⟩ (met_X4_put_6 l dC dI a kA t _ M9 L (r5 + (7 : Int32)) (1 : Int32) (64 : Int64) _ h) (cwl_X6_99_X4 hu ⟨by decide, by decide⟩) (cppre (ci := 3) hK hE hsz hI rfl rfl) rfl rfl hl.1 rfl (lv_room (Nat.le_of_ble_eq_true rfl)) dX6_answerSix_151 ⟨by decide, by decide⟩) (fun M10 H locs h hI => ?_)
        refine lv_aload hx hb dX6_answerSix_154 (lv_at hl 1 rfl) ?_
        refine lv_iload hx hb dX6_answerSix_156 (lv_at hl 0 rfl) ?_
        refine lv_bipush (v := (8 : Int32)) hx hb dX6_answerSix_158 (by decide) ?_
        refine lv_iadd hx hb dX6_answerSix_160 ?_
        refine lv_bipush (v := (8 : Int32)) hx hb dX6_answerSix_161 (by decide) ?_
        refine lv_aload_n hx hb dX6_answerSix_163 rfl (lv_at hl 4 rfl) ?_
        refine va_get (D := (dC, dI)) (ci := 5) (v := .long (L 0 10)) (C := RX6) (T := TX6) (N := 17) hx hb hu uX6 hown hK hI.1 0 rfl rfl 10 (by decide) (hu _ uww_234) (fun _ h9 => h9) rfl dX6_answerSix_164 ?_
        refine cpcallv_m hsz hI (va_runV (As := [.int (r5 + (8 : Int32)), .int (8 : Int32), .long (L 0 10)]) (rest := []) ⟨hx, hb, hml, hown, hu⟩ (met_X4_put_6 l dC dI a kA t _ M10 L (r5 + (8 : Int32)) (8 : Int32) (L 0 10) _ h) (cwl_X6_99_X4 hu ⟨by decide, by decide⟩) (cppre (ci := 3) hK hE hsz hI rfl rfl) rfl rfl hl.1 rfl (lv_room (Nat.le_of_ble_eq_true rfl)) dX6_answerSix_167 ⟨by decide, by decide⟩) (fun M11 H locs h hI => ?_)
        refine lv_aload hx hb dX6_answerSix_170 (lv_at hl 1 rfl) ?_
        refine lv_iload hx hb dX6_answerSix_172 (lv_at hl 0 rfl) ?_
        refine lv_bipush (v := (16 : Int32)) hx hb dX6_answerSix_174 (by decide) ?_
        refine lv_iadd hx hb dX6_answerSix_176 ?_
        refine lv_bipush (v := (8 : Int32)) hx hb dX6_answerSix_177 (by decide) ?_
        refine lv_aload_n hx hb dX6_answerSix_179 rfl (lv_at hl 4 rfl) ?_
        refine va_get (D := (dC, dI)) (ci := 5) (v := .long (L 0 11)) (C := RX6) (T := TX6) (N := 17) hx hb hu uX6 hown hK hI.1 0 rfl rfl 11 (by decide) (hu _ uww_235) (fun _ h9 => h9) rfl dX6_answerSix_180 ?_
        refine cpcallv_m hsz hI (va_runV (As := [.int (r5 + (16 : Int32)), .int (8 : Int32), .long (L 0 11)]) (rest := []) ⟨hx, hb, hml, hown, hu⟩ (met_X4_put_6 l dC dI a kA t _ M11 L (r5 + (16 : Int32)) (8 : Int32) (L 0 11) _ h) (cwl_X6_99_X4 hu ⟨by decide, by decide⟩) (cppre (ci := 3) hK hE hsz hI rfl rfl) rfl rfl hl.1 rfl (lv_room (Nat.le_of_ble_eq_true rfl)) dX6_answerSix_183 ⟨by decide, by decide⟩) (fun M12 H locs h hI => ?_)
        refine lv_aload hx hb dX6_answerSix_186 (lv_at hl 1 rfl) ?_
        refine lv_aload_n hx hb dX6_answerSix_188 rfl (lv_at hl 4 rfl) ?_
        refine va_get (D := (dC, dI)) (ci := 5) (v := .ref (a 1)) (C := RX6) (T := TX6) (N := 17) hx hb hu uX6 hown hK hI.1 0 rfl rfl 0 (by decide) (hu _ uww_213) (fun _ h9 => h9) rfl dX6_answerSix_189 ?_
        refine lv_bipush (v := (8 : Int32)) hx hb dX6_answerSix_192 (by decide) ?_
        refine lv_iload hx hb dX6_answerSix_194 (lv_at hl 0 rfl) ?_
        refine lv_bipush (v := (24 : Int32)) hx hb dX6_answerSix_196 (by decide) ?_
        refine lv_iadd hx hb dX6_answerSix_198 ?_
        refine lv_bipush (v := (16 : Int32)) hx hb dX6_answerSix_199 (by decide) ?_
        refine cpcallv_m hsz hI (va_runV (As := [.ref (a 1), .int (8 : Int32), .int (r5 + (24 : Int32)), .int (16 : Int32)]) (rest := []) ⟨hx, hb, hml, hown, hu⟩ (met_X4_copy_6_1 l dC dI a kA t _ M12 L (8 : Int32) (r5 + (24 : Int32)) (16 : Int32) _ h) (cwl_X6_276_X4 hu ⟨by decide, by decide⟩) (cppre (ci := 3) hK hE hsz hI rfl rfl) rfl rfl hl.1 rfl (lv_room (Nat.le_of_ble_eq_true rfl)) dX6_answerSix_201 ⟨by decide, by decide⟩) (fun M13 H locs h hI => ?_)
        refine lv_iload hx hb dX6_answerSix_204 (lv_at hl 0 rfl) ?_
        refine lv_bipush (v := (40 : Int32)) hx hb dX6_answerSix_206 (by decide) ?_
        refine lv_iadd hx hb dX6_answerSix_208 ?_
        refine lv_topi (fun x14 ex14 => ?_)
        have h := h x14 ex14
        refine lv_istore (lv' := [(9, .int x14), (8, .int r5), (7, .ref (a 6)), (6, .int x4), (5, .int x3), (0, .ref (a 0)), (1, .ref (a 13)), (2, .int p2), (3, .int p3)]) hx hb dX6_answerSix_209 hl (by decide) rfl (fun ls hl => ?_)
        refine lv_aload hx hb dX6_answerSix_211 (lv_at hl 2 rfl) ?_
        refine lv_iload hx hb dX6_answerSix_213 (lv_at hl 0 rfl) ?_
        refine lv_iconst (v := (4 : Int32)) hx hb dX6_answerSix_215 (by decide) ?_
        refine lv_iload_n hx hb dX6_answerSix_216 rfl (lv_at hl 7 rfl) ?_
        refine lv_i2l hx hb dX6_answerSix_217 rfl ?_
        refine lv_bipush (v := (16 : Int32)) hx hb dX6_answerSix_218 (by decide) ?_
        refine lv_lshl hx hb dX6_answerSix_220 rfl ?_
        refine cpcallv_m hsz hI (va_runV (As := [.int x14, .int (4 : Int32), .long ((p2.toInt64) <<< ((16 : Int32).toInt64 &&& 63))]) (rest := []) ⟨hx, hb, hml, hown, hu⟩ (met_X4_put_6 l dC dI a kA t _ M13 L x14 (4 : Int32) ((p2.toInt64) <<< ((16 : Int32).toInt64 &&& 63)) _ h) (cwl_X6_99_X4 hu ⟨by decide, by decide⟩) (cppre (ci := 3) hK hE hsz hI rfl rfl) rfl rfl hl.1 rfl (lv_room (Nat.le_of_ble_eq_true rfl)) dX6_answerSix_221 ⟨by decide, by decide⟩) (fun M15 H locs h hI => ?_)
        refine lv_aload hx hb dX6_answerSix_224 (lv_at hl 2 rfl) ?_
        refine lv_iload hx hb dX6_answerSix_226 (lv_at hl 0 rfl) ?_
        refine lv_iconst (v := (4 : Int32)) hx hb dX6_answerSix_228 (by decide) ?_
        refine lv_iadd hx hb dX6_answerSix_229 ?_
        refine lv_iconst (v := (4 : Int32)) hx hb dX6_answerSix_230 (by decide) ?_
        refine lv_iload_n hx hb dX6_answerSix_231 rfl (lv_at hl 8 rfl) ?_
        refine lv_i2l hx hb dX6_answerSix_232 rfl ?_
        refine cpcallv_m hsz hI (va_runV (As := [.int (x14 + (4 : Int32)), .int (4 : Int32), .long (p3.toInt64)]) (rest := []) ⟨hx, hb, hml, hown, hu⟩ (met_X4_put_6 l dC dI a kA t _ M15 L (x14 + (4 : Int32)) (4 : Int32) (p3.toInt64) _ h) (cwl_X6_99_X4 hu ⟨by decide, by decide⟩) (cppre (ci := 3) hK hE hsz hI rfl rfl) rfl rfl hl.1 rfl (lv_room (Nat.le_of_ble_eq_true rfl)) dX6_answerSix_233 ⟨by decide, by decide⟩) (fun M16 H locs h hI => ?_)
        refine lv_aload hx hb dX6_answerSix_236 (lv_at hl 2 rfl) ?_
        refine lv_aload_n hx hb dX6_answerSix_238 rfl (lv_at hl 5 rfl) ?_
        refine va_get (D := (dC, dI)) (ci := 5) (v := .ref (a 1)) (C := RX6) (T := TX6) (N := 17) hx hb hu uX6 hown hK hI.1 0 rfl rfl 0 (by decide) (hu _ uww_213) (fun _ h9 => h9) rfl dX6_answerSix_239 ?_
        refine lv_iconst (v := (0 : Int32)) hx hb dX6_answerSix_242 (by decide) ?_
        refine lv_iload hx hb dX6_answerSix_243 (lv_at hl 0 rfl) ?_
        refine lv_bipush (v := (8 : Int32)) hx hb dX6_answerSix_245 (by decide) ?_
        refine lv_iadd hx hb dX6_answerSix_247 ?_
        refine lv_iload hx hb dX6_answerSix_248 (lv_at hl 4 rfl) ?_
        refine cpcallv_m hsz hI (va_runV (As := [.ref (a 1), .int (0 : Int32), .int (x14 + (8 : Int32)), .int x3]) (rest := []) ⟨hx, hb, hml, hown, hu⟩ (met_X4_copy_6_1 l dC dI a kA t _ M16 L (0 : Int32) (x14 + (8 : Int32)) x3 _ h) (cwl_X6_276_X4 hu ⟨by decide, by decide⟩) (cppre (ci := 3) hK hE hsz hI rfl rfl) rfl rfl hl.1 rfl (lv_room (Nat.le_of_ble_eq_true rfl)) dX6_answerSix_250 ⟨by decide, by decide⟩) (fun M17 H locs h hI => ?_)
        refine lv_aload hx hb dX6_answerSix_253 (lv_at hl 2 rfl) ?_
        refine lv_iload hx hb dX6_answerSix_255 (lv_at hl 1 rfl) ?_
        refine lv_bipush (v := (8 : Int32)) hx hb dX6_answerSix_257 (by decide) ?_
        refine lv_iadd hx hb dX6_answerSix_259 ?_
        refine lv_iload hx hb dX6_answerSix_260 (lv_at hl 0 rfl) ?_
        refine cpcalll_p hsz hI (va_runV (As := [.int (r5 + (8 : Int32)), .int x14]) (rest := []) ⟨hx, hb, hml, hown, hu⟩ (met_X4_sum_6 l dC dI a kA t _ M17 L (r5 + (8 : Int32)) x14 _ h) (cwl_X6_163_X4 hu ⟨by decide, by decide⟩) (cppre (ci := 3) hK hE hsz hI rfl rfl) rfl rfl hl.1 rfl (lv_room (Nat.le_of_ble_eq_true rfl)) dX6_answerSix_262 ⟨by decide, by decide⟩) (fun r18 H locs h hI => ?_)
        refine lv_iload hx hb dX6_answerSix_265 (lv_at hl 3 rfl) ?_
        refine lv_i2l hx hb dX6_answerSix_267 rfl ?_
        refine lv_ladd hx hb dX6_answerSix_268 ?_
        refine lv_ldc2 (own := RX6) (v := (58 : Int64)) hx hb hown (hu _ uww_342) dX6_answerSix_269 ?_
        refine lv_ladd hx hb dX6_answerSix_272 ?_
        refine lv_topl (fun x19 ex19 => ?_)
        have h := h x19 ex19
        refine lv_lstore (lv' := [(10, .long x19), (9, .int x14), (8, .int r5), (7, .ref (a 6)), (6, .int x4), (5, .int x3), (0, .ref (a 0)), (1, .ref (a 13)), (2, .int p2), (3, .int p3)]) hx hb dX6_answerSix_273 hl (by decide) rfl (fun ls hl => ?_)
        refine lv_aload hx hb dX6_answerSix_275 (lv_at hl 3 rfl) ?_
        refine lv_iload hx hb dX6_answerSix_277 (lv_at hl 1 rfl) ?_
        refine lv_iconst (v := (2 : Int32)) hx hb dX6_answerSix_279 (by decide) ?_
        refine lv_iadd hx hb dX6_answerSix_280 ?_
        refine lv_iconst (v := (2 : Int32)) hx hb dX6_answerSix_281 (by decide) ?_
        refine lv_lload hx hb dX6_answerSix_282 (lv_at hl 0 rfl) ?_
        refine lv_aload hx hb dX6_answerSix_284 (lv_at hl 3 rfl) ?_
        refine lv_iload hx hb dX6_answerSix_286 (lv_at hl 1 rfl) ?_
        refine lv_iload hx hb dX6_answerSix_288 (lv_at hl 1 rfl) ?_
        refine lv_iload hx hb dX6_answerSix_290 (lv_at hl 4 rfl) ?_
        refine lv_iadd hx hb dX6_answerSix_292 ?_
        refine cpcalll_p hsz hI (va_runV (As := [.int x14, .int (x14 + x4)]) (rest := [.long x19, .int (2 : Int32), .int (x14 + (2 : Int32)), .ref (a 6)]) ⟨hx, hb, hml, hown, hu⟩ (met_X4_sum_6 l dC dI a kA t _ M17 L x14 (x14 + x4) _ h) (cwl_X6_163_X4 hu ⟨by decide, by decide⟩) (cppre (ci := 3) hK hE hsz hI rfl rfl) rfl rfl hl.1 rfl (lv_room (Nat.le_of_ble_eq_true rfl)) dX6_answerSix_293 ⟨by decide, by decide⟩) (fun r20 H locs h hI => ?_)
        refine lv_ladd hx hb dX6_answerSix_296 ?_
        refine cpcalli_p hsz hI (va_runS (As := [.long (x19 + r20)]) (rest := [.int (2 : Int32), .int (x14 + (2 : Int32)), .ref (a 6)]) ⟨hx, hb, hml, hown, hu⟩ (met_X6_checksum l dC dI a kA t _ M17 L (x19 + r20) _ h) (cwl_X6_167_S hu ⟨by decide, by decide⟩) (cppreS hK hE hsz hI) rfl rfl hl.1 rfl (lv_room (Nat.le_of_ble_eq_true rfl)) dX6_answerSix_297 ⟨by decide, by decide⟩) (fun r21 H locs h hI => ?_)
        refine lv_i2l hx hb dX6_answerSix_300 rfl ?_
        refine cpcallv_m hsz hI (va_runV (As := [.int (x14 + (2 : Int32)), .int (2 : Int32), .long (r21.toInt64)]) (rest := []) ⟨hx, hb, hml, hown, hu⟩ (met_X4_put_6 l dC dI a kA t _ M17 L (x14 + (2 : Int32)) (2 : Int32) (r21.toInt64) _ h) (cwl_X6_99_X4 hu ⟨by decide, by decide⟩) (cppre (ci := 3) hK hE hsz hI rfl rfl) rfl rfl hl.1 rfl (lv_room (Nat.le_of_ble_eq_true rfl)) dX6_answerSix_301 ⟨by decide, by decide⟩) (fun M22 H locs h hI => ?_)
        refine lv_bipush (v := (10 : Int32)) hx hb dX6_answerSix_304 (by decide) ?_
        exact cpiret (Z := (fun r M' L' => L' = L ∧ Z r M')) hx hb hr hlocks hK hI dX6_answerSix_306 ⟨rfl, h⟩
      refine lv_icmp_ne (tgt := 55) hx hb dX6_answerSix_44 (by decide) (fun c23 => ?_) (fun c23 => ?_)
      · have h := h.1 c23
        exact J55  _ _ _ h hI (lv_sub hl [1, 2, 3, 4] rfl)
      · have h := h.2 c23
        refine lv_iload hx hb dX6_answerSix_47 (lv_at hl 0 rfl) ?_
        refine lv_if_ne (tgt := 55) hx hb dX6_answerSix_49 (by decide) (fun c24 => ?_) (fun c24 => ?_)
        · have h := h.1 c24
          exact J55  _ _ _ h hI (lv_sub hl [1, 2, 3, 4] rfl)
        · have h := h.2 c24
          refine lv_bipush (v := (9 : Int32)) hx hb dX6_answerSix_52 (by decide) ?_
          exact cpiret (Z := (fun r M' L' => L' = L ∧ Z r M')) hx hb hr hlocks hK hI dX6_answerSix_54 ⟨rfl, h⟩
  obtain ⟨K28, hK28, h⟩ := h
  have J28 : ∀  (H : Heap) (locs : List Loc) (ls : Array Slot), K28  → cpI dC dI a kA (cpA a sz) s M L H locs → lv_has ls 12 [(0, .ref (a 0)), (1, .ref (a 13)), (2, .int p2), (3, .int p3)] → W p l e rm_X6_answerSix_0_13 s m (av_X6_answerSix_0_13 a t p2 p3).toArray below meth c H locs 0 0 (MQ below (qc_X6_answerSix_0_13 dC dI a kA sz M L Z) (av_X6_answerSix_0_13 a t p2 p3).toArray s 0 0 (cpA a sz)) (F0 m 28 ls []) := by
    intro  H locs ls h hI hl
    have h := hK28  h
    refine lv_iconst (v := (0 : Int32)) hx hb dX6_answerSix_28 (by decide) ?_
    exact J29 (0 : Int32) _ _ _ h hI (lv_sub hl [0, 1, 2, 3] rfl)
  refine lv_if_le (tgt := 28) hx hb dX6_answerSix_4 (by decide) (fun c25 => ?_) (fun c25 => ?_)
  · have h := h.1 c25
    exact J28  _ _ _ h hI (lv_sub hl [0, 1, 2, 3] rfl)
  · have h := h.2 c25
    refine lv_aload_n hx hb dX6_answerSix_7 rfl (lv_at hl 0 rfl) ?_
    refine va_get (D := (dC, dI)) (ci := 5) (v := .ref (a 1)) (C := RX6) (T := TX6) (N := 17) hx hb hu uX6 hown hK hI.1 0 rfl rfl 0 (by decide) (hu _ uww_213) (fun _ h9 => h9) rfl dX6_answerSix_8 ?_
    refine lv_aload_n hx hb dX6_answerSix_11 rfl (lv_at hl 1 rfl) ?_
    refine va_get (D := (dC, dI)) (ci := 4) (v := .int (M 13 7)) (C := RX5) (T := TX5) (N := 16) hx hb hu uX5 hown hK hI.1 13 rfl rfl 7 (by decide) (hu _ uww_426) (u_same (hu _ uww_169)) rfl dX6_answerSix_12 ?_
    refine cpcalli_p hsz hI (va_runV (As := [.int (M 13 7)]) (rest := []) ⟨hx, hb, hml, hown, hu⟩ (met_X4_at_1 l dC dI a kA t _ M L (M 13 7) _ h) (cwl_X6_158_X4 hu ⟨by decide, by decide⟩) (cppre (ci := 3) hK hE hsz hI rfl rfl) rfl rfl hl.1 rfl (lv_room (Nat.le_of_ble_eq_true rfl)) dX6_answerSix_15 ⟨by decide, by decide⟩) (fun r26 H locs h hI => ?_)
    refine cpcalli_p hsz hI (va_runS (As := [.int r26]) (rest := []) ⟨hx, hb, hml, hown, hu⟩ (met_X6_isEchoSix l dC dI a kA t _ M L r26 _ h) (cwl_X6_430_S hu ⟨by decide, by decide⟩) (cppreS hK hE hsz hI) rfl rfl hl.1 rfl (lv_room (Nat.le_of_ble_eq_true rfl)) dX6_answerSix_18 ⟨by decide, by decide⟩) (fun r27 H locs h hI => ?_)
    refine lv_if_eq (tgt := 28) hx hb dX6_answerSix_21 (by decide) (fun c28 => ?_) (fun c28 => ?_)
    · have h := h.1 c28
      exact J28  _ _ _ h hI (lv_sub hl [0, 1, 2, 3] rfl)
    · have h := h.2 c28
      refine lv_iconst (v := (1 : Int32)) hx hb dX6_answerSix_24 (by decide) ?_
      refine lv_goto (tgt := 29) hx hb dX6_answerSix_25 (by decide) ?_
      exact J29 (1 : Int32) _ _ _ h hI (lv_sub hl [0, 1, 2, 3] rfl)

abbrev rm_X6_fixTransport_0_13 : Room := { frames := 2, cells := 0, slots := 0, locals := 49 }
abbrev av_X6_fixTransport_0_13 (a t : Nat → Nat) (p2 : Int32) (p3 : Int64) (p5 : Int32) (p6 : Int64) : List Value := [.ref (a 0), .ref (a 13), .int p2, .long p3, .int p5, .long p6]
abbrev qc_X6_fixTransport_0_13 (dC : Nat → ClassId) (dI : Nat → Nat → Nat) (a : Nat → Nat) (kA : Nat → ClassId) (sz : Nat) (M : cM) (L : cL) (Z : cM → Prop) : Array Value → State → Outcome → State → Prop := va_Qv (fun (u : cM × cL) => u.2 = L ∧ Z u.1) (cpAt dC dI a kA (cpA a sz)) (cpA a sz)
set_option maxHeartbeats 4000000 in
set_option maxRecDepth 100000 in
theorem met_X6_fixTransport_0_13 (l : Launch) (dC : Nat → ClassId) (dI : Nat → Nat → Nat) (a : Nat → Nat) (kA : Nat → ClassId) (t : Nat → Nat) (sz : Nat) (M : cM) (L : cL) (p2 : Int32) (p3 : Int64) (p5 : Int32) (p6 : Int64) (Z : cM → Prop) (h : wp_X6_fixTransport_0_13 M L p2 p3 p5 p6 Z) : Met l yX6_fixTransport (Cond.code yX6_fixTransport cX6_fixTransport 12 none :: uW) rm_X6_fixTransport_0_13 (va_Pc (av_X6_fixTransport_0_13 a t p2 p3 p5 p6) (cpPre dC dI a kA t M L sz)) (qc_X6_fixTransport_0_13 dC dI a kA sz M L Z) 0 0 (cpA a sz) := by
  refine cpenter (cc := cX6_fixTransport) (n := 12) (ret := none) (by decide) rfl (Nat.le_of_ble_eq_true rfl) ?_
  intro p e s m below meth c ls hx hb hml hr hlocks hown hts hK hE hsz hI hl hmn
  have hu : ∀ w ∈ uW, w.before (av_X6_fixTransport_0_13 a t p2 p3 p5 p6).toArray s = true := fun w h => hts w (List.mem_cons_of_mem _ h)
  have hown : s.vm.findClass RX6 = some m.cls := hown
  have hl : lv_has ls 12 [(0, .ref (a 0)), (1, .ref (a 13)), (2, .int p2), (3, .long p3), (5, .int p5), (6, .long p6)] := hl
  unfold wp_X6_fixTransport_0_13 at h
  refine lv_aload_n hx hb dX6_fixTransport_0 rfl (lv_at hl 1 rfl) ?_
  refine va_get (D := (dC, dI)) (ci := 4) (v := .int (M 13 3)) (C := RX5) (T := TX5) (N := 16) hx hb hu uX5 hown hK hI.1 13 rfl rfl 3 (by decide) (hu _ uww_321) (fun _ h9 => h9) rfl dX6_fixTransport_1 ?_
  refine lv_bipush (v := (17 : Int32)) hx hb dX6_fixTransport_4 (by decide) ?_
  obtain ⟨K16, hK16, h⟩ := h
  have J16 : ∀ (v1 : Int32) (H : Heap) (locs : List Loc) (ls : Array Slot), K16 v1 → cpI dC dI a kA (cpA a sz) s M L H locs → lv_has ls 12 [(0, .ref (a 0)), (1, .ref (a 13)), (2, .int p2), (3, .long p3), (5, .int p5), (6, .long p6)] → W p l e rm_X6_fixTransport_0_13 s m (av_X6_fixTransport_0_13 a t p2 p3 p5 p6).toArray below meth c H locs 0 0 (MQ below (qc_X6_fixTransport_0_13 dC dI a kA sz M L Z) (av_X6_fixTransport_0_13 a t p2 p3 p5 p6).toArray s 0 0 (cpA a sz)) (F0 m 16 ls [.int v1]) := by
    intro v1 H locs ls h hI hl
    have h := hK16 v1 h
    refine lv_istore (lv' := [(8, .int v1), (0, .ref (a 0)), (1, .ref (a 13)), (2, .int p2), (3, .long p3), (5, .int p5), (6, .long p6)]) hx hb dX6_fixTransport_16 hl (by decide) rfl (fun ls hl => ?_)
    refine lv_aload_n hx hb dX6_fixTransport_18 rfl (lv_at hl 2 rfl) ?_
    refine va_get (D := (dC, dI)) (ci := 4) (v := .int (M 13 3)) (C := RX5) (T := TX5) (N := 16) hx hb hu uX5 hown hK hI.1 13 rfl rfl 3 (by decide) (hu _ uww_321) (fun _ h9 => h9) rfl dX6_fixTransport_19 ?_
    refine lv_bipush (v := (17 : Int32)) hx hb dX6_fixTransport_22 (by decide) ?_
    obtain ⟨K41, hK41, h⟩ := h
    have J41 : ∀ (v2 : Int32) (H : Heap) (locs : List Loc) (ls : Array Slot), K41 v2 → cpI dC dI a kA (cpA a sz) s M L H locs → lv_has ls 12 [(0, .ref (a 0)), (1, .ref (a 13)), (2, .int p2), (3, .long p3), (5, .int p5), (6, .long p6), (8, .int v1)] → W p l e rm_X6_fixTransport_0_13 s m (av_X6_fixTransport_0_13 a t p2 p3 p5 p6).toArray below meth c H locs 0 0 (MQ below (qc_X6_fixTransport_0_13 dC dI a kA sz M L Z) (av_X6_fixTransport_0_13 a t p2 p3 p5 p6).toArray s 0 0 (cpA a sz)) (F0 m 41 ls [.int v2]) := by
      intro v2 H locs ls h hI hl
      have h := hK41 v2 h
      refine lv_istore (lv' := [(9, .int v2), (0, .ref (a 0)), (1, .ref (a 13)), (2, .int p2), (3, .long p3), (5, .int p5), (6, .long p6), (8, .int v1)]) hx hb dX6_fixTransport_41 hl (by decide) rfl (fun ls hl => ?_)
      refine lv_iload hx hb dX6_fixTransport_43 (lv_at hl 0 rfl) ?_
      refine lv_if_eq (tgt := 66) hx hb dX6_fixTransport_45 (by decide) (fun c3 => ?_) (fun c3 => ?_)
      · have h := h.1 c3
        exact cpvret (Z := (fun M' L' => L' = L ∧ Z M')) hx hb hr hlocks hK hI dX6_fixTransport_66 ⟨rfl, h⟩
      · have h := h.2 c3
        refine lv_aload_n hx hb dX6_fixTransport_48 rfl (lv_at hl 2 rfl) ?_
        refine va_get (D := (dC, dI)) (ci := 4) (v := .int (M 13 6)) (C := RX5) (T := TX5) (N := 16) hx hb hu uX5 hown hK hI.1 13 rfl rfl 6 (by decide) (hu _ uww_322) (fun _ h9 => h9) rfl dX6_fixTransport_49 ?_
        refine lv_if_ne (tgt := 66) hx hb dX6_fixTransport_52 (by decide) (fun c4 => ?_) (fun c4 => ?_)
        · have h := h.1 c4
          exact cpvret (Z := (fun M' L' => L' = L ∧ Z M')) hx hb hr hlocks hK hI dX6_fixTransport_66 ⟨rfl, h⟩
        · have h := h.2 c4
          refine lv_aload_n hx hb dX6_fixTransport_55 rfl (lv_at hl 2 rfl) ?_
          refine va_get (D := (dC, dI)) (ci := 4) (v := .int (M 13 9)) (C := RX5) (T := TX5) (N := 16) hx hb hu uX5 hown hK hI.1 13 rfl rfl 9 (by decide) (hu _ uww_400) (fun _ h9 => h9) rfl dX6_fixTransport_56 ?_
          refine lv_iload hx hb dX6_fixTransport_59 (lv_at hl 7 rfl) ?_
          refine lv_iconst (v := (2 : Int32)) hx hb dX6_fixTransport_61 (by decide) ?_
          refine lv_iadd hx hb dX6_fixTransport_62 ?_
          refine lv_icmp_ge (tgt := 67) hx hb dX6_fixTransport_63 (by decide) (fun c5 => ?_) (fun c5 => ?_)
          · have h := h.1 c5
            refine lv_aload_n hx hb dX6_fixTransport_67 rfl (lv_at hl 1 rfl) ?_
            refine va_get (D := (dC, dI)) (ci := 5) (v := .ref (a 3)) (C := RX6) (T := TX6) (N := 17) hx hb hu uX6 hown hK hI.1 0 rfl rfl 1 (by decide) (hu _ uww_214) (fun _ h9 => h9) rfl dX6_fixTransport_68 ?_
            refine lv_iload_n hx hb dX6_fixTransport_71 rfl (lv_at hl 3 rfl) ?_
            refine lv_iload hx hb dX6_fixTransport_72 (lv_at hl 7 rfl) ?_
            refine lv_iadd hx hb dX6_fixTransport_74 ?_
            refine cpcalli_p hsz hI (va_runV (As := [.int (p2 + v1)]) (rest := []) ⟨hx, hb, hml, hown, hu⟩ (met_X4_word_3 l dC dI a kA t _ M L (p2 + v1) _ h) (cwl_X6_272_X4 hu ⟨by decide, by decide⟩) (cppre (ci := 3) hK hE hsz hI rfl rfl) rfl rfl hl.1 rfl (lv_room (Nat.le_of_ble_eq_true rfl)) dX6_fixTransport_75 ⟨by decide, by decide⟩) (fun r6 H locs h hI => ?_)
            refine lv_istore (lv' := [(10, .int r6), (9, .int v2), (0, .ref (a 0)), (1, .ref (a 13)), (2, .int p2), (3, .long p3), (5, .int p5), (6, .long p6), (8, .int v1)]) hx hb dX6_fixTransport_78 hl (by decide) rfl (fun ls hl => ?_)
            refine lv_aload_n hx hb dX6_fixTransport_80 rfl (lv_at hl 3 rfl) ?_
            refine va_get (D := (dC, dI)) (ci := 4) (v := .int (M 13 3)) (C := RX5) (T := TX5) (N := 16) hx hb hu uX5 hown hK hI.1 13 rfl rfl 3 (by decide) (hu _ uww_321) (fun _ h9 => h9) rfl dX6_fixTransport_81 ?_
            refine lv_bipush (v := (6 : Int32)) hx hb dX6_fixTransport_84 (by decide) ?_
            refine lv_icmp_ne (tgt := 115) hx hb dX6_fixTransport_86 (by decide) (fun c7 => ?_) (fun c7 => ?_)
            · have h := h.1 c7
              refine lv_iload hx hb dX6_fixTransport_115 (lv_at hl 0 rfl) ?_
              refine lv_if_eq (tgt := 158) hx hb dX6_fixTransport_117 (by decide) (fun c8 => ?_) (fun c8 => ?_)
              · have h := h.1 c8
                exact cpvret (Z := (fun M' L' => L' = L ∧ Z M')) hx hb hr hlocks hK hI dX6_fixTransport_158 ⟨rfl, h⟩
              · have h := h.2 c8
                refine lv_iload hx hb dX6_fixTransport_120 (lv_at hl 0 rfl) ?_
                refine lv_lload_n hx hb dX6_fixTransport_122 rfl (lv_at hl 5 rfl) ?_
                refine lv_iload hx hb dX6_fixTransport_123 (lv_at hl 6 rfl) ?_
                refine lv_lload hx hb dX6_fixTransport_125 (lv_at hl 7 rfl) ?_
                refine cpcalli_p hsz hI (va_runS (As := [.int r6, .long p3, .int p5, .long p6]) (rest := []) ⟨hx, hb, hml, hown, hu⟩ (met_X6_adjusted l dC dI a kA t _ M L r6 p3 p5 p6 _ h) (cwl_X6_291_S hu ⟨by decide, by decide⟩) (cppreS hK hE hsz hI) rfl rfl hl.1 rfl (lv_room (Nat.le_of_ble_eq_true rfl)) dX6_fixTransport_127 ⟨by decide, by decide⟩) (fun r9 H locs h hI => ?_)
                refine lv_istore (lv' := [(11, .int r9), (10, .int r6), (9, .int v2), (0, .ref (a 0)), (1, .ref (a 13)), (2, .int p2), (3, .long p3), (5, .int p5), (6, .long p6), (8, .int v1)]) hx hb dX6_fixTransport_130 hl (by decide) rfl (fun ls hl => ?_)
                refine lv_aload_n hx hb dX6_fixTransport_132 rfl (lv_at hl 3 rfl) ?_
                refine va_get (D := (dC, dI)) (ci := 5) (v := .ref (a 3)) (C := RX6) (T := TX6) (N := 17) hx hb hu uX6 hown hK hI.1 0 rfl rfl 1 (by decide) (hu _ uww_214) (fun _ h9 => h9) rfl dX6_fixTransport_133 ?_
                refine lv_iload_n hx hb dX6_fixTransport_136 rfl (lv_at hl 5 rfl) ?_
                refine lv_iload hx hb dX6_fixTransport_137 (lv_at hl 9 rfl) ?_
                refine lv_iadd hx hb dX6_fixTransport_139 ?_
                refine lv_iconst (v := (2 : Int32)) hx hb dX6_fixTransport_140 (by decide) ?_
                refine lv_iload hx hb dX6_fixTransport_141 (lv_at hl 0 rfl) ?_
                obtain ⟨K155, hK155, h⟩ := h
                have J155 : ∀ (v10 : Int64) (H : Heap) (locs : List Loc) (ls : Array Slot), K155 v10 → cpI dC dI a kA (cpA a sz) s M L H locs → lv_has ls 12 [] → W p l e rm_X6_fixTransport_0_13 s m (av_X6_fixTransport_0_13 a t p2 p3 p5 p6).toArray below meth c H locs 0 0 (MQ below (qc_X6_fixTransport_0_13 dC dI a kA sz M L Z) (av_X6_fixTransport_0_13 a t p2 p3 p5 p6).toArray s 0 0 (cpA a sz)) (F0 m 155 ls [.long v10, .int (2 : Int32), .int (p2 + v1), .ref (a 3)]) := by
                  intro v10 H locs ls h hI hl
                  have h := hK155 v10 h
                  refine cpcallv_m hsz hI (va_runV (As := [.int (p2 + v1), .int (2 : Int32), .long v10]) (rest := []) ⟨hx, hb, hml, hown, hu⟩ (met_X4_put_3 l dC dI a kA t _ M L (p2 + v1) (2 : Int32) v10 _ h) (cwl_X6_99_X4 hu ⟨by decide, by decide⟩) (cppre (ci := 3) hK hE hsz hI rfl rfl) rfl rfl hl.1 rfl (lv_room (Nat.le_of_ble_eq_true rfl)) dX6_fixTransport_155 ⟨by decide, by decide⟩) (fun M11 H locs h hI => ?_)
                  exact cpvret (Z := (fun M' L' => L' = L ∧ Z M')) hx hb hr hlocks hK hI dX6_fixTransport_158 ⟨rfl, h⟩
                refine lv_if_ne (tgt := 152) hx hb dX6_fixTransport_143 (by decide) (fun c12 => ?_) (fun c12 => ?_)
                · have h := h.1 c12
                  refine lv_iload hx hb dX6_fixTransport_152 (lv_at hl 0 rfl) ?_
                  refine lv_i2l hx hb dX6_fixTransport_154 rfl ?_
                  exact J155 (r9.toInt64) _ _ _ h hI (lv_sub hl [] rfl)
                · have h := h.2 c12
                  refine lv_ldc2 (own := RX6) (v := (65535 : Int64)) hx hb hown (hu _ uww_69) dX6_fixTransport_146 ?_
                  refine lv_goto (tgt := 155) hx hb dX6_fixTransport_149 (by decide) ?_
                  exact J155 (65535 : Int64) _ _ _ h hI (lv_sub hl [] rfl)
            · have h := h.2 c7
              refine lv_aload_n hx hb dX6_fixTransport_89 rfl (lv_at hl 2 rfl) ?_
              refine va_get (D := (dC, dI)) (ci := 5) (v := .ref (a 3)) (C := RX6) (T := TX6) (N := 17) hx hb hu uX6 hown hK hI.1 0 rfl rfl 1 (by decide) (hu _ uww_214) (fun _ h9 => h9) rfl dX6_fixTransport_90 ?_
              refine lv_iload_n hx hb dX6_fixTransport_93 rfl (lv_at hl 4 rfl) ?_
              refine lv_iload hx hb dX6_fixTransport_94 (lv_at hl 8 rfl) ?_
              refine lv_iadd hx hb dX6_fixTransport_96 ?_
              refine lv_iconst (v := (2 : Int32)) hx hb dX6_fixTransport_97 (by decide) ?_
              refine lv_iload hx hb dX6_fixTransport_98 (lv_at hl 0 rfl) ?_
              refine lv_lload_n hx hb dX6_fixTransport_100 rfl (lv_at hl 5 rfl) ?_
              refine lv_iload hx hb dX6_fixTransport_101 (lv_at hl 6 rfl) ?_
              refine lv_lload hx hb dX6_fixTransport_103 (lv_at hl 7 rfl) ?_
              refine cpcalli_p hsz hI (va_runS (As := [.int r6, .long p3, .int p5, .long p6]) (rest := [.int (2 : Int32), .int (p2 + v1), .ref (a 3)]) ⟨hx, hb, hml, hown, hu⟩ (met_X6_adjusted l dC dI a kA t _ M L r6 p3 p5 p6 _ h) (cwl_X6_291_S hu ⟨by decide, by decide⟩) (cppreS hK hE hsz hI) rfl rfl hl.1 rfl (lv_room (Nat.le_of_ble_eq_true rfl)) dX6_fixTransport_105 ⟨by decide, by decide⟩) (fun r13 H locs h hI => ?_)
              refine lv_i2l hx hb dX6_fixTransport_108 rfl ?_
              refine cpcallv_m hsz hI (va_runV (As := [.int (p2 + v1), .int (2 : Int32), .long (r13.toInt64)]) (rest := []) ⟨hx, hb, hml, hown, hu⟩ (met_X4_put_3 l dC dI a kA t _ M L (p2 + v1) (2 : Int32) (r13.toInt64) _ h) (cwl_X6_99_X4 hu ⟨by decide, by decide⟩) (cppre (ci := 3) hK hE hsz hI rfl rfl) rfl rfl hl.1 rfl (lv_room (Nat.le_of_ble_eq_true rfl)) dX6_fixTransport_109 ⟨by decide, by decide⟩) (fun M14 H locs h hI => ?_)
              refine lv_goto (tgt := 158) hx hb dX6_fixTransport_112 (by decide) ?_
              exact cpvret (Z := (fun M' L' => L' = L ∧ Z M')) hx hb hr hlocks hK hI dX6_fixTransport_158 ⟨rfl, h⟩
          · have h := h.2 c5
            exact cpvret (Z := (fun M' L' => L' = L ∧ Z M')) hx hb hr hlocks hK hI dX6_fixTransport_66 ⟨rfl, h⟩
    obtain ⟨K36, hK36, h⟩ := h
    have J36 : ∀  (H : Heap) (locs : List Loc) (ls : Array Slot), K36  → cpI dC dI a kA (cpA a sz) s M L H locs → lv_has ls 12 [(0, .ref (a 0)), (1, .ref (a 13)), (2, .int p2), (3, .long p3), (5, .int p5), (6, .long p6), (8, .int v1)] → W p l e rm_X6_fixTransport_0_13 s m (av_X6_fixTransport_0_13 a t p2 p3 p5 p6).toArray below meth c H locs 0 0 (MQ below (qc_X6_fixTransport_0_13 dC dI a kA sz M L Z) (av_X6_fixTransport_0_13 a t p2 p3 p5 p6).toArray s 0 0 (cpA a sz)) (F0 m 36 ls []) := by
      intro  H locs ls h hI hl
      have h := hK36  h
      refine lv_iconst (v := (1 : Int32)) hx hb dX6_fixTransport_36 (by decide) ?_
      refine lv_goto (tgt := 41) hx hb dX6_fixTransport_37 (by decide) ?_
      exact J41 (1 : Int32) _ _ _ h hI (lv_sub hl [0, 1, 2, 3, 4, 5, 6] rfl)
    refine lv_icmp_eq (tgt := 36) hx hb dX6_fixTransport_24 (by decide) (fun c15 => ?_) (fun c15 => ?_)
    · have h := h.1 c15
      exact J36  _ _ _ h hI (lv_sub hl [1, 2, 3, 4, 5, 6, 0] rfl)
    · have h := h.2 c15
      refine lv_aload_n hx hb dX6_fixTransport_27 rfl (lv_at hl 2 rfl) ?_
      refine va_get (D := (dC, dI)) (ci := 4) (v := .int (M 13 3)) (C := RX5) (T := TX5) (N := 16) hx hb hu uX5 hown hK hI.1 13 rfl rfl 3 (by decide) (hu _ uww_321) (fun _ h9 => h9) rfl dX6_fixTransport_28 ?_
      refine lv_bipush (v := (6 : Int32)) hx hb dX6_fixTransport_31 (by decide) ?_
      refine lv_icmp_ne (tgt := 40) hx hb dX6_fixTransport_33 (by decide) (fun c16 => ?_) (fun c16 => ?_)
      · have h := h.1 c16
        refine lv_iconst (v := (0 : Int32)) hx hb dX6_fixTransport_40 (by decide) ?_
        exact J41 (0 : Int32) _ _ _ h hI (lv_sub hl [1, 2, 3, 4, 5, 6, 0] rfl)
      · have h := h.2 c16
        exact J36  _ _ _ h hI (lv_sub hl [1, 2, 3, 4, 5, 6, 0] rfl)
  refine lv_icmp_ne (tgt := 14) hx hb dX6_fixTransport_6 (by decide) (fun c17 => ?_) (fun c17 => ?_)
  · have h := h.1 c17
    refine lv_bipush (v := (16 : Int32)) hx hb dX6_fixTransport_14 (by decide) ?_
    exact J16 (16 : Int32) _ _ _ h hI (lv_sub hl [0, 1, 2, 3, 4, 5] rfl)
  · have h := h.2 c17
    refine lv_bipush (v := (6 : Int32)) hx hb dX6_fixTransport_9 (by decide) ?_
    refine lv_goto (tgt := 16) hx hb dX6_fixTransport_11 (by decide) ?_
    exact J16 (6 : Int32) _ _ _ h hI (lv_sub hl [0, 1, 2, 3, 4, 5] rfl)
