abbrev rm_X6_faultOfFour_0_11 : Room := { frames := 2, cells := 0, slots := 0, locals := 45 }
abbrev av_X6_faultOfFour_0_11 (a t : Nat → Nat)  : List Value := [.ref (a 0), .ref (a 11)]
abbrev qc_X6_faultOfFour_0_11 (dC : Nat → ClassId) (dI : Nat → Nat → Nat) (a : Nat → Nat) (kA : Nat → ClassId) (sz : Nat) (M : cM) (L : cL) (Z : Int32 → Prop) : Array Value → State → Outcome → State → Prop := va_Qi (fun r (u : cM × cL) => u.1 = M ∧ u.2 = L ∧ Z r) (cpAt dC dI a kA (cpA a sz)) (cpA a sz)
set_option maxHeartbeats 4000000 in
set_option maxRecDepth 100000 in
theorem met_X6_faultOfFour_0_11 (l : Launch) (dC : Nat → ClassId) (dI : Nat → Nat → Nat) (a : Nat → Nat) (kA : Nat → ClassId) (t : Nat → Nat) (sz : Nat) (M : cM) (L : cL)  (Z : Int32 → Prop) (h : wp_X6_faultOfFour_0_11 M L  Z) : Met l yX6_faultOfFour (Cond.code yX6_faultOfFour cX6_faultOfFour 4 (some .int) :: uW) rm_X6_faultOfFour_0_11 (va_Pc (av_X6_faultOfFour_0_11 a t ) (cpPre dC dI a kA t M L sz)) (qc_X6_faultOfFour_0_11 dC dI a kA sz M L Z) 0 0 (cpA a sz) := by
  refine cpenter (cc := cX6_faultOfFour) (n := 4) (ret := (some .int)) (by decide) rfl (Nat.le_of_ble_eq_true rfl) ?_
  intro p e s m below meth c ls hx hb hml hr hlocks hown hts hK hE hsz hI hl hmn
  have hu : ∀ w ∈ uW, w.before (av_X6_faultOfFour_0_11 a t ).toArray s = true := fun w h => hts w (List.mem_cons_of_mem _ h)
  have hown : s.vm.findClass RX6 = some m.cls := hown
  have hl : lv_has ls 4 [(0, .ref (a 0)), (1, .ref (a 11))] := hl
  unfold wp_X6_faultOfFour_0_11 at h
  refine lv_aload_n hx hb dX6_faultOfFour_0 rfl (lv_at hl 1 rfl) ?_
  refine va_get (D := (dC, dI)) (ci := 0) (v := .int (M 11 3)) (C := RX0) (T := TX0) (N := 18) hx hb hu uX0 hown hK hI.1 11 rfl rfl 3 (by decide) (hu _ uww_274) (u_same (hu _ uww_30)) rfl dX6_faultOfFour_1 ?_
  refine cpcalli_p hsz hI (va_runS (As := [.int (M 11 3)]) (rest := []) ⟨hx, hb, hml, hown, hu⟩ (met_X6_neverFromFour l dC dI a kA t _ M L (M 11 3) _ h) (cwl_X6_243_S hu ⟨by decide, by decide⟩) (cppreS hK hE hsz hI) rfl rfl hl.1 rfl (lv_room (Nat.le_of_ble_eq_true rfl)) dX6_faultOfFour_4 ⟨by decide, by decide⟩) (fun r1 H locs h hI => ?_)
  refine lv_if_eq (tgt := 13) hx hb dX6_faultOfFour_7 (by decide) (fun c2 => ?_) (fun c2 => ?_)
  · have h := h.1 c2
    refine lv_aload_n hx hb dX6_faultOfFour_13 rfl (lv_at hl 1 rfl) ?_
    refine va_get (D := (dC, dI)) (ci := 0) (v := .int (M 11 3)) (C := RX0) (T := TX0) (N := 18) hx hb hu uX0 hown hK hI.1 11 rfl rfl 3 (by decide) (hu _ uww_274) (u_same (hu _ uww_30)) rfl dX6_faultOfFour_14 ?_
    refine lv_iconst (v := (1 : Int32)) hx hb dX6_faultOfFour_17 (by decide) ?_
    obtain ⟨K30, hK30, h⟩ := h
    have J30 : ∀  (H : Heap) (locs : List Loc) (ls : Array Slot), K30  → cpI dC dI a kA (cpA a sz) s M L H locs → lv_has ls 4 [(0, .ref (a 0)), (1, .ref (a 11))] → W p l e rm_X6_faultOfFour_0_11 s m (av_X6_faultOfFour_0_11 a t ).toArray below meth c H locs 0 0 (MQ below (qc_X6_faultOfFour_0_11 dC dI a kA sz M L Z) (av_X6_faultOfFour_0_11 a t ).toArray s 0 0 (cpA a sz)) (F0 m 30 ls []) := by
      intro  H locs ls h hI hl
      have h := hK30  h
      refine lv_aload_n hx hb dX6_faultOfFour_30 rfl (lv_at hl 0 rfl) ?_
      refine lv_aload_n hx hb dX6_faultOfFour_31 rfl (lv_at hl 1 rfl) ?_
      refine lv_aload_n hx hb dX6_faultOfFour_32 rfl (lv_at hl 0 rfl) ?_
      refine va_get (D := (dC, dI)) (ci := 5) (v := .int (M 0 15)) (C := RX6) (T := TX6) (N := 17) hx hb hu uX6 hown hK hI.1 0 rfl rfl 15 (by decide) (hu _ uww_239) (fun _ h9 => h9) rfl dX6_faultOfFour_33 ?_
      obtain ⟨K51, hK51, h⟩ := h
      have J51 : ∀ (v3 : Int32) (H : Heap) (locs : List Loc) (ls : Array Slot), K51 v3 → cpI dC dI a kA (cpA a sz) s M L H locs → lv_has ls 4 [(0, .ref (a 0)), (1, .ref (a 11))] → W p l e rm_X6_faultOfFour_0_11 s m (av_X6_faultOfFour_0_11 a t ).toArray below meth c H locs 0 0 (MQ below (qc_X6_faultOfFour_0_11 dC dI a kA sz M L Z) (av_X6_faultOfFour_0_11 a t ).toArray s 0 0 (cpA a sz)) (F0 m 51 ls [.int v3, .ref (a 11), .ref (a 0)]) := by
        intro v3 H locs ls h hI hl
        have h := hK51 v3 h
        refine cpcalli_p hsz hI (va_runV (As := [.ref (a 11), .int v3]) (rest := []) ⟨hx, hb, hml, hown, hu⟩ (met_X6_faultOfTransport_0_11 l dC dI a kA t _ M L v3 _ h) (cwl_X6_253_X6 hu ⟨by decide, by decide⟩) (cppre (ci := 5) hK hE hsz hI rfl rfl) rfl rfl hl.1 rfl (lv_room (Nat.le_of_ble_eq_true rfl)) dX6_faultOfFour_51 ⟨by decide, by decide⟩) (fun r4 H locs h hI => ?_)
        refine lv_istore_n (lv' := [(2, .int r4), (0, .ref (a 0)), (1, .ref (a 11))]) hx hb dX6_faultOfFour_54 rfl hl (by decide) rfl (fun ls hl => ?_)
        refine lv_iload_n hx hb dX6_faultOfFour_55 rfl (lv_at hl 0 rfl) ?_
        refine lv_if_ne (tgt := 67) hx hb dX6_faultOfFour_56 (by decide) (fun c5 => ?_) (fun c5 => ?_)
        · have h := h.1 c5
          refine lv_iload_n hx hb dX6_faultOfFour_67 rfl (lv_at hl 0 rfl) ?_
          exact cpiret (Z := (fun r M' L' => M' = M ∧ L' = L ∧ Z r)) hx hb hr hlocks hK hI dX6_faultOfFour_68 ⟨rfl, rfl, h⟩
        · have h := h.2 c5
          refine lv_aload_n hx hb dX6_faultOfFour_59 rfl (lv_at hl 2 rfl) ?_
          refine va_get (D := (dC, dI)) (ci := 0) (v := .int (M 11 3)) (C := RX0) (T := TX0) (N := 18) hx hb hu uX0 hown hK hI.1 11 rfl rfl 3 (by decide) (hu _ uww_274) (u_same (hu _ uww_30)) rfl dX6_faultOfFour_60 ?_
          refine lv_iconst (v := (1 : Int32)) hx hb dX6_faultOfFour_63 (by decide) ?_
          refine lv_icmp_eq (tgt := 69) hx hb dX6_faultOfFour_64 (by decide) (fun c6 => ?_) (fun c6 => ?_)
          · have h := h.1 c6
            refine lv_aload_n hx hb dX6_faultOfFour_69 rfl (lv_at hl 1 rfl) ?_
            refine va_get (D := (dC, dI)) (ci := 5) (v := .ref (a 1)) (C := RX6) (T := TX6) (N := 17) hx hb hu uX6 hown hK hI.1 0 rfl rfl 0 (by decide) (hu _ uww_213) (fun _ h9 => h9) rfl dX6_faultOfFour_70 ?_
            refine lv_aload_n hx hb dX6_faultOfFour_73 rfl (lv_at hl 2 rfl) ?_
            refine va_get (D := (dC, dI)) (ci := 0) (v := .int (M 11 7)) (C := RX0) (T := TX0) (N := 18) hx hb hu uX0 hown hK hI.1 11 rfl rfl 7 (by decide) (hu _ uww_275) (u_same (hu _ uww_38)) rfl dX6_faultOfFour_74 ?_
            refine cpcalli_p hsz hI (va_runV (As := [.int (M 11 7)]) (rest := []) ⟨hx, hb, hml, hown, hu⟩ (met_X4_at_1 l dC dI a kA t _ M L (M 11 7) _ h) (cwl_X6_158_X4 hu ⟨by decide, by decide⟩) (cppre (ci := 3) hK hE hsz hI rfl rfl) rfl rfl hl.1 rfl (lv_room (Nat.le_of_ble_eq_true rfl)) dX6_faultOfFour_77 ⟨by decide, by decide⟩) (fun r7 H locs h hI => ?_)
            refine lv_istore_n (lv' := [(3, .int r7), (2, .int r4), (0, .ref (a 0)), (1, .ref (a 11))]) hx hb dX6_faultOfFour_80 rfl hl (by decide) rfl (fun ls hl => ?_)
            refine lv_iload_n hx hb dX6_faultOfFour_81 rfl (lv_at hl 0 rfl) ?_
            refine cpcalli_p hsz hI (va_runS (As := [.int r7]) (rest := []) ⟨hx, hb, hml, hown, hu⟩ (met_X6_isEchoFour l dC dI a kA t _ M L r7 _ h) (cwl_X6_257_S hu ⟨by decide, by decide⟩) (cppreS hK hE hsz hI) rfl rfl hl.1 rfl (lv_room (Nat.le_of_ble_eq_true rfl)) dX6_faultOfFour_82 ⟨by decide, by decide⟩) (fun r8 H locs h hI => ?_)
            refine lv_if_ne (tgt := 95) hx hb dX6_faultOfFour_85 (by decide) (fun c9 => ?_) (fun c9 => ?_)
            · have h := h.1 c9
              refine lv_iconst (v := (0 : Int32)) hx hb dX6_faultOfFour_95 (by decide) ?_
              refine lv_goto (tgt := 101) hx hb dX6_faultOfFour_96 (by decide) ?_
              exact cpiret (Z := (fun r M' L' => M' = M ∧ L' = L ∧ Z r)) hx hb hr hlocks hK hI dX6_faultOfFour_101 ⟨rfl, rfl, h⟩
            · have h := h.2 c9
              refine lv_iload_n hx hb dX6_faultOfFour_88 rfl (lv_at hl 0 rfl) ?_
              refine cpcalli_p hsz hI (va_runS (As := [.int r7]) (rest := []) ⟨hx, hb, hml, hown, hu⟩ (met_X6_isErrorFour l dC dI a kA t _ M L r7 _ h) (cwl_X6_222_S hu ⟨by decide, by decide⟩) (cppreS hK hE hsz hI) rfl rfl hl.1 rfl (lv_room (Nat.le_of_ble_eq_true rfl)) dX6_faultOfFour_89 ⟨by decide, by decide⟩) (fun r10 H locs h hI => ?_)
              refine lv_if_eq (tgt := 99) hx hb dX6_faultOfFour_92 (by decide) (fun c11 => ?_) (fun c11 => ?_)
              · have h := h.1 c11
                refine lv_bipush (v := (6 : Int32)) hx hb dX6_faultOfFour_99 (by decide) ?_
                exact cpiret (Z := (fun r M' L' => M' = M ∧ L' = L ∧ Z r)) hx hb hr hlocks hK hI dX6_faultOfFour_101 ⟨rfl, rfl, h⟩
              · have h := h.2 c11
                refine lv_iconst (v := (0 : Int32)) hx hb dX6_faultOfFour_95 (by decide) ?_
                refine lv_goto (tgt := 101) hx hb dX6_faultOfFour_96 (by decide) ?_
                exact cpiret (Z := (fun r M' L' => M' = M ∧ L' = L ∧ Z r)) hx hb hr hlocks hK hI dX6_faultOfFour_101 ⟨rfl, rfl, h⟩
          · have h := h.2 c6
            refine lv_iload_n hx hb dX6_faultOfFour_67 rfl (lv_at hl 0 rfl) ?_
            exact cpiret (Z := (fun r M' L' => M' = M ∧ L' = L ∧ Z r)) hx hb hr hlocks hK hI dX6_faultOfFour_68 ⟨rfl, rfl, h⟩
      obtain ⟨K50, hK50, h⟩ := h
      have J50 : ∀  (H : Heap) (locs : List Loc) (ls : Array Slot), K50  → cpI dC dI a kA (cpA a sz) s M L H locs → lv_has ls 4 [(0, .ref (a 0)), (1, .ref (a 11))] → W p l e rm_X6_faultOfFour_0_11 s m (av_X6_faultOfFour_0_11 a t ).toArray below meth c H locs 0 0 (MQ below (qc_X6_faultOfFour_0_11 dC dI a kA sz M L Z) (av_X6_faultOfFour_0_11 a t ).toArray s 0 0 (cpA a sz)) (F0 m 50 ls [.ref (a 11), .ref (a 0)]) := by
        intro  H locs ls h hI hl
        have h := hK50  h
        refine lv_iconst (v := (0 : Int32)) hx hb dX6_faultOfFour_50 (by decide) ?_
        exact J51 (0 : Int32) _ _ _ h hI (lv_sub hl [0, 1] rfl)
      refine lv_if_eq (tgt := 50) hx hb dX6_faultOfFour_36 (by decide) (fun c12 => ?_) (fun c12 => ?_)
      · have h := h.1 c12
        exact J50  _ _ _ h hI (lv_sub hl [0, 1] rfl)
      · have h := h.2 c12
        refine lv_aload_n hx hb dX6_faultOfFour_39 rfl (lv_at hl 1 rfl) ?_
        refine va_get (D := (dC, dI)) (ci := 0) (v := .int (M 11 5)) (C := RX0) (T := TX0) (N := 18) hx hb hu uX0 hown hK hI.1 11 rfl rfl 5 (by decide) (hu _ uww_309) (u_same (hu _ uww_24)) rfl dX6_faultOfFour_40 ?_
        refine lv_if_ne (tgt := 50) hx hb dX6_faultOfFour_43 (by decide) (fun c13 => ?_) (fun c13 => ?_)
        · have h := h.1 c13
          exact J50  _ _ _ h hI (lv_sub hl [0, 1] rfl)
        · have h := h.2 c13
          refine lv_iconst (v := (1 : Int32)) hx hb dX6_faultOfFour_46 (by decide) ?_
          refine lv_goto (tgt := 51) hx hb dX6_faultOfFour_47 (by decide) ?_
          exact J51 (1 : Int32) _ _ _ h hI (lv_sub hl [0, 1] rfl)
    refine lv_icmp_ne (tgt := 30) hx hb dX6_faultOfFour_18 (by decide) (fun c14 => ?_) (fun c14 => ?_)
    · have h := h.1 c14
      exact J30  _ _ _ h hI (lv_sub hl [0, 1] rfl)
    · have h := h.2 c14
      refine lv_aload_n hx hb dX6_faultOfFour_21 rfl (lv_at hl 1 rfl) ?_
      refine cpcalli_p hsz hI (va_runU (As := []) (rest := []) ⟨hx, hb, hml, hown, hu⟩ (met_X2_fragment_11 l dC dI a kA t _ M L  _ h) (cwl_X6_246_X0 hu ⟨by decide, by decide⟩) (cppre (ci := 0) hK hE hsz hI rfl rfl) rfl rfl hl.1 rfl (lv_room (Nat.le_of_ble_eq_true rfl)) dX6_faultOfFour_22 ⟨by decide, by decide⟩) (fun r15 H locs h hI => ?_)
      refine lv_if_eq (tgt := 30) hx hb dX6_faultOfFour_25 (by decide) (fun c16 => ?_) (fun c16 => ?_)
      · have h := h.1 c16
        exact J30  _ _ _ h hI (lv_sub hl [0, 1] rfl)
      · have h := h.2 c16
        refine lv_iconst (v := (5 : Int32)) hx hb dX6_faultOfFour_28 (by decide) ?_
        exact cpiret (Z := (fun r M' L' => M' = M ∧ L' = L ∧ Z r)) hx hb hr hlocks hK hI dX6_faultOfFour_29 ⟨rfl, rfl, h⟩
  · have h := h.2 c2
    refine lv_bipush (v := (6 : Int32)) hx hb dX6_faultOfFour_10 (by decide) ?_
    exact cpiret (Z := (fun r M' L' => M' = M ∧ L' = L ∧ Z r)) hx hb hr hlocks hK hI dX6_faultOfFour_12 ⟨rfl, rfl, h⟩

abbrev rm_X1_bitsBehind_10 : Room := { frames := 0, cells := 0, slots := 0, locals := 0 }
abbrev av_X1_bitsBehind_10 (a t : Nat → Nat)  : List Value := [.ref (a 10)]
abbrev qc_X1_bitsBehind_10 (dC : Nat → ClassId) (dI : Nat → Nat → Nat) (a : Nat → Nat) (kA : Nat → ClassId) (sz : Nat) (M : cM) (L : cL) (Z : Int32 → Prop) : Array Value → State → Outcome → State → Prop := va_Qi (fun r (u : cM × cL) => u.1 = M ∧ u.2 = L ∧ Z r) (cpAt dC dI a kA (cpA a sz)) (cpA a sz)
set_option maxHeartbeats 4000000 in
set_option maxRecDepth 100000 in
theorem met_X1_bitsBehind_10 (l : Launch) (dC : Nat → ClassId) (dI : Nat → Nat → Nat) (a : Nat → Nat) (kA : Nat → ClassId) (t : Nat → Nat) (sz : Nat) (M : cM) (L : cL)  (Z : Int32 → Prop) (h : wp_X1_bitsBehind_10 M L  Z) : Met l yX1_bitsBehind (Cond.code yX1_bitsBehind cX1_bitsBehind 1 (some .int) :: uW) rm_X1_bitsBehind_10 (va_Pc (av_X1_bitsBehind_10 a t ) (cpPre dC dI a kA t M L sz)) (qc_X1_bitsBehind_10 dC dI a kA sz M L Z) 0 0 (cpA a sz) := by
  refine cpenter (cc := cX1_bitsBehind) (n := 1) (ret := (some .int)) (by decide) rfl (Nat.le_of_ble_eq_true rfl) ?_
  intro p e s m below meth c ls hx hb hml hr hlocks hown hts hK hE hsz hI hl hmn
  have hu : ∀ w ∈ uW, w.before (av_X1_bitsBehind_10 a t ).toArray s = true := fun w h => hts w (List.mem_cons_of_mem _ h)
  have hown : s.vm.findClass RX1 = some m.cls := hown
  have hl : lv_has ls 1 [(0, .ref (a 10))] := hl
  unfold wp_X1_bitsBehind_10 at h
  refine lv_aload_n hx hb dX1_bitsBehind_0 rfl (lv_at hl 0 rfl) ?_
  refine va_get (D := (dC, dI)) (ci := 1) (v := .int (M 10 2)) (C := RX1) (T := TX1) (N := 3) hx hb hu uX1 hown hK hI.1 10 rfl rfl 2 (by decide) (hu _ uww_99) (fun _ h9 => h9) rfl dX1_bitsBehind_1 ?_
  refine lv_bipush (v := (32 : Int32)) hx hb dX1_bitsBehind_4 (by decide) ?_
  refine lv_isub hx hb dX1_bitsBehind_6 ?_
  exact cpiret (Z := (fun r M' L' => M' = M ∧ L' = L ∧ Z r)) hx hb hr hlocks hK hI dX1_bitsBehind_7 ⟨rfl, rfl, h⟩

abbrev rm_X1_upperOf_10 : Room := { frames := 1, cells := 0, slots := 0, locals := 20 }
abbrev av_X1_upperOf_10 (a t : Nat → Nat) (p1 : Int32) : List Value := [.ref (a 10), .int p1]
abbrev qc_X1_upperOf_10 (dC : Nat → ClassId) (dI : Nat → Nat → Nat) (a : Nat → Nat) (kA : Nat → ClassId) (sz : Nat) (M : cM) (L : cL) (Z : Int64 → Prop) : Array Value → State → Outcome → State → Prop := va_Ql (fun r (u : cM × cL) => u.1 = M ∧ u.2 = L ∧ Z r) (cpAt dC dI a kA (cpA a sz)) (cpA a sz)
set_option maxHeartbeats 4000000 in
set_option maxRecDepth 100000 in
theorem met_X1_upperOf_10 (l : Launch) (dC : Nat → ClassId) (dI : Nat → Nat → Nat) (a : Nat → Nat) (kA : Nat → ClassId) (t : Nat → Nat) (sz : Nat) (M : cM) (L : cL) (p1 : Int32) (Z : Int64 → Prop) (h : wp_X1_upperOf_10 M L p1 Z) : Met l yX1_upperOf (Cond.code yX1_upperOf cX1_upperOf 2 (some .long) :: uW) rm_X1_upperOf_10 (va_Pc (av_X1_upperOf_10 a t p1) (cpPre dC dI a kA t M L sz)) (qc_X1_upperOf_10 dC dI a kA sz M L Z) 0 0 (cpA a sz) := by
  refine cpenter (cc := cX1_upperOf) (n := 2) (ret := (some .long)) (by decide) rfl (Nat.le_of_ble_eq_true rfl) ?_
  intro p e s m below meth c ls hx hb hml hr hlocks hown hts hK hE hsz hI hl hmn
  have hu : ∀ w ∈ uW, w.before (av_X1_upperOf_10 a t p1).toArray s = true := fun w h => hts w (List.mem_cons_of_mem _ h)
  have hown : s.vm.findClass RX1 = some m.cls := hown
  have hl : lv_has ls 2 [(0, .ref (a 10)), (1, .int p1)] := hl
  unfold wp_X1_upperOf_10 at h
  refine lv_aload_n hx hb dX1_upperOf_0 rfl (lv_at hl 0 rfl) ?_
  refine va_get (D := (dC, dI)) (ci := 1) (v := .int (M 10 2)) (C := RX1) (T := TX1) (N := 3) hx hb hu uX1 hown hK hI.1 10 rfl rfl 2 (by decide) (hu _ uww_99) (fun _ h9 => h9) rfl dX1_upperOf_1 ?_
  refine lv_bipush (v := (96 : Int32)) hx hb dX1_upperOf_4 (by decide) ?_
  refine lv_icmp_ne (tgt := 16) hx hb dX1_upperOf_6 (by decide) (fun c1 => ?_) (fun c1 => ?_)
  · have h := h.1 c1
    refine lv_aload_n hx hb dX1_upperOf_16 rfl (lv_at hl 0 rfl) ?_
    refine va_get (D := (dC, dI)) (ci := 1) (v := .long (L 10 0)) (C := RX1) (T := TX1) (N := 3) hx hb hu uX1 hown hK hI.1 10 rfl rfl 0 (by decide) (hu _ uww_97) (fun _ h9 => h9) rfl dX1_upperOf_17 ?_
    refine lv_iload_n hx hb dX1_upperOf_20 rfl (lv_at hl 1 rfl) ?_
    refine lv_i2l hx hb dX1_upperOf_21 rfl ?_
    refine lv_ldc2 (own := RX1) (v := (4294967295 : Int64)) hx hb hown (hu _ uww_101) dX1_upperOf_22 ?_
    refine lv_land hx hb dX1_upperOf_25 ?_
    refine lv_aload_n hx hb dX1_upperOf_26 rfl (lv_at hl 0 rfl) ?_
    refine cpcalli_p hsz hI (va_runV (As := []) (rest := [.long ((p1.toInt64) &&& (4294967295 : Int64)), .long (L 10 0)]) ⟨hx, hb, hml, hown, hu⟩ (met_X1_bitsBehind_10 l dC dI a kA t _ M L  _ h) (cwl_X1_28_X1 hu ⟨by decide, by decide⟩) (cppre (ci := 1) hK hE hsz hI rfl rfl) rfl rfl hl.1 rfl (lv_room (Nat.le_of_ble_eq_true rfl)) dX1_upperOf_27 ⟨by decide, by decide⟩) (fun r2 H locs h hI => ?_)
    refine lv_lushr hx hb dX1_upperOf_30 rfl ?_
    refine lv_lor hx hb dX1_upperOf_31 ?_
    exact cplret (Z := (fun r M' L' => M' = M ∧ L' = L ∧ Z r)) hx hb hr hlocks hK hI dX1_upperOf_32 ⟨rfl, rfl, h⟩
  · have h := h.2 c1
    refine lv_aload_n hx hb dX1_upperOf_9 rfl (lv_at hl 0 rfl) ?_
    refine va_get (D := (dC, dI)) (ci := 1) (v := .long (L 10 0)) (C := RX1) (T := TX1) (N := 3) hx hb hu uX1 hown hK hI.1 10 rfl rfl 0 (by decide) (hu _ uww_97) (fun _ h9 => h9) rfl dX1_upperOf_10 ?_
    refine lv_goto (tgt := 32) hx hb dX1_upperOf_13 (by decide) ?_
    exact cplret (Z := (fun r M' L' => M' = M ∧ L' = L ∧ Z r)) hx hb hr hlocks hK hI dX1_upperOf_32 ⟨rfl, rfl, h⟩

abbrev rm_X6_wordsOf : Room := { frames := 0, cells := 0, slots := 0, locals := 0 }
abbrev av_X6_wordsOf (a t : Nat → Nat) (p0 : Int64) : List Value := [.long p0]
abbrev qc_X6_wordsOf (dC : Nat → ClassId) (dI : Nat → Nat → Nat) (a : Nat → Nat) (kA : Nat → ClassId) (sz : Nat) (M : cM) (L : cL) (Z : Int64 → Prop) : Array Value → State → Outcome → State → Prop := va_Ql (fun r (u : cM × cL) => u.1 = M ∧ u.2 = L ∧ Z r) (cpAt dC dI a kA (cpA a sz)) (cpA a sz)
set_option maxHeartbeats 4000000 in
set_option maxRecDepth 100000 in
theorem met_X6_wordsOf (l : Launch) (dC : Nat → ClassId) (dI : Nat → Nat → Nat) (a : Nat → Nat) (kA : Nat → ClassId) (t : Nat → Nat) (sz : Nat) (M : cM) (L : cL) (p0 : Int64) (Z : Int64 → Prop) (h : wp_X6_wordsOf M L p0 Z) : Met l yX6_wordsOf (Cond.code yX6_wordsOf cX6_wordsOf 2 (some .long) :: uW) rm_X6_wordsOf (va_Pc (av_X6_wordsOf a t p0) (cpPre dC dI a kA t M L sz)) (qc_X6_wordsOf dC dI a kA sz M L Z) 0 0 (cpA a sz) := by
  refine cpenter (cc := cX6_wordsOf) (n := 2) (ret := (some .long)) (by decide) rfl (Nat.le_of_ble_eq_true rfl) ?_
  intro p e s m below meth c ls hx hb hml hr hlocks hown hts hK hE hsz hI hl hmn
  have hu : ∀ w ∈ uW, w.before (av_X6_wordsOf a t p0).toArray s = true := fun w h => hts w (List.mem_cons_of_mem _ h)
  have hown : s.vm.findClass RX6 = some m.cls := hown
  have hl : lv_has ls 2 [(0, .long p0)] := hl
  unfold wp_X6_wordsOf at h
  refine lv_lload_n hx hb dX6_wordsOf_0 rfl (lv_at hl 0 rfl) ?_
  refine lv_bipush (v := (48 : Int32)) hx hb dX6_wordsOf_1 (by decide) ?_
  refine lv_lushr hx hb dX6_wordsOf_3 rfl ?_
  refine lv_lload_n hx hb dX6_wordsOf_4 rfl (lv_at hl 0 rfl) ?_
  refine lv_bipush (v := (32 : Int32)) hx hb dX6_wordsOf_5 (by decide) ?_
  refine lv_lushr hx hb dX6_wordsOf_7 rfl ?_
  refine lv_ldc2 (own := RX6) (v := (65535 : Int64)) hx hb hown (hu _ uww_69) dX6_wordsOf_8 ?_
  refine lv_land hx hb dX6_wordsOf_11 ?_
  refine lv_ladd hx hb dX6_wordsOf_12 ?_
  refine lv_lload_n hx hb dX6_wordsOf_13 rfl (lv_at hl 0 rfl) ?_
  refine lv_bipush (v := (16 : Int32)) hx hb dX6_wordsOf_14 (by decide) ?_
  refine lv_lushr hx hb dX6_wordsOf_16 rfl ?_
  refine lv_ldc2 (own := RX6) (v := (65535 : Int64)) hx hb hown (hu _ uww_69) dX6_wordsOf_17 ?_
  refine lv_land hx hb dX6_wordsOf_20 ?_
  refine lv_ladd hx hb dX6_wordsOf_21 ?_
  refine lv_lload_n hx hb dX6_wordsOf_22 rfl (lv_at hl 0 rfl) ?_
  refine lv_ldc2 (own := RX6) (v := (65535 : Int64)) hx hb hown (hu _ uww_69) dX6_wordsOf_23 ?_
  refine lv_land hx hb dX6_wordsOf_26 ?_
  refine lv_ladd hx hb dX6_wordsOf_27 ?_
  exact cplret (Z := (fun r M' L' => M' = M ∧ L' = L ∧ Z r)) hx hb hr hlocks hK hI dX6_wordsOf_28 ⟨rfl, rfl, h⟩

abbrev rm_X1_lowerOf_10 : Room := { frames := 1, cells := 0, slots := 0, locals := 20 }
abbrev av_X1_lowerOf_10 (a t : Nat → Nat) (p1 : Int32) : List Value := [.ref (a 10), .int p1]
abbrev qc_X1_lowerOf_10 (dC : Nat → ClassId) (dI : Nat → Nat → Nat) (a : Nat → Nat) (kA : Nat → ClassId) (sz : Nat) (M : cM) (L : cL) (Z : Int64 → Prop) : Array Value → State → Outcome → State → Prop := va_Ql (fun r (u : cM × cL) => u.1 = M ∧ u.2 = L ∧ Z r) (cpAt dC dI a kA (cpA a sz)) (cpA a sz)
set_option maxHeartbeats 4000000 in
set_option maxRecDepth 100000 in
theorem met_X1_lowerOf_10 (l : Launch) (dC : Nat → ClassId) (dI : Nat → Nat → Nat) (a : Nat → Nat) (kA : Nat → ClassId) (t : Nat → Nat) (sz : Nat) (M : cM) (L : cL) (p1 : Int32) (Z : Int64 → Prop) (h : wp_X1_lowerOf_10 M L p1 Z) : Met l yX1_lowerOf (Cond.code yX1_lowerOf cX1_lowerOf 6 (some .long) :: uW) rm_X1_lowerOf_10 (va_Pc (av_X1_lowerOf_10 a t p1) (cpPre dC dI a kA t M L sz)) (qc_X1_lowerOf_10 dC dI a kA sz M L Z) 0 0 (cpA a sz) := by
  refine cpenter (cc := cX1_lowerOf) (n := 6) (ret := (some .long)) (by decide) rfl (Nat.le_of_ble_eq_true rfl) ?_
  intro p e s m below meth c ls hx hb hml hr hlocks hown hts hK hE hsz hI hl hmn
  have hu : ∀ w ∈ uW, w.before (av_X1_lowerOf_10 a t p1).toArray s = true := fun w h => hts w (List.mem_cons_of_mem _ h)
  have hown : s.vm.findClass RX1 = some m.cls := hown
  have hl : lv_has ls 6 [(0, .ref (a 10)), (1, .int p1)] := hl
  unfold wp_X1_lowerOf_10 at h
  refine lv_iload_n hx hb dX1_lowerOf_0 rfl (lv_at hl 1 rfl) ?_
  refine lv_i2l hx hb dX1_lowerOf_1 rfl ?_
  refine lv_ldc2 (own := RX1) (v := (4294967295 : Int64)) hx hb hown (hu _ uww_101) dX1_lowerOf_2 ?_
  refine lv_land hx hb dX1_lowerOf_5 ?_
  refine lv_topl (fun x1 ex1 => ?_)
  have h := h x1 ex1
  refine lv_lstore_n (lv' := [(2, .long x1), (0, .ref (a 10)), (1, .int p1)]) hx hb dX1_lowerOf_6 rfl hl (by decide) rfl (fun ls hl => ?_)
  refine lv_aload_n hx hb dX1_lowerOf_7 rfl (lv_at hl 1 rfl) ?_
  refine va_get (D := (dC, dI)) (ci := 1) (v := .int (M 10 2)) (C := RX1) (T := TX1) (N := 3) hx hb hu uX1 hown hK hI.1 10 rfl rfl 2 (by decide) (hu _ uww_99) (fun _ h9 => h9) rfl dX1_lowerOf_8 ?_
  refine lv_bipush (v := (96 : Int32)) hx hb dX1_lowerOf_11 (by decide) ?_
  refine lv_icmp_ne (tgt := 23) hx hb dX1_lowerOf_13 (by decide) (fun c2 => ?_) (fun c2 => ?_)
  · have h := h.1 c2
    refine lv_lload_n hx hb dX1_lowerOf_23 rfl (lv_at hl 0 rfl) ?_
    refine lv_lconst (v := (1 : Int64)) hx hb dX1_lowerOf_24 (by decide) ?_
    refine lv_aload_n hx hb dX1_lowerOf_25 rfl (lv_at hl 1 rfl) ?_
    refine cpcalli_p hsz hI (va_runV (As := []) (rest := [.long (1 : Int64), .long x1]) ⟨hx, hb, hml, hown, hu⟩ (met_X1_bitsBehind_10 l dC dI a kA t _ M L  _ h) (cwl_X1_28_X1 hu ⟨by decide, by decide⟩) (cppre (ci := 1) hK hE hsz hI rfl rfl) rfl rfl hl.1 rfl (lv_room (Nat.le_of_ble_eq_true rfl)) dX1_lowerOf_26 ⟨by decide, by decide⟩) (fun r3 H locs h hI => ?_)
    refine lv_lshl hx hb dX1_lowerOf_29 rfl ?_
    refine lv_lconst (v := (1 : Int64)) hx hb dX1_lowerOf_30 (by decide) ?_
    refine lv_lsub hx hb dX1_lowerOf_31 ?_
    refine lv_land hx hb dX1_lowerOf_32 ?_
    refine lv_topl (fun x4 ex4 => ?_)
    have h := h x4 ex4
    refine lv_lstore (lv' := [(4, .long x4), (2, .long x1), (0, .ref (a 10)), (1, .int p1)]) hx hb dX1_lowerOf_33 hl (by decide) rfl (fun ls hl => ?_)
    refine lv_lload hx hb dX1_lowerOf_35 (lv_at hl 0 rfl) ?_
    refine lv_bipush (v := (56 : Int32)) hx hb dX1_lowerOf_37 (by decide) ?_
    refine lv_aload_n hx hb dX1_lowerOf_39 rfl (lv_at hl 2 rfl) ?_
    refine cpcalli_p hsz hI (va_runV (As := []) (rest := [.int (56 : Int32), .long x4]) ⟨hx, hb, hml, hown, hu⟩ (met_X1_bitsBehind_10 l dC dI a kA t _ M L  _ h) (cwl_X1_28_X1 hu ⟨by decide, by decide⟩) (cppre (ci := 1) hK hE hsz hI rfl rfl) rfl rfl hl.1 rfl (lv_room (Nat.le_of_ble_eq_true rfl)) dX1_lowerOf_40 ⟨by decide, by decide⟩) (fun r5 H locs h hI => ?_)
    refine lv_isub hx hb dX1_lowerOf_43 ?_
    refine lv_lshl hx hb dX1_lowerOf_44 rfl ?_
    exact cplret (Z := (fun r M' L' => M' = M ∧ L' = L ∧ Z r)) hx hb hr hlocks hK hI dX1_lowerOf_45 ⟨rfl, rfl, h⟩
  · have h := h.2 c2
    refine lv_aload_n hx hb dX1_lowerOf_16 rfl (lv_at hl 1 rfl) ?_
    refine va_get (D := (dC, dI)) (ci := 1) (v := .long (L 10 1)) (C := RX1) (T := TX1) (N := 3) hx hb hu uX1 hown hK hI.1 10 rfl rfl 1 (by decide) (hu _ uww_98) (fun _ h9 => h9) rfl dX1_lowerOf_17 ?_
    refine lv_lload_n hx hb dX1_lowerOf_20 rfl (lv_at hl 0 rfl) ?_
    refine lv_lor hx hb dX1_lowerOf_21 ?_
    exact cplret (Z := (fun r M' L' => M' = M ∧ L' = L ∧ Z r)) hx hb hr hlocks hK hI dX1_lowerOf_22 ⟨rfl, rfl, h⟩

abbrev rm_X6_imageWords_0_11 : Room := { frames := 2, cells := 0, slots := 0, locals := 45 }
abbrev av_X6_imageWords_0_11 (a t : Nat → Nat)  : List Value := [.ref (a 0), .ref (a 11)]
abbrev qc_X6_imageWords_0_11 (dC : Nat → ClassId) (dI : Nat → Nat → Nat) (a : Nat → Nat) (kA : Nat → ClassId) (sz : Nat) (M : cM) (L : cL) (Z : Int64 → Prop) : Array Value → State → Outcome → State → Prop := va_Ql (fun r (u : cM × cL) => u.1 = M ∧ u.2 = L ∧ Z r) (cpAt dC dI a kA (cpA a sz)) (cpA a sz)
set_option maxHeartbeats 4000000 in
set_option maxRecDepth 100000 in
theorem met_X6_imageWords_0_11 (l : Launch) (dC : Nat → ClassId) (dI : Nat → Nat → Nat) (a : Nat → Nat) (kA : Nat → ClassId) (t : Nat → Nat) (sz : Nat) (M : cM) (L : cL)  (Z : Int64 → Prop) (h : wp_X6_imageWords_0_11 M L  Z) : Met l yX6_imageWords (Cond.code yX6_imageWords cX6_imageWords 2 (some .long) :: uW) rm_X6_imageWords_0_11 (va_Pc (av_X6_imageWords_0_11 a t ) (cpPre dC dI a kA t M L sz)) (qc_X6_imageWords_0_11 dC dI a kA sz M L Z) 0 0 (cpA a sz) := by
  refine cpenter (cc := cX6_imageWords) (n := 2) (ret := (some .long)) (by decide) rfl (Nat.le_of_ble_eq_true rfl) ?_
  intro p e s m below meth c ls hx hb hml hr hlocks hown hts hK hE hsz hI hl hmn
  have hu : ∀ w ∈ uW, w.before (av_X6_imageWords_0_11 a t ).toArray s = true := fun w h => hts w (List.mem_cons_of_mem _ h)
  have hown : s.vm.findClass RX6 = some m.cls := hown
  have hl : lv_has ls 2 [(0, .ref (a 0)), (1, .ref (a 11))] := hl
  unfold wp_X6_imageWords_0_11 at h
  refine lv_aload_n hx hb dX6_imageWords_0 rfl (lv_at hl 0 rfl) ?_
  refine va_get (D := (dC, dI)) (ci := 5) (v := .ref (a 10)) (C := RX6) (T := TX6) (N := 17) hx hb hu uX6 hown hK hI.1 0 rfl rfl 3 (by decide) (hu _ uww_221) (fun _ h9 => h9) rfl dX6_imageWords_1 ?_
  refine lv_aload_n hx hb dX6_imageWords_4 rfl (lv_at hl 1 rfl) ?_
  refine va_get (D := (dC, dI)) (ci := 0) (v := .int (M 11 10)) (C := RX0) (T := TX0) (N := 18) hx hb hu uX0 hown hK hI.1 11 rfl rfl 10 (by decide) (hu _ uww_269) (u_same (hu _ uww_32)) rfl dX6_imageWords_5 ?_
  refine cpcalll_p hsz hI (va_runV (As := [.int (M 11 10)]) (rest := []) ⟨hx, hb, hml, hown, hu⟩ (met_X1_upperOf_10 l dC dI a kA t _ M L (M 11 10) _ h) (cwl_X6_179_X1 hu ⟨by decide, by decide⟩) (cppre (ci := 1) hK hE hsz hI rfl rfl) rfl rfl hl.1 rfl (lv_room (Nat.le_of_ble_eq_true rfl)) dX6_imageWords_8 ⟨by decide, by decide⟩) (fun r1 H locs h hI => ?_)
  refine cpcalll_p hsz hI (va_runS (As := [.long r1]) (rest := []) ⟨hx, hb, hml, hown, hu⟩ (met_X6_wordsOf l dC dI a kA t _ M L r1 _ h) (cwl_X6_490_S hu ⟨by decide, by decide⟩) (cppreS hK hE hsz hI) rfl rfl hl.1 rfl (lv_room (Nat.le_of_ble_eq_true rfl)) dX6_imageWords_11 ⟨by decide, by decide⟩) (fun r2 H locs h hI => ?_)
  refine lv_aload_n hx hb dX6_imageWords_14 rfl (lv_at hl 0 rfl) ?_
  refine va_get (D := (dC, dI)) (ci := 5) (v := .ref (a 10)) (C := RX6) (T := TX6) (N := 17) hx hb hu uX6 hown hK hI.1 0 rfl rfl 3 (by decide) (hu _ uww_221) (fun _ h9 => h9) rfl dX6_imageWords_15 ?_
  refine lv_aload_n hx hb dX6_imageWords_18 rfl (lv_at hl 1 rfl) ?_
  refine va_get (D := (dC, dI)) (ci := 0) (v := .int (M 11 10)) (C := RX0) (T := TX0) (N := 18) hx hb hu uX0 hown hK hI.1 11 rfl rfl 10 (by decide) (hu _ uww_269) (u_same (hu _ uww_32)) rfl dX6_imageWords_19 ?_
  refine cpcalll_p hsz hI (va_runV (As := [.int (M 11 10)]) (rest := [.long r2]) ⟨hx, hb, hml, hown, hu⟩ (met_X1_lowerOf_10 l dC dI a kA t _ M L (M 11 10) _ h) (cwl_X6_175_X1 hu ⟨by decide, by decide⟩) (cppre (ci := 1) hK hE hsz hI rfl rfl) rfl rfl hl.1 rfl (lv_room (Nat.le_of_ble_eq_true rfl)) dX6_imageWords_22 ⟨by decide, by decide⟩) (fun r3 H locs h hI => ?_)
  refine cpcalll_p hsz hI (va_runS (As := [.long r3]) (rest := [.long r2]) ⟨hx, hb, hml, hown, hu⟩ (met_X6_wordsOf l dC dI a kA t _ M L r3 _ h) (cwl_X6_490_S hu ⟨by decide, by decide⟩) (cppreS hK hE hsz hI) rfl rfl hl.1 rfl (lv_room (Nat.le_of_ble_eq_true rfl)) dX6_imageWords_25 ⟨by decide, by decide⟩) (fun r4 H locs h hI => ?_)
  refine lv_ladd hx hb dX6_imageWords_28 ?_
  refine lv_aload_n hx hb dX6_imageWords_29 rfl (lv_at hl 0 rfl) ?_
  refine va_get (D := (dC, dI)) (ci := 5) (v := .ref (a 10)) (C := RX6) (T := TX6) (N := 17) hx hb hu uX6 hown hK hI.1 0 rfl rfl 3 (by decide) (hu _ uww_221) (fun _ h9 => h9) rfl dX6_imageWords_30 ?_
  refine lv_aload_n hx hb dX6_imageWords_33 rfl (lv_at hl 1 rfl) ?_
  refine va_get (D := (dC, dI)) (ci := 0) (v := .int (M 11 11)) (C := RX0) (T := TX0) (N := 18) hx hb hu uX0 hown hK hI.1 11 rfl rfl 11 (by decide) (hu _ uww_270) (u_same (hu _ uww_34)) rfl dX6_imageWords_34 ?_
  refine cpcalll_p hsz hI (va_runV (As := [.int (M 11 11)]) (rest := [.long (r2 + r4)]) ⟨hx, hb, hml, hown, hu⟩ (met_X1_upperOf_10 l dC dI a kA t _ M L (M 11 11) _ h) (cwl_X6_179_X1 hu ⟨by decide, by decide⟩) (cppre (ci := 1) hK hE hsz hI rfl rfl) rfl rfl hl.1 rfl (lv_room (Nat.le_of_ble_eq_true rfl)) dX6_imageWords_37 ⟨by decide, by decide⟩) (fun r5 H locs h hI => ?_)
  refine cpcalll_p hsz hI (va_runS (As := [.long r5]) (rest := [.long (r2 + r4)]) ⟨hx, hb, hml, hown, hu⟩ (met_X6_wordsOf l dC dI a kA t _ M L r5 _ h) (cwl_X6_490_S hu ⟨by decide, by decide⟩) (cppreS hK hE hsz hI) rfl rfl hl.1 rfl (lv_room (Nat.le_of_ble_eq_true rfl)) dX6_imageWords_40 ⟨by decide, by decide⟩) (fun r6 H locs h hI => ?_)
  refine lv_ladd hx hb dX6_imageWords_43 ?_
  refine lv_aload_n hx hb dX6_imageWords_44 rfl (lv_at hl 0 rfl) ?_
  refine va_get (D := (dC, dI)) (ci := 5) (v := .ref (a 10)) (C := RX6) (T := TX6) (N := 17) hx hb hu uX6 hown hK hI.1 0 rfl rfl 3 (by decide) (hu _ uww_221) (fun _ h9 => h9) rfl dX6_imageWords_45 ?_
  refine lv_aload_n hx hb dX6_imageWords_48 rfl (lv_at hl 1 rfl) ?_
  refine va_get (D := (dC, dI)) (ci := 0) (v := .int (M 11 11)) (C := RX0) (T := TX0) (N := 18) hx hb hu uX0 hown hK hI.1 11 rfl rfl 11 (by decide) (hu _ uww_270) (u_same (hu _ uww_34)) rfl dX6_imageWords_49 ?_
  refine cpcalll_p hsz hI (va_runV (As := [.int (M 11 11)]) (rest := [.long ((r2 + r4) + r6)]) ⟨hx, hb, hml, hown, hu⟩ (met_X1_lowerOf_10 l dC dI a kA t _ M L (M 11 11) _ h) (cwl_X6_175_X1 hu ⟨by decide, by decide⟩) (cppre (ci := 1) hK hE hsz hI rfl rfl) rfl rfl hl.1 rfl (lv_room (Nat.le_of_ble_eq_true rfl)) dX6_imageWords_52 ⟨by decide, by decide⟩) (fun r7 H locs h hI => ?_)
  refine cpcalll_p hsz hI (va_runS (As := [.long r7]) (rest := [.long ((r2 + r4) + r6)]) ⟨hx, hb, hml, hown, hu⟩ (met_X6_wordsOf l dC dI a kA t _ M L r7 _ h) (cwl_X6_490_S hu ⟨by decide, by decide⟩) (cppreS hK hE hsz hI) rfl rfl hl.1 rfl (lv_room (Nat.le_of_ble_eq_true rfl)) dX6_imageWords_55 ⟨by decide, by decide⟩) (fun r8 H locs h hI => ?_)
  refine lv_ladd hx hb dX6_imageWords_58 ?_
  exact cplret (Z := (fun r M' L' => M' = M ∧ L' = L ∧ Z r)) hx hb hr hlocks hK hI dX6_imageWords_59 ⟨rfl, rfl, h⟩

abbrev rm_X3_open_5 : Room := { frames := 0, cells := 0, slots := 0, locals := 0 }
abbrev av_X3_open_5 (a t : Nat → Nat) (p1 : Int32) : List Value := [.ref (a 5), .int p1]
abbrev qc_X3_open_5 (dC : Nat → ClassId) (dI : Nat → Nat → Nat) (a : Nat → Nat) (kA : Nat → ClassId) (sz : Nat) (M : cM) (L : cL) (Z : Int32 → cM → Prop) : Array Value → State → Outcome → State → Prop := va_Qi (fun r (u : cM × cL) => u.2 = L ∧ Z r u.1) (cpAt dC dI a kA (cpA a sz)) (cpA a sz)
set_option maxHeartbeats 4000000 in
set_option maxRecDepth 100000 in
theorem met_X3_open_5 (l : Launch) (dC : Nat → ClassId) (dI : Nat → Nat → Nat) (a : Nat → Nat) (kA : Nat → ClassId) (t : Nat → Nat) (sz : Nat) (M : cM) (L : cL) (p1 : Int32) (Z : Int32 → cM → Prop) (h : wp_X3_open_5 M L p1 Z) : Met l yX3_open (Cond.code yX3_open cX3_open 3 (some .int) :: uW) rm_X3_open_5 (va_Pc (av_X3_open_5 a t p1) (cpPre dC dI a kA t M L sz)) (qc_X3_open_5 dC dI a kA sz M L Z) 0 0 (cpA a sz) := by
  refine cpenter (cc := cX3_open) (n := 3) (ret := (some .int)) (by decide) rfl (Nat.le_of_ble_eq_true rfl) ?_
  intro p e s m below meth c ls hx hb hml hr hlocks hown hts hK hE hsz hI hl hmn
  have hu : ∀ w ∈ uW, w.before (av_X3_open_5 a t p1).toArray s = true := fun w h => hts w (List.mem_cons_of_mem _ h)
  have hown : s.vm.findClass RX3 = some m.cls := hown
  have hl : lv_has ls 3 [(0, .ref (a 5)), (1, .int p1)] := hl
  unfold wp_X3_open_5 at h
  refine lv_aload_n hx hb dX3_open_0 rfl (lv_at hl 0 rfl) ?_
  refine va_get (D := (dC, dI)) (ci := 2) (v := .ref (a 6)) (C := RX3) (T := TX3) (N := 4) hx hb hu uX3 hown hK hI.1 5 rfl rfl 0 (by decide) (hu _ uww_128) (fun _ h9 => h9) rfl dX3_open_1 ?_
  refine va_getN (D := (dC, dI)) (ci := 3) (v := .int (M 6 1)) (C := RX4) (T := TX4) (N := 2) hx hb hu uX4 hown hK hI.1 6 rfl rfl 1 (by decide) (va_Nw.use rfl (hE.1 _ cpn_3)) (fun _ h9 => h9) rfl dX3_open_4 ?_
  refine lv_topi (fun x1 ex1 => ?_)
  have h := h x1 ex1
  refine lv_istore_n (lv' := [(2, .int x1), (0, .ref (a 5)), (1, .int p1)]) hx hb dX3_open_7 rfl hl (by decide) rfl (fun ls hl => ?_)
  refine lv_aload_n hx hb dX3_open_8 rfl (lv_at hl 1 rfl) ?_
  refine va_get (D := (dC, dI)) (ci := 2) (v := .int (M 5 3)) (C := RX3) (T := TX3) (N := 4) hx hb hu uX3 hown hK hI.1 5 rfl rfl 3 (by decide) (hu _ uww_137) (fun _ h9 => h9) rfl dX3_open_9 ?_
  refine lv_if_lt (tgt := 64) hx hb dX3_open_12 (by decide) (fun c2 => ?_) (fun c2 => ?_)
  · have h := h.1 c2
    refine lv_iload_n hx hb dX3_open_64 rfl (lv_at hl 0 rfl) ?_
    exact cpiret (Z := (fun r M' L' => L' = L ∧ Z r M')) hx hb hr hlocks hK hI dX3_open_65 ⟨rfl, h⟩
  · have h := h.2 c2
    refine lv_aload_n hx hb dX3_open_15 rfl (lv_at hl 1 rfl) ?_
    refine va_get (D := (dC, dI)) (ci := 2) (v := .int (M 5 3)) (C := RX3) (T := TX3) (N := 4) hx hb hu uX3 hown hK hI.1 5 rfl rfl 3 (by decide) (hu _ uww_137) (fun _ h9 => h9) rfl dX3_open_16 ?_
    refine lv_bipush (v := (49 : Int32)) hx hb dX3_open_19 (by decide) ?_
    refine lv_icmp_ge (tgt := 64) hx hb dX3_open_21 (by decide) (fun c3 => ?_) (fun c3 => ?_)
    · have h := h.1 c3
      refine lv_iload_n hx hb dX3_open_64 rfl (lv_at hl 0 rfl) ?_
      exact cpiret (Z := (fun r M' L' => L' = L ∧ Z r M')) hx hb hr hlocks hK hI dX3_open_65 ⟨rfl, h⟩
    · have h := h.2 c3
      refine lv_aload_n hx hb dX3_open_24 rfl (lv_at hl 1 rfl) ?_
      refine va_get (D := (dC, dI)) (ci := 2) (v := .ref (a 8)) (C := RX3) (T := TX3) (N := 4) hx hb hu uX3 hown hK hI.1 5 rfl rfl 1 (by decide) (hu _ uww_130) (fun _ h9 => h9) rfl dX3_open_25 ?_
      refine lv_aload_n hx hb dX3_open_28 rfl (lv_at hl 1 rfl) ?_
      refine va_get (D := (dC, dI)) (ci := 2) (v := .int (M 5 3)) (C := RX3) (T := TX3) (N := 4) hx hb hu uX3 hown hK hI.1 5 rfl rfl 3 (by decide) (hu _ uww_137) (fun _ h9 => h9) rfl dX3_open_29 ?_
      refine lv_iload_n hx hb dX3_open_32 rfl (lv_at hl 0 rfl) ?_
      refine cpiast hx hb hK hI 8 3 rfl rfl h.1 (cpset_8 _ _ _ _ _ _) dX3_open_33 (fun H locs M4 eM4 hI => ?_)
      have h := h.2 M4 eM4
      refine lv_aload_n hx hb dX3_open_34 rfl (lv_at hl 1 rfl) ?_
      refine va_get (D := (dC, dI)) (ci := 2) (v := .ref (a 9)) (C := RX3) (T := TX3) (N := 4) hx hb hu uX3 hown hK hI.1 5 rfl rfl 2 (by decide) (hu _ uww_131) (fun _ h9 => h9) rfl dX3_open_35 ?_
      refine lv_aload_n hx hb dX3_open_38 rfl (lv_at hl 1 rfl) ?_
      refine va_get (D := (dC, dI)) (ci := 2) (v := .int (M4 5 3)) (C := RX3) (T := TX3) (N := 4) hx hb hu uX3 hown hK hI.1 5 rfl rfl 3 (by decide) (hu _ uww_137) (fun _ h9 => h9) rfl dX3_open_39 ?_
      refine lv_iload_n hx hb dX3_open_42 rfl (lv_at hl 2 rfl) ?_
      refine cpiast hx hb hK hI 9 4 rfl rfl h.1 (cpset_9 _ _ _ _ _ _) dX3_open_43 (fun H locs M5 eM5 hI => ?_)
      have h := h.2 M5 eM5
      refine lv_aload_n hx hb dX3_open_44 rfl (lv_at hl 1 rfl) ?_
      refine lv_dup hx hb dX3_open_45 rfl ?_
      refine va_get (D := (dC, dI)) (ci := 2) (v := .int (M5 5 3)) (C := RX3) (T := TX3) (N := 4) hx hb hu uX3 hown hK hI.1 5 rfl rfl 3 (by decide) (hu _ uww_137) (fun _ h9 => h9) rfl dX3_open_46 ?_
      refine lv_iconst (v := (1 : Int32)) hx hb dX3_open_49 (by decide) ?_
      refine lv_iadd hx hb dX3_open_50 ?_
      refine cpput (ci := 2) (C := RX3) (T := TX3) (N := 4) (ty := .int) hx hb hu uX3 tyX3 tyX3_ok nmX3 hown hK hI 5 rfl rfl 3 (by decide) (hu _ uww_137) (fun _ h9 => h9) rfl (by decide +kernel) rfl rfl (Nat.le_of_ble_eq_true rfl) (cpset_5_3 _ _ _ _ _) dX3_open_51 (fun H locs M6 eM6 hI => ?_)
      have h := h M6 eM6
      refine lv_aload_n hx hb dX3_open_54 rfl (lv_at hl 1 rfl) ?_
      refine va_get (D := (dC, dI)) (ci := 2) (v := .ref (a 6)) (C := RX3) (T := TX3) (N := 4) hx hb hu uX3 hown hK hI.1 5 rfl rfl 0 (by decide) (hu _ uww_128) (fun _ h9 => h9) rfl dX3_open_55 ?_
      refine lv_iload_n hx hb dX3_open_58 rfl (lv_at hl 0 rfl) ?_
      refine lv_iload_n hx hb dX3_open_59 rfl (lv_at hl 2 rfl) ?_
      refine lv_iadd hx hb dX3_open_60 ?_
      refine cpputN (ci := 3) (C := RX4) (T := TX4) (N := 2) (ty := .int) hx hb hu uX4 tyX4 tyX4_ok nmX4 hown hK hI 6 rfl rfl 1 (by decide) (va_Nw.use rfl (hE.1 _ cpn_3)) (fun _ h9 => h9) rfl (by decide +kernel) rfl rfl (Nat.le_of_ble_eq_true rfl) (cpset_6_1 _ _ _ _ _) dX3_open_61 (fun H locs M7 eM7 hI => ?_)
      have h := h M7 eM7
      refine lv_iload_n hx hb dX3_open_64 rfl (lv_at hl 0 rfl) ?_
      exact cpiret (Z := (fun r M' L' => L' = L ∧ Z r M')) hx hb hr hlocks hK hI dX3_open_65 ⟨rfl, h⟩

abbrev rm_X4_put_6 : Room := { frames := 0, cells := 0, slots := 0, locals := 0 }
abbrev av_X4_put_6 (a t : Nat → Nat) (p1 : Int32) (p2 : Int32) (p3 : Int64) : List Value := [.ref (a 6), .int p1, .int p2, .long p3]
abbrev qc_X4_put_6 (dC : Nat → ClassId) (dI : Nat → Nat → Nat) (a : Nat → Nat) (kA : Nat → ClassId) (sz : Nat) (M : cM) (L : cL) (Z : cM → Prop) : Array Value → State → Outcome → State → Prop := va_Qv (fun (u : cM × cL) => u.2 = L ∧ Z u.1) (cpAt dC dI a kA (cpA a sz)) (cpA a sz)
set_option maxHeartbeats 4000000 in
set_option maxRecDepth 100000 in
theorem met_X4_put_6 (l : Launch) (dC : Nat → ClassId) (dI : Nat → Nat → Nat) (a : Nat → Nat) (kA : Nat → ClassId) (t : Nat → Nat) (sz : Nat) (M : cM) (L : cL) (p1 : Int32) (p2 : Int32) (p3 : Int64) (Z : cM → Prop) (h : wp_X4_put_6 M L p1 p2 p3 Z) : Met l yX4_put (Cond.code yX4_put cX4_put 7 none :: uW) rm_X4_put_6 (va_Pc (av_X4_put_6 a t p1 p2 p3) (cpPre dC dI a kA t M L sz)) (qc_X4_put_6 dC dI a kA sz M L Z) 0 0 (cpA a sz) := by
  refine cpenter (cc := cX4_put) (n := 7) (ret := none) (by decide) rfl (Nat.le_of_ble_eq_true rfl) ?_
  intro p e s m below meth c ls hx hb hml hr hlocks hown hts hK hE hsz hI hl hmn
  have hu : ∀ w ∈ uW, w.before (av_X4_put_6 a t p1 p2 p3).toArray s = true := fun w h => hts w (List.mem_cons_of_mem _ h)
  have hown : s.vm.findClass RX4 = some m.cls := hown
  have hl : lv_has ls 7 [(0, .ref (a 6)), (1, .int p1), (2, .int p2), (3, .long p3)] := hl
  unfold wp_X4_put_6 at h
  refine lv_iconst (v := (0 : Int32)) hx hb dX4_put_0 (by decide) ?_
  refine lv_istore (lv' := [(5, .int (0 : Int32)), (0, .ref (a 6)), (1, .int p1), (2, .int p2), (3, .long p3)]) hx hb dX4_put_1 hl (by decide) rfl (fun ls hl => ?_)
  obtain ⟨I3, m3, h, hs3⟩ := h
  have P3 : ∀ (n3 : Nat) (x1 : Int32) (M2 : cM) (H : Heap) (locs : List Loc) (ls : Array Slot), I3 x1 M2 → m3 x1 M2 < n3 → cpI dC dI a kA (cpA a sz) s M2 L H locs → lv_has ls 7 [(0, .ref (a 6)), (1, .int p1), (2, .int p2), (3, .long p3), (5, .int x1)] → W p l e rm_X4_put_6 s m (av_X4_put_6 a t p1 p2 p3).toArray below meth c H locs 0 0 (MQ below (qc_X4_put_6 dC dI a kA sz M L Z) (av_X4_put_6 a t p1 p2 p3).toArray s 0 0 (cpA a sz)) (F0 m 3 ls []) := by
    intro n3
    induction n3 with
    | zero => intro x1 M2 H locs ls _ hn; exact absurd hn (Nat.not_lt_zero _)
    | succ n3 ih3 =>
      intro x1 M2 H locs ls h hn3 hI hl
      have h := hs3 x1 M2 h
      refine lv_iload hx hb dX4_put_3 (lv_at hl 4 rfl) ?_
      refine lv_iload_n hx hb dX4_put_5 rfl (lv_at hl 2 rfl) ?_
      refine lv_icmp_ge (tgt := 56) hx hb dX4_put_6 (by decide) (fun c3 => ?_) (fun c3 => ?_)
      · have h := h.1 c3
        exact cpvret (Z := (fun M' L' => L' = L ∧ Z M')) hx hb hr hlocks hK hI dX4_put_56 ⟨rfl, h⟩
      · have h := h.2 c3
        refine lv_iload_n hx hb dX4_put_9 rfl (lv_at hl 1 rfl) ?_
        refine lv_iload hx hb dX4_put_10 (lv_at hl 4 rfl) ?_
        refine lv_iadd hx hb dX4_put_12 ?_
        refine lv_topi (fun x4 ex4 => ?_)
        have h := h x4 ex4
        refine lv_istore (lv' := [(6, .int x4), (0, .ref (a 6)), (1, .int p1), (2, .int p2), (3, .long p3), (5, .int x1)]) hx hb dX4_put_13 hl (by decide) rfl (fun ls hl => ?_)
        refine lv_iload hx hb dX4_put_15 (lv_at hl 0 rfl) ?_
        obtain ⟨K50, hK50, h⟩ := h
        have J50 : ∀ (M5 : cM) (H : Heap) (locs : List Loc) (ls : Array Slot), K50 M5 → cpI dC dI a kA (cpA a sz) s M5 L H locs → lv_has ls 7 [(0, .ref (a 6)), (1, .int p1), (2, .int p2), (3, .long p3), (5, .int x1)] → W p l e rm_X4_put_6 s m (av_X4_put_6 a t p1 p2 p3).toArray below meth c H locs 0 0 (MQ below (qc_X4_put_6 dC dI a kA sz M L Z) (av_X4_put_6 a t p1 p2 p3).toArray s 0 0 (cpA a sz)) (F0 m 50 ls []) := by
          intro M5 H locs ls h hI hl
          have h := hK50 M5 h
          obtain ⟨x6, ex6⟩ : ∃ y : Int32, y = (x1 + (1 : Int32)) := ⟨_, rfl⟩
          have h := h x6 ex6
          refine lv_iinc (v := x6) (lv' := [(5, .int x6), (0, .ref (a 6)), (1, .int p1), (2, .int p2), (3, .long p3)]) hx hb dX4_put_50 hl (k := 4) rfl (by rw [ex6]; rfl) (by decide) rfl (fun ls hl => ?_)
          refine lv_goto (tgt := 3) hx hb dX4_put_53 (by decide) ?_
          exact ih3 x6 M5 _ _ _ h.1 (Nat.lt_of_lt_of_le h.2 (Nat.le_of_lt_succ hn3)) hI (lv_sub hl [1, 2, 3, 4, 0] rfl)
        refine lv_if_lt (tgt := 50) hx hb dX4_put_17 (by decide) (fun c7 => ?_) (fun c7 => ?_)
        · have h := h.1 c7
          exact J50 M2 _ _ _ h hI (lv_sub hl [1, 2, 3, 4, 5] rfl)
        · have h := h.2 c7
          refine lv_iload hx hb dX4_put_20 (lv_at hl 0 rfl) ?_
          refine lv_aload_n hx hb dX4_put_22 rfl (lv_at hl 1 rfl) ?_
          refine va_get (D := (dC, dI)) (ci := 3) (v := .ref (a 7)) (C := RX4) (T := TX4) (N := 2) hx hb hu uX4 hown hK hI.1 6 rfl rfl 0 (by decide) (hu _ uww_52) (fun _ h9 => h9) rfl dX4_put_23 ?_
          refine va_alen (v := (3332 : Int32)) hx hb hK hI.1 7 2 rfl rfl rfl dX4_put_26 ?_
          refine lv_icmp_ge (tgt := 50) hx hb dX4_put_27 (by decide) (fun c8 => ?_) (fun c8 => ?_)
          · have h := h.1 c8
            exact J50 M2 _ _ _ h hI (lv_sub hl [1, 2, 3, 4, 5] rfl)
          · have h := h.2 c8
            refine lv_aload_n hx hb dX4_put_30 rfl (lv_at hl 1 rfl) ?_
            refine va_get (D := (dC, dI)) (ci := 3) (v := .ref (a 7)) (C := RX4) (T := TX4) (N := 2) hx hb hu uX4 hown hK hI.1 6 rfl rfl 0 (by decide) (hu _ uww_52) (fun _ h9 => h9) rfl dX4_put_31 ?_
            refine lv_iload hx hb dX4_put_34 (lv_at hl 0 rfl) ?_
            refine lv_lload_n hx hb dX4_put_36 rfl (lv_at hl 4 rfl) ?_
            refine lv_bipush (v := (8 : Int32)) hx hb dX4_put_37 (by decide) ?_
            refine lv_iload_n hx hb dX4_put_39 rfl (lv_at hl 3 rfl) ?_
            refine lv_iconst (v := (1 : Int32)) hx hb dX4_put_40 (by decide) ?_
            refine lv_isub hx hb dX4_put_41 ?_
            refine lv_iload hx hb dX4_put_42 (lv_at hl 5 rfl) ?_
            refine lv_isub hx hb dX4_put_44 ?_
            refine lv_imul hx hb dX4_put_45 ?_
            refine lv_lushr hx hb dX4_put_46 rfl ?_
            refine lv_l2i hx hb dX4_put_47 rfl ?_
            refine lv_i2b hx hb dX4_put_48 rfl ?_
            refine cpbast hx hb hK hI 7 2 rfl rfl h.1 (cpset_7 _ _ _ _ _ _) dX4_put_49 (fun H locs M9 eM9 hI => ?_)
            have h := h.2 M9 eM9
            exact J50 M9 _ _ _ h hI (lv_sub hl [1, 2, 3, 4, 5] rfl)
  exact P3 (m3 (0 : Int32) M + 1) (0 : Int32) M _ _ _ h (Nat.lt_succ_self _) hI (lv_sub hl [1, 2, 3, 4, 0] rfl)

abbrev rm_X6_putSixHeader_0_6_11 : Room := { frames := 2, cells := 0, slots := 0, locals := 45 }
abbrev av_X6_putSixHeader_0_6_11 (a t : Nat → Nat) (p2 : Int32) (p4 : Int32) (p5 : Int32) (p6 : Int32) : List Value := [.ref (a 0), .ref (a 6), .int p2, .ref (a 11), .int p4, .int p5, .int p6]
abbrev qc_X6_putSixHeader_0_6_11 (dC : Nat → ClassId) (dI : Nat → Nat → Nat) (a : Nat → Nat) (kA : Nat → ClassId) (sz : Nat) (M : cM) (L : cL) (Z : cM → Prop) : Array Value → State → Outcome → State → Prop := va_Qv (fun (u : cM × cL) => u.2 = L ∧ Z u.1) (cpAt dC dI a kA (cpA a sz)) (cpA a sz)
set_option maxHeartbeats 4000000 in
set_option maxRecDepth 100000 in
theorem met_X6_putSixHeader_0_6_11 (l : Launch) (dC : Nat → ClassId) (dI : Nat → Nat → Nat) (a : Nat → Nat) (kA : Nat → ClassId) (t : Nat → Nat) (sz : Nat) (M : cM) (L : cL) (p2 : Int32) (p4 : Int32) (p5 : Int32) (p6 : Int32) (Z : cM → Prop) (h : wp_X6_putSixHeader_0_6_11 M L p2 p4 p5 p6 Z) : Met l yX6_putSixHeader (Cond.code yX6_putSixHeader cX6_putSixHeader 7 none :: uW) rm_X6_putSixHeader_0_6_11 (va_Pc (av_X6_putSixHeader_0_6_11 a t p2 p4 p5 p6) (cpPre dC dI a kA t M L sz)) (qc_X6_putSixHeader_0_6_11 dC dI a kA sz M L Z) 0 0 (cpA a sz) := by
  refine cpenter (cc := cX6_putSixHeader) (n := 7) (ret := none) (by decide) rfl (Nat.le_of_ble_eq_true rfl) ?_
  intro p e s m below meth c ls hx hb hml hr hlocks hown hts hK hE hsz hI hl hmn
  have hu : ∀ w ∈ uW, w.before (av_X6_putSixHeader_0_6_11 a t p2 p4 p5 p6).toArray s = true := fun w h => hts w (List.mem_cons_of_mem _ h)
  have hown : s.vm.findClass RX6 = some m.cls := hown
  have hl : lv_has ls 7 [(0, .ref (a 0)), (1, .ref (a 6)), (2, .int p2), (3, .ref (a 11)), (4, .int p4), (5, .int p5), (6, .int p6)] := hl
  unfold wp_X6_putSixHeader_0_6_11 at h
  refine lv_aload_n hx hb dX6_putSixHeader_0 rfl (lv_at hl 1 rfl) ?_
  refine lv_iload_n hx hb dX6_putSixHeader_1 rfl (lv_at hl 2 rfl) ?_
  refine lv_iconst (v := (4 : Int32)) hx hb dX6_putSixHeader_2 (by decide) ?_
  refine lv_ldc2 (own := RX6) (v := (1610612736 : Int64)) hx hb hown (hu _ uww_383) dX6_putSixHeader_3 ?_
  refine lv_aload_n hx hb dX6_putSixHeader_6 rfl (lv_at hl 0 rfl) ?_
  refine va_get (D := (dC, dI)) (ci := 5) (v := .int (M 0 14)) (C := RX6) (T := TX6) (N := 17) hx hb hu uX6 hown hK hI.1 0 rfl rfl 14 (by decide) (hu _ uww_238) (fun _ h9 => h9) rfl dX6_putSixHeader_7 ?_
  obtain ⟨K24, hK24, h⟩ := h
  have J24 : ∀ (v1 : Int32) (H : Heap) (locs : List Loc) (ls : Array Slot), K24 v1 → cpI dC dI a kA (cpA a sz) s M L H locs → lv_has ls 7 [(0, .ref (a 0)), (1, .ref (a 6)), (2, .int p2), (3, .ref (a 11)), (4, .int p4), (5, .int p5), (6, .int p6)] → W p l e rm_X6_putSixHeader_0_6_11 s m (av_X6_putSixHeader_0_6_11 a t p2 p4 p5 p6).toArray below meth c H locs 0 0 (MQ below (qc_X6_putSixHeader_0_6_11 dC dI a kA sz M L Z) (av_X6_putSixHeader_0_6_11 a t p2 p4 p5 p6).toArray s 0 0 (cpA a sz)) (F0 m 24 ls [.int v1, .long (1610612736 : Int64), .int (4 : Int32), .int p2, .ref (a 6)]) := by
    intro v1 H locs ls h hI hl
    have h := hK24 v1 h
    refine lv_i2l hx hb dX6_putSixHeader_24 rfl ?_
    refine lv_lor hx hb dX6_putSixHeader_25 ?_
    refine cpcallv_m hsz hI (va_runV (As := [.int p2, .int (4 : Int32), .long ((1610612736 : Int64) ||| (v1.toInt64))]) (rest := []) ⟨hx, hb, hml, hown, hu⟩ (met_X4_put_6 l dC dI a kA t _ M L p2 (4 : Int32) ((1610612736 : Int64) ||| (v1.toInt64)) _ h) (cwl_X6_99_X4 hu ⟨by decide, by decide⟩) (cppre (ci := 3) hK hE hsz hI rfl rfl) rfl rfl hl.1 rfl (lv_room (Nat.le_of_ble_eq_true rfl)) dX6_putSixHeader_26 ⟨by decide, by decide⟩) (fun M2 H locs h hI => ?_)
    refine lv_aload_n hx hb dX6_putSixHeader_29 rfl (lv_at hl 1 rfl) ?_
    refine lv_iload_n hx hb dX6_putSixHeader_30 rfl (lv_at hl 2 rfl) ?_
    refine lv_iconst (v := (4 : Int32)) hx hb dX6_putSixHeader_31 (by decide) ?_
    refine lv_iadd hx hb dX6_putSixHeader_32 ?_
    refine lv_iconst (v := (2 : Int32)) hx hb dX6_putSixHeader_33 (by decide) ?_
    refine lv_iload hx hb dX6_putSixHeader_34 (lv_at hl 4 rfl) ?_
    refine lv_i2l hx hb dX6_putSixHeader_36 rfl ?_
    refine cpcallv_m hsz hI (va_runV (As := [.int (p2 + (4 : Int32)), .int (2 : Int32), .long (p4.toInt64)]) (rest := []) ⟨hx, hb, hml, hown, hu⟩ (met_X4_put_6 l dC dI a kA t _ M2 L (p2 + (4 : Int32)) (2 : Int32) (p4.toInt64) _ h) (cwl_X6_99_X4 hu ⟨by decide, by decide⟩) (cppre (ci := 3) hK hE hsz hI rfl rfl) rfl rfl hl.1 rfl (lv_room (Nat.le_of_ble_eq_true rfl)) dX6_putSixHeader_37 ⟨by decide, by decide⟩) (fun M3 H locs h hI => ?_)
    refine lv_aload_n hx hb dX6_putSixHeader_40 rfl (lv_at hl 1 rfl) ?_
    refine lv_iload_n hx hb dX6_putSixHeader_41 rfl (lv_at hl 2 rfl) ?_
    refine lv_bipush (v := (6 : Int32)) hx hb dX6_putSixHeader_42 (by decide) ?_
    refine lv_iadd hx hb dX6_putSixHeader_44 ?_
    refine lv_iconst (v := (1 : Int32)) hx hb dX6_putSixHeader_45 (by decide) ?_
    refine lv_iload hx hb dX6_putSixHeader_46 (lv_at hl 5 rfl) ?_
    refine lv_i2l hx hb dX6_putSixHeader_48 rfl ?_
    refine cpcallv_m hsz hI (va_runV (As := [.int (p2 + (6 : Int32)), .int (1 : Int32), .long (p5.toInt64)]) (rest := []) ⟨hx, hb, hml, hown, hu⟩ (met_X4_put_6 l dC dI a kA t _ M3 L (p2 + (6 : Int32)) (1 : Int32) (p5.toInt64) _ h) (cwl_X6_99_X4 hu ⟨by decide, by decide⟩) (cppre (ci := 3) hK hE hsz hI rfl rfl) rfl rfl hl.1 rfl (lv_room (Nat.le_of_ble_eq_true rfl)) dX6_putSixHeader_49 ⟨by decide, by decide⟩) (fun M4 H locs h hI => ?_)
    refine lv_aload_n hx hb dX6_putSixHeader_52 rfl (lv_at hl 1 rfl) ?_
    refine lv_iload_n hx hb dX6_putSixHeader_53 rfl (lv_at hl 2 rfl) ?_
    refine lv_bipush (v := (7 : Int32)) hx hb dX6_putSixHeader_54 (by decide) ?_
    refine lv_iadd hx hb dX6_putSixHeader_56 ?_
    refine lv_iconst (v := (1 : Int32)) hx hb dX6_putSixHeader_57 (by decide) ?_
    refine lv_iload hx hb dX6_putSixHeader_58 (lv_at hl 6 rfl) ?_
    refine lv_i2l hx hb dX6_putSixHeader_60 rfl ?_
    refine cpcallv_m hsz hI (va_runV (As := [.int (p2 + (7 : Int32)), .int (1 : Int32), .long (p6.toInt64)]) (rest := []) ⟨hx, hb, hml, hown, hu⟩ (met_X4_put_6 l dC dI a kA t _ M4 L (p2 + (7 : Int32)) (1 : Int32) (p6.toInt64) _ h) (cwl_X6_99_X4 hu ⟨by decide, by decide⟩) (cppre (ci := 3) hK hE hsz hI rfl rfl) rfl rfl hl.1 rfl (lv_room (Nat.le_of_ble_eq_true rfl)) dX6_putSixHeader_61 ⟨by decide, by decide⟩) (fun M5 H locs h hI => ?_)
    refine lv_aload_n hx hb dX6_putSixHeader_64 rfl (lv_at hl 1 rfl) ?_
    refine lv_iload_n hx hb dX6_putSixHeader_65 rfl (lv_at hl 2 rfl) ?_
    refine lv_bipush (v := (8 : Int32)) hx hb dX6_putSixHeader_66 (by decide) ?_
    refine lv_iadd hx hb dX6_putSixHeader_68 ?_
    refine lv_bipush (v := (8 : Int32)) hx hb dX6_putSixHeader_69 (by decide) ?_
    refine lv_aload_n hx hb dX6_putSixHeader_71 rfl (lv_at hl 0 rfl) ?_
    refine va_get (D := (dC, dI)) (ci := 5) (v := .ref (a 10)) (C := RX6) (T := TX6) (N := 17) hx hb hu uX6 hown hK hI.1 0 rfl rfl 3 (by decide) (hu _ uww_221) (fun _ h9 => h9) rfl dX6_putSixHeader_72 ?_
    refine lv_aload_n hx hb dX6_putSixHeader_75 rfl (lv_at hl 3 rfl) ?_
    refine va_get (D := (dC, dI)) (ci := 0) (v := .int (M5 11 10)) (C := RX0) (T := TX0) (N := 18) hx hb hu uX0 hown hK hI.1 11 rfl rfl 10 (by decide) (hu _ uww_269) (u_same (hu _ uww_32)) rfl dX6_putSixHeader_76 ?_
    refine cpcalll_p hsz hI (va_runV (As := [.int (M5 11 10)]) (rest := [.int (8 : Int32), .int (p2 + (8 : Int32)), .ref (a 6)]) ⟨hx, hb, hml, hown, hu⟩ (met_X1_upperOf_10 l dC dI a kA t _ M5 L (M5 11 10) _ h) (cwl_X6_179_X1 hu ⟨by decide, by decide⟩) (cppre (ci := 1) hK hE hsz hI rfl rfl) rfl rfl hl.1 rfl (lv_room (Nat.le_of_ble_eq_true rfl)) dX6_putSixHeader_79 ⟨by decide, by decide⟩) (fun r6 H locs h hI => ?_)
    refine cpcallv_m hsz hI (va_runV (As := [.int (p2 + (8 : Int32)), .int (8 : Int32), .long r6]) (rest := []) ⟨hx, hb, hml, hown, hu⟩ (met_X4_put_6 l dC dI a kA t _ M5 L (p2 + (8 : Int32)) (8 : Int32) r6 _ h) (cwl_X6_99_X4 hu ⟨by decide, by decide⟩) (cppre (ci := 3) hK hE hsz hI rfl rfl) rfl rfl hl.1 rfl (lv_room (Nat.le_of_ble_eq_true rfl)) dX6_putSixHeader_82 ⟨by decide, by decide⟩) (fun M7 H locs h hI => ?_)
    refine lv_aload_n hx hb dX6_putSixHeader_85 rfl (lv_at hl 1 rfl) ?_
    refine lv_iload_n hx hb dX6_putSixHeader_86 rfl (lv_at hl 2 rfl) ?_
    refine lv_bipush (v := (16 : Int32)) hx hb dX6_putSixHeader_87 (by decide) ?_
    refine lv_iadd hx hb dX6_putSixHeader_89 ?_
    refine lv_bipush (v := (8 : Int32)) hx hb dX6_putSixHeader_90 (by decide) ?_
    refine lv_aload_n hx hb dX6_putSixHeader_92 rfl (lv_at hl 0 rfl) ?_
    refine va_get (D := (dC, dI)) (ci := 5) (v := .ref (a 10)) (C := RX6) (T := TX6) (N := 17) hx hb hu uX6 hown hK hI.1 0 rfl rfl 3 (by decide) (hu _ uww_221) (fun _ h9 => h9) rfl dX6_putSixHeader_93 ?_
    refine lv_aload_n hx hb dX6_putSixHeader_96 rfl (lv_at hl 3 rfl) ?_
    refine va_get (D := (dC, dI)) (ci := 0) (v := .int (M7 11 10)) (C := RX0) (T := TX0) (N := 18) hx hb hu uX0 hown hK hI.1 11 rfl rfl 10 (by decide) (hu _ uww_269) (u_same (hu _ uww_32)) rfl dX6_putSixHeader_97 ?_
    refine cpcalll_p hsz hI (va_runV (As := [.int (M7 11 10)]) (rest := [.int (8 : Int32), .int (p2 + (16 : Int32)), .ref (a 6)]) ⟨hx, hb, hml, hown, hu⟩ (met_X1_lowerOf_10 l dC dI a kA t _ M7 L (M7 11 10) _ h) (cwl_X6_175_X1 hu ⟨by decide, by decide⟩) (cppre (ci := 1) hK hE hsz hI rfl rfl) rfl rfl hl.1 rfl (lv_room (Nat.le_of_ble_eq_true rfl)) dX6_putSixHeader_100 ⟨by decide, by decide⟩) (fun r8 H locs h hI => ?_)
    refine cpcallv_m hsz hI (va_runV (As := [.int (p2 + (16 : Int32)), .int (8 : Int32), .long r8]) (rest := []) ⟨hx, hb, hml, hown, hu⟩ (met_X4_put_6 l dC dI a kA t _ M7 L (p2 + (16 : Int32)) (8 : Int32) r8 _ h) (cwl_X6_99_X4 hu ⟨by decide, by decide⟩) (cppre (ci := 3) hK hE hsz hI rfl rfl) rfl rfl hl.1 rfl (lv_room (Nat.le_of_ble_eq_true rfl)) dX6_putSixHeader_103 ⟨by decide, by decide⟩) (fun M9 H locs h hI => ?_)
    refine lv_aload_n hx hb dX6_putSixHeader_106 rfl (lv_at hl 1 rfl) ?_
    refine lv_iload_n hx hb dX6_putSixHeader_107 rfl (lv_at hl 2 rfl) ?_
    refine lv_bipush (v := (24 : Int32)) hx hb dX6_putSixHeader_108 (by decide) ?_
    refine lv_iadd hx hb dX6_putSixHeader_110 ?_
    refine lv_bipush (v := (8 : Int32)) hx hb dX6_putSixHeader_111 (by decide) ?_
    refine lv_aload_n hx hb dX6_putSixHeader_113 rfl (lv_at hl 0 rfl) ?_
    refine va_get (D := (dC, dI)) (ci := 5) (v := .ref (a 10)) (C := RX6) (T := TX6) (N := 17) hx hb hu uX6 hown hK hI.1 0 rfl rfl 3 (by decide) (hu _ uww_221) (fun _ h9 => h9) rfl dX6_putSixHeader_114 ?_
    refine lv_aload_n hx hb dX6_putSixHeader_117 rfl (lv_at hl 3 rfl) ?_
    refine va_get (D := (dC, dI)) (ci := 0) (v := .int (M9 11 11)) (C := RX0) (T := TX0) (N := 18) hx hb hu uX0 hown hK hI.1 11 rfl rfl 11 (by decide) (hu _ uww_270) (u_same (hu _ uww_34)) rfl dX6_putSixHeader_118 ?_
    refine cpcalll_p hsz hI (va_runV (As := [.int (M9 11 11)]) (rest := [.int (8 : Int32), .int (p2 + (24 : Int32)), .ref (a 6)]) ⟨hx, hb, hml, hown, hu⟩ (met_X1_upperOf_10 l dC dI a kA t _ M9 L (M9 11 11) _ h) (cwl_X6_179_X1 hu ⟨by decide, by decide⟩) (cppre (ci := 1) hK hE hsz hI rfl rfl) rfl rfl hl.1 rfl (lv_room (Nat.le_of_ble_eq_true rfl)) dX6_putSixHeader_121 ⟨by decide, by decide⟩) (fun r10 H locs h hI => ?_)
    refine cpcallv_m hsz hI (va_runV (As := [.int (p2 + (24 : Int32)), .int (8 : Int32), .long r10]) (rest := []) ⟨hx, hb, hml, hown, hu⟩ (met_X4_put_6 l dC dI a kA t _ M9 L (p2 + (24 : Int32)) (8 : Int32) r10 _ h) (cwl_X6_99_X4 hu ⟨by decide, by decide⟩) (cppre (ci := 3) hK hE hsz hI rfl rfl) rfl rfl hl.1 rfl (lv_room (Nat.le_of_ble_eq_true rfl)) dX6_putSixHeader_124 ⟨by decide, by decide⟩) (fun M11 H locs h hI => ?_)
    refine lv_aload_n hx hb dX6_putSixHeader_127 rfl (lv_at hl 1 rfl) ?_
    refine lv_iload_n hx hb dX6_putSixHeader_128 rfl (lv_at hl 2 rfl) ?_
    refine lv_bipush (v := (32 : Int32)) hx hb dX6_putSixHeader_129 (by decide) ?_
    refine lv_iadd hx hb dX6_putSixHeader_131 ?_
    refine lv_bipush (v := (8 : Int32)) hx hb dX6_putSixHeader_132 (by decide) ?_
    refine lv_aload_n hx hb dX6_putSixHeader_134 rfl (lv_at hl 0 rfl) ?_
    refine va_get (D := (dC, dI)) (ci := 5) (v := .ref (a 10)) (C := RX6) (T := TX6) (N := 17) hx hb hu uX6 hown hK hI.1 0 rfl rfl 3 (by decide) (hu _ uww_221) (fun _ h9 => h9) rfl dX6_putSixHeader_135 ?_
    refine lv_aload_n hx hb dX6_putSixHeader_138 rfl (lv_at hl 3 rfl) ?_
    refine va_get (D := (dC, dI)) (ci := 0) (v := .int (M11 11 11)) (C := RX0) (T := TX0) (N := 18) hx hb hu uX0 hown hK hI.1 11 rfl rfl 11 (by decide) (hu _ uww_270) (u_same (hu _ uww_34)) rfl dX6_putSixHeader_139 ?_
    refine cpcalll_p hsz hI (va_runV (As := [.int (M11 11 11)]) (rest := [.int (8 : Int32), .int (p2 + (32 : Int32)), .ref (a 6)]) ⟨hx, hb, hml, hown, hu⟩ (met_X1_lowerOf_10 l dC dI a kA t _ M11 L (M11 11 11) _ h) (cwl_X6_175_X1 hu ⟨by decide, by decide⟩) (cppre (ci := 1) hK hE hsz hI rfl rfl) rfl rfl hl.1 rfl (lv_room (Nat.le_of_ble_eq_true rfl)) dX6_putSixHeader_142 ⟨by decide, by decide⟩) (fun r12 H locs h hI => ?_)
    refine cpcallv_m hsz hI (va_runV (As := [.int (p2 + (32 : Int32)), .int (8 : Int32), .long r12]) (rest := []) ⟨hx, hb, hml, hown, hu⟩ (met_X4_put_6 l dC dI a kA t _ M11 L (p2 + (32 : Int32)) (8 : Int32) r12 _ h) (cwl_X6_99_X4 hu ⟨by decide, by decide⟩) (cppre (ci := 3) hK hE hsz hI rfl rfl) rfl rfl hl.1 rfl (lv_room (Nat.le_of_ble_eq_true rfl)) dX6_putSixHeader_145 ⟨by decide, by decide⟩) (fun M13 H locs h hI => ?_)
    exact cpvret (Z := (fun M' L' => L' = L ∧ Z M')) hx hb hr hlocks hK hI dX6_putSixHeader_148 ⟨rfl, h⟩
  refine lv_if_eq (tgt := 23) hx hb dX6_putSixHeader_10 (by decide) (fun c14 => ?_) (fun c14 => ?_)
  · have h := h.1 c14
    refine lv_iconst (v := (0 : Int32)) hx hb dX6_putSixHeader_23 (by decide) ?_
    exact J24 (0 : Int32) _ _ _ h hI (lv_sub hl [0, 1, 2, 3, 4, 5, 6] rfl)
  · have h := h.2 c14
    refine lv_aload_n hx hb dX6_putSixHeader_13 rfl (lv_at hl 3 rfl) ?_
    refine va_get (D := (dC, dI)) (ci := 0) (v := .int (M 11 1)) (C := RX0) (T := TX0) (N := 18) hx hb hu uX0 hown hK hI.1 11 rfl rfl 1 (by decide) (hu _ uww_384) (u_same (hu _ uww_19)) rfl dX6_putSixHeader_14 ?_
    refine lv_bipush (v := (20 : Int32)) hx hb dX6_putSixHeader_17 (by decide) ?_
    refine lv_ishl hx hb dX6_putSixHeader_19 ?_
    refine lv_goto (tgt := 24) hx hb dX6_putSixHeader_20 (by decide) ?_
    exact J24 ((M 11 1) <<< ((20 : Int32) &&& 31)) _ _ _ h hI (lv_sub hl [0, 1, 2, 3, 4, 5, 6] rfl)

abbrev rm_X4_copy_6_3 : Room := { frames := 1, cells := 0, slots := 0, locals := 60 }
abbrev av_X4_copy_6_3 (a t : Nat → Nat) (p2 : Int32) (p3 : Int32) (p4 : Int32) : List Value := [.ref (a 6), .ref (a 3), .int p2, .int p3, .int p4]
abbrev qc_X4_copy_6_3 (dC : Nat → ClassId) (dI : Nat → Nat → Nat) (a : Nat → Nat) (kA : Nat → ClassId) (sz : Nat) (M : cM) (L : cL) (Z : cM → Prop) : Array Value → State → Outcome → State → Prop := va_Qv (fun (u : cM × cL) => u.2 = L ∧ Z u.1) (cpAt dC dI a kA (cpA a sz)) (cpA a sz)
set_option maxHeartbeats 4000000 in
set_option maxRecDepth 100000 in
theorem met_X4_copy_6_3 (l : Launch) (dC : Nat → ClassId) (dI : Nat → Nat → Nat) (a : Nat → Nat) (kA : Nat → ClassId) (t : Nat → Nat) (sz : Nat) (M : cM) (L : cL) (p2 : Int32) (p3 : Int32) (p4 : Int32) (Z : cM → Prop) (h : wp_X4_copy_6_3 M L p2 p3 p4 Z) : Met l yX4_copy (Cond.code yX4_copy cX4_copy 6 none :: uW) rm_X4_copy_6_3 (va_Pc (av_X4_copy_6_3 a t p2 p3 p4) (cpPre dC dI a kA t M L sz)) (qc_X4_copy_6_3 dC dI a kA sz M L Z) 0 0 (cpA a sz) := by
  refine cpenter (cc := cX4_copy) (n := 6) (ret := none) (by decide) rfl (Nat.le_of_ble_eq_true rfl) ?_
  intro p e s m below meth c ls hx hb hml hr hlocks hown hts hK hE hsz hI hl hmn
  have hu : ∀ w ∈ uW, w.before (av_X4_copy_6_3 a t p2 p3 p4).toArray s = true := fun w h => hts w (List.mem_cons_of_mem _ h)
  have hown : s.vm.findClass RX4 = some m.cls := hown
  have hl : lv_has ls 6 [(0, .ref (a 6)), (1, .ref (a 3)), (2, .int p2), (3, .int p3), (4, .int p4)] := hl
  unfold wp_X4_copy_6_3 at h
  refine lv_iload hx hb dX4_copy_0 (lv_at hl 4 rfl) ?_
  obtain ⟨K26, hK26, h⟩ := h
  have J26 : ∀ (v1 : Int32) (H : Heap) (locs : List Loc) (ls : Array Slot), K26 v1 → cpI dC dI a kA (cpA a sz) s M L H locs → lv_has ls 6 [(0, .ref (a 6)), (1, .ref (a 3)), (2, .int p2), (3, .int p3), (4, .int p4)] → W p l e rm_X4_copy_6_3 s m (av_X4_copy_6_3 a t p2 p3 p4).toArray below meth c H locs 0 0 (MQ below (qc_X4_copy_6_3 dC dI a kA sz M L Z) (av_X4_copy_6_3 a t p2 p3 p4).toArray s 0 0 (cpA a sz)) (F0 m 26 ls [.int v1]) := by
    intro v1 H locs ls h hI hl
    have h := hK26 v1 h
    refine lv_istore (lv' := [(5, .int v1), (0, .ref (a 6)), (1, .ref (a 3)), (2, .int p2), (3, .int p3), (4, .int p4)]) hx hb dX4_copy_26 hl (by decide) rfl (fun ls hl => ?_)
    refine lv_iload hx hb dX4_copy_28 (lv_at hl 0 rfl) ?_
    refine lv_if_eq (tgt := 64) hx hb dX4_copy_30 (by decide) (fun c2 => ?_) (fun c2 => ?_)
    · have h := h.1 c2
      exact cpvret (Z := (fun M' L' => L' = L ∧ Z M')) hx hb hr hlocks hK hI dX4_copy_64 ⟨rfl, h⟩
    · have h := h.2 c2
      refine lv_iload_n hx hb dX4_copy_33 rfl (lv_at hl 4 rfl) ?_
      refine lv_if_lt (tgt := 64) hx hb dX4_copy_34 (by decide) (fun c3 => ?_) (fun c3 => ?_)
      · have h := h.1 c3
        exact cpvret (Z := (fun M' L' => L' = L ∧ Z M')) hx hb hr hlocks hK hI dX4_copy_64 ⟨rfl, h⟩
      · have h := h.2 c3
        refine lv_iload_n hx hb dX4_copy_37 rfl (lv_at hl 4 rfl) ?_
        refine lv_aload_n hx hb dX4_copy_38 rfl (lv_at hl 1 rfl) ?_
        refine va_get (D := (dC, dI)) (ci := 3) (v := .ref (a 7)) (C := RX4) (T := TX4) (N := 2) hx hb hu uX4 hown hK hI.1 6 rfl rfl 0 (by decide) (hu _ uww_52) (fun _ h9 => h9) rfl dX4_copy_39 ?_
        refine va_alen (v := (3332 : Int32)) hx hb hK hI.1 7 2 rfl rfl rfl dX4_copy_42 ?_
        refine lv_iload hx hb dX4_copy_43 (lv_at hl 5 rfl) ?_
        refine lv_isub hx hb dX4_copy_45 ?_
        refine lv_icmp_gt (tgt := 64) hx hb dX4_copy_46 (by decide) (fun c4 => ?_) (fun c4 => ?_)
        · have h := h.1 c4
          exact cpvret (Z := (fun M' L' => L' = L ∧ Z M')) hx hb hr hlocks hK hI dX4_copy_64 ⟨rfl, h⟩
        · have h := h.2 c4
          refine lv_aload_n hx hb dX4_copy_49 rfl (lv_at hl 2 rfl) ?_
          refine va_get (D := (dC, dI)) (ci := 3) (v := .ref (a 4)) (C := RX4) (T := TX4) (N := 2) hx hb hu uX4 hown hK hI.1 3 rfl rfl 0 (by decide) (hu _ uww_52) (fun _ h9 => h9) rfl dX4_copy_50 ?_
          refine lv_iload_n hx hb dX4_copy_53 rfl (lv_at hl 3 rfl) ?_
          refine lv_aload_n hx hb dX4_copy_54 rfl (lv_at hl 1 rfl) ?_
          refine va_get (D := (dC, dI)) (ci := 3) (v := .ref (a 7)) (C := RX4) (T := TX4) (N := 2) hx hb hu uX4 hown hK hI.1 6 rfl rfl 0 (by decide) (hu _ uww_52) (fun _ h9 => h9) rfl dX4_copy_55 ?_
          refine lv_iload_n hx hb dX4_copy_58 rfl (lv_at hl 4 rfl) ?_
          refine lv_iload hx hb dX4_copy_59 (lv_at hl 5 rfl) ?_
          refine va_copyi (ty := .byte) hx hb (hml.trans hl.1.symm) hown (hu _ uww_143) (hu _ uww_144) (hu _ uww_145) (hu _ uww_146) hK hI.1 hI.2.1 hI.2.2 4 7 1 2 rfl rfl rfl rfl rfl h.1.1 h.1.2.1 h.1.2.2.1 h.1.2.2.2.1 h.1.2.2.2.2.1 h.1.2.2.2.2.2 (Nat.le_of_ble_eq_true rfl) (Nat.le_of_ble_eq_true rfl) dX4_copy_61 (fun H locs hP hD hS => ?_)
          obtain ⟨M5, eM5⟩ : ∃ z : cM, z = ms M 7 (va_cpy (M 4) (M 7) p2.toNatClampNeg p3.toNatClampNeg p4.toNatClampNeg) := ⟨_, rfl⟩
          have hI : cpI dC dI a kA (cpA a sz) s M5 L H locs := ⟨by rw [eM5]; exact cpsets_7 _ _ _ _ _ ▸ hP, by rw [eM5]; exact cpsets_7 _ _ _ _ _ ▸ hD, hS⟩
          have h := h.2 M5 eM5
          exact cpvret (Z := (fun M' L' => L' = L ∧ Z M')) hx hb hr hlocks hK hI dX4_copy_64 ⟨rfl, h⟩
  obtain ⟨K25, hK25, h⟩ := h
  have J25 : ∀  (H : Heap) (locs : List Loc) (ls : Array Slot), K25  → cpI dC dI a kA (cpA a sz) s M L H locs → lv_has ls 6 [(0, .ref (a 6)), (1, .ref (a 3)), (2, .int p2), (3, .int p3), (4, .int p4)] → W p l e rm_X4_copy_6_3 s m (av_X4_copy_6_3 a t p2 p3 p4).toArray below meth c H locs 0 0 (MQ below (qc_X4_copy_6_3 dC dI a kA sz M L Z) (av_X4_copy_6_3 a t p2 p3 p4).toArray s 0 0 (cpA a sz)) (F0 m 25 ls []) := by
    intro  H locs ls h hI hl
    have h := hK25  h
    refine lv_iconst (v := (0 : Int32)) hx hb dX4_copy_25 (by decide) ?_
    exact J26 (0 : Int32) _ _ _ h hI (lv_sub hl [0, 1, 2, 3, 4] rfl)
  refine lv_if_le (tgt := 25) hx hb dX4_copy_2 (by decide) (fun c6 => ?_) (fun c6 => ?_)
  · have h := h.1 c6
    exact J25  _ _ _ h hI (lv_sub hl [0, 1, 2, 3, 4] rfl)
  · have h := h.2 c6
    refine lv_iload_n hx hb dX4_copy_5 rfl (lv_at hl 2 rfl) ?_
    refine lv_if_lt (tgt := 25) hx hb dX4_copy_6 (by decide) (fun c7 => ?_) (fun c7 => ?_)
    · have h := h.1 c7
      exact J25  _ _ _ h hI (lv_sub hl [0, 1, 2, 3, 4] rfl)
    · have h := h.2 c7
      refine lv_iload_n hx hb dX4_copy_9 rfl (lv_at hl 2 rfl) ?_
      refine lv_aload_n hx hb dX4_copy_10 rfl (lv_at hl 1 rfl) ?_
      refine va_get (D := (dC, dI)) (ci := 3) (v := .ref (a 4)) (C := RX4) (T := TX4) (N := 2) hx hb hu uX4 hown hK hI.1 3 rfl rfl 0 (by decide) (hu _ uww_52) (fun _ h9 => h9) rfl dX4_copy_11 ?_
      refine va_alen (v := (2408 : Int32)) hx hb hK hI.1 4 1 rfl rfl rfl dX4_copy_14 ?_
      refine lv_iload hx hb dX4_copy_15 (lv_at hl 4 rfl) ?_
      refine lv_isub hx hb dX4_copy_17 ?_
      refine lv_icmp_gt (tgt := 25) hx hb dX4_copy_18 (by decide) (fun c8 => ?_) (fun c8 => ?_)
      · have h := h.1 c8
        exact J25  _ _ _ h hI (lv_sub hl [0, 1, 2, 3, 4] rfl)
      · have h := h.2 c8
        refine lv_iconst (v := (1 : Int32)) hx hb dX4_copy_21 (by decide) ?_
        refine lv_goto (tgt := 26) hx hb dX4_copy_22 (by decide) ?_
        exact J26 (1 : Int32) _ _ _ h hI (lv_sub hl [0, 1, 2, 3, 4] rfl)

abbrev rm_X6_putFragmentHeader_6 : Room := { frames := 1, cells := 0, slots := 0, locals := 26 }
abbrev av_X6_putFragmentHeader_6 (a t : Nat → Nat) (p1 : Int32) (p2 : Int32) (p3 : Int32) (p4 : Int32) (p5 : Int32) : List Value := [.ref (a 6), .int p1, .int p2, .int p3, .int p4, .int p5]
abbrev qc_X6_putFragmentHeader_6 (dC : Nat → ClassId) (dI : Nat → Nat → Nat) (a : Nat → Nat) (kA : Nat → ClassId) (sz : Nat) (M : cM) (L : cL) (Z : cM → Prop) : Array Value → State → Outcome → State → Prop := va_Qv (fun (u : cM × cL) => u.2 = L ∧ Z u.1) (cpAt dC dI a kA (cpA a sz)) (cpA a sz)
set_option maxHeartbeats 4000000 in
set_option maxRecDepth 100000 in
theorem met_X6_putFragmentHeader_6 (l : Launch) (dC : Nat → ClassId) (dI : Nat → Nat → Nat) (a : Nat → Nat) (kA : Nat → ClassId) (t : Nat → Nat) (sz : Nat) (M : cM) (L : cL) (p1 : Int32) (p2 : Int32) (p3 : Int32) (p4 : Int32) (p5 : Int32) (Z : cM → Prop) (h : wp_X6_putFragmentHeader_6 M L p1 p2 p3 p4 p5 Z) : Met l yX6_putFragmentHeader (Cond.code yX6_putFragmentHeader cX6_putFragmentHeader 6 none :: uW) rm_X6_putFragmentHeader_6 (va_Pc (av_X6_putFragmentHeader_6 a t p1 p2 p3 p4 p5) (cpPre dC dI a kA t M L sz)) (qc_X6_putFragmentHeader_6 dC dI a kA sz M L Z) 0 0 (cpA a sz) := by
  refine cpenter (cc := cX6_putFragmentHeader) (n := 6) (ret := none) (by decide) rfl (Nat.le_of_ble_eq_true rfl) ?_
  intro p e s m below meth c ls hx hb hml hr hlocks hown hts hK hE hsz hI hl hmn
  have hu : ∀ w ∈ uW, w.before (av_X6_putFragmentHeader_6 a t p1 p2 p3 p4 p5).toArray s = true := fun w h => hts w (List.mem_cons_of_mem _ h)
  have hown : s.vm.findClass RX6 = some m.cls := hown
  have hl : lv_has ls 6 [(0, .ref (a 6)), (1, .int p1), (2, .int p2), (3, .int p3), (4, .int p4), (5, .int p5)] := hl
  unfold wp_X6_putFragmentHeader_6 at h
  refine lv_aload_n hx hb dX6_putFragmentHeader_0 rfl (lv_at hl 0 rfl) ?_
  refine lv_iload_n hx hb dX6_putFragmentHeader_1 rfl (lv_at hl 1 rfl) ?_
  refine lv_iconst (v := (2 : Int32)) hx hb dX6_putFragmentHeader_2 (by decide) ?_
  refine lv_iload_n hx hb dX6_putFragmentHeader_3 rfl (lv_at hl 2 rfl) ?_
  refine lv_bipush (v := (8 : Int32)) hx hb dX6_putFragmentHeader_4 (by decide) ?_
  refine lv_ishl hx hb dX6_putFragmentHeader_6 ?_
  refine lv_i2l hx hb dX6_putFragmentHeader_7 rfl ?_
  refine cpcallv_m hsz hI (va_runV (As := [.int p1, .int (2 : Int32), .long ((p2 <<< ((8 : Int32) &&& 31)).toInt64)]) (rest := []) ⟨hx, hb, hml, hown, hu⟩ (met_X4_put_6 l dC dI a kA t _ M L p1 (2 : Int32) ((p2 <<< ((8 : Int32) &&& 31)).toInt64) _ h) (cwl_X6_99_X4 hu ⟨by decide, by decide⟩) (cppre (ci := 3) hK hE hsz hI rfl rfl) rfl rfl hl.1 rfl (lv_room (Nat.le_of_ble_eq_true rfl)) dX6_putFragmentHeader_8 ⟨by decide, by decide⟩) (fun M1 H locs h hI => ?_)
  refine lv_aload_n hx hb dX6_putFragmentHeader_11 rfl (lv_at hl 0 rfl) ?_
  refine lv_iload_n hx hb dX6_putFragmentHeader_12 rfl (lv_at hl 1 rfl) ?_
  refine lv_iconst (v := (2 : Int32)) hx hb dX6_putFragmentHeader_13 (by decide) ?_
  refine lv_iadd hx hb dX6_putFragmentHeader_14 ?_
  refine lv_iconst (v := (2 : Int32)) hx hb dX6_putFragmentHeader_15 (by decide) ?_
  refine lv_iload_n hx hb dX6_putFragmentHeader_16 rfl (lv_at hl 3 rfl) ?_
  refine lv_iconst (v := (3 : Int32)) hx hb dX6_putFragmentHeader_17 (by decide) ?_
  refine lv_ishl hx hb dX6_putFragmentHeader_18 ?_
  refine lv_iload hx hb dX6_putFragmentHeader_19 (lv_at hl 4 rfl) ?_
  obtain ⟨K29, hK29, h⟩ := h
  have J29 : ∀ (v2 : Int32) (H : Heap) (locs : List Loc) (ls : Array Slot), K29 v2 → cpI dC dI a kA (cpA a sz) s M1 L H locs → lv_has ls 6 [(0, .ref (a 6)), (1, .int p1), (5, .int p5)] → W p l e rm_X6_putFragmentHeader_6 s m (av_X6_putFragmentHeader_6 a t p1 p2 p3 p4 p5).toArray below meth c H locs 0 0 (MQ below (qc_X6_putFragmentHeader_6 dC dI a kA sz M L Z) (av_X6_putFragmentHeader_6 a t p1 p2 p3 p4 p5).toArray s 0 0 (cpA a sz)) (F0 m 29 ls [.int v2, .int (p3 <<< ((3 : Int32) &&& 31)), .int (2 : Int32), .int (p1 + (2 : Int32)), .ref (a 6)]) := by
    intro v2 H locs ls h hI hl
    have h := hK29 v2 h
    refine lv_ior hx hb dX6_putFragmentHeader_29 ?_
    refine lv_i2l hx hb dX6_putFragmentHeader_30 rfl ?_
    refine cpcallv_m hsz hI (va_runV (As := [.int (p1 + (2 : Int32)), .int (2 : Int32), .long (((p3 <<< ((3 : Int32) &&& 31)) ||| v2).toInt64)]) (rest := []) ⟨hx, hb, hml, hown, hu⟩ (met_X4_put_6 l dC dI a kA t _ M1 L (p1 + (2 : Int32)) (2 : Int32) (((p3 <<< ((3 : Int32) &&& 31)) ||| v2).toInt64) _ h) (cwl_X6_99_X4 hu ⟨by decide, by decide⟩) (cppre (ci := 3) hK hE hsz hI rfl rfl) rfl rfl hl.1 rfl (lv_room (Nat.le_of_ble_eq_true rfl)) dX6_putFragmentHeader_31 ⟨by decide, by decide⟩) (fun M3 H locs h hI => ?_)
    refine lv_aload_n hx hb dX6_putFragmentHeader_34 rfl (lv_at hl 0 rfl) ?_
    refine lv_iload_n hx hb dX6_putFragmentHeader_35 rfl (lv_at hl 1 rfl) ?_
    refine lv_iconst (v := (4 : Int32)) hx hb dX6_putFragmentHeader_36 (by decide) ?_
    refine lv_iadd hx hb dX6_putFragmentHeader_37 ?_
    refine lv_iconst (v := (4 : Int32)) hx hb dX6_putFragmentHeader_38 (by decide) ?_
    refine lv_iload hx hb dX6_putFragmentHeader_39 (lv_at hl 2 rfl) ?_
    refine lv_i2l hx hb dX6_putFragmentHeader_41 rfl ?_
    refine cpcallv_m hsz hI (va_runV (As := [.int (p1 + (4 : Int32)), .int (4 : Int32), .long (p5.toInt64)]) (rest := []) ⟨hx, hb, hml, hown, hu⟩ (met_X4_put_6 l dC dI a kA t _ M3 L (p1 + (4 : Int32)) (4 : Int32) (p5.toInt64) _ h) (cwl_X6_99_X4 hu ⟨by decide, by decide⟩) (cppre (ci := 3) hK hE hsz hI rfl rfl) rfl rfl hl.1 rfl (lv_room (Nat.le_of_ble_eq_true rfl)) dX6_putFragmentHeader_42 ⟨by decide, by decide⟩) (fun M4 H locs h hI => ?_)
    exact cpvret (Z := (fun M' L' => L' = L ∧ Z M')) hx hb hr hlocks hK hI dX6_putFragmentHeader_45 ⟨rfl, h⟩
  refine lv_if_eq (tgt := 28) hx hb dX6_putFragmentHeader_21 (by decide) (fun c5 => ?_) (fun c5 => ?_)
  · have h := h.1 c5
    refine lv_iconst (v := (0 : Int32)) hx hb dX6_putFragmentHeader_28 (by decide) ?_
    exact J29 (0 : Int32) _ _ _ h hI (lv_sub hl [0, 1, 5] rfl)
  · have h := h.2 c5
    refine lv_iconst (v := (1 : Int32)) hx hb dX6_putFragmentHeader_24 (by decide) ?_
    refine lv_goto (tgt := 29) hx hb dX6_putFragmentHeader_25 (by decide) ?_
    exact J29 (1 : Int32) _ _ _ h hI (lv_sub hl [0, 1, 5] rfl)

abbrev rm_X0_fragmentHeader_11 : Room := { frames := 1, cells := 0, slots := 0, locals := 20 }
abbrev av_X0_fragmentHeader_11 (a t : Nat → Nat)  : List Value := [.ref (a 11)]
abbrev qc_X0_fragmentHeader_11 (dC : Nat → ClassId) (dI : Nat → Nat → Nat) (a : Nat → Nat) (kA : Nat → ClassId) (sz : Nat) (M : cM) (L : cL) (Z : Int32 → Prop) : Array Value → State → Outcome → State → Prop := va_Qi (fun r (u : cM × cL) => u.1 = M ∧ u.2 = L ∧ Z r) (cpAt dC dI a kA (cpA a sz)) (cpA a sz)
set_option maxHeartbeats 4000000 in
set_option maxRecDepth 100000 in
theorem met_X0_fragmentHeader_11 (l : Launch) (dC : Nat → ClassId) (dI : Nat → Nat → Nat) (a : Nat → Nat) (kA : Nat → ClassId) (t : Nat → Nat) (sz : Nat) (M : cM) (L : cL)  (Z : Int32 → Prop) (h : wp_X0_fragmentHeader_11 M L  Z) : Met l yX0_fragmentHeader (Cond.code yX0_fragmentHeader cX0_fragmentHeader 1 (some .int) :: uW) rm_X0_fragmentHeader_11 (va_Pc (av_X0_fragmentHeader_11 a t ) (cpPre dC dI a kA t M L sz)) (qc_X0_fragmentHeader_11 dC dI a kA sz M L Z) 0 0 (cpA a sz) := by
  refine cpenter (cc := cX0_fragmentHeader) (n := 1) (ret := (some .int)) (by decide) rfl (Nat.le_of_ble_eq_true rfl) ?_
  intro p e s m below meth c ls hx hb hml hr hlocks hown hts hK hE hsz hI hl hmn
  have hu : ∀ w ∈ uW, w.before (av_X0_fragmentHeader_11 a t ).toArray s = true := fun w h => hts w (List.mem_cons_of_mem _ h)
  have hown : s.vm.findClass RX0 = some m.cls := hown
  have hl : lv_has ls 1 [(0, .ref (a 11))] := hl
  unfold wp_X0_fragmentHeader_11 at h
  refine lv_aload_n hx hb dX0_fragmentHeader_0 rfl (lv_at hl 0 rfl) ?_
  refine cpcalli_p hsz hI (va_runU (As := []) (rest := []) ⟨hx, hb, hml, hown, hu⟩ (met_X2_fragment_11 l dC dI a kA t _ M L  _ h) (cwl_X0_104_X0 hu ⟨by decide, by decide⟩) (cppre (ci := 0) hK hE hsz hI rfl rfl) rfl rfl hl.1 rfl (lv_room (Nat.le_of_ble_eq_true rfl)) dX0_fragmentHeader_1 ⟨by decide, by decide⟩) (fun r1 H locs h hI => ?_)
  refine lv_if_eq (tgt := 12) hx hb dX0_fragmentHeader_4 (by decide) (fun c2 => ?_) (fun c2 => ?_)
  · have h := h.1 c2
    refine lv_iconst (v := (0 : Int32)) hx hb dX0_fragmentHeader_12 (by decide) ?_
    exact cpiret (Z := (fun r M' L' => M' = M ∧ L' = L ∧ Z r)) hx hb hr hlocks hK hI dX0_fragmentHeader_13 ⟨rfl, rfl, h⟩
  · have h := h.2 c2
    refine lv_bipush (v := (8 : Int32)) hx hb dX0_fragmentHeader_7 (by decide) ?_
    refine lv_goto (tgt := 13) hx hb dX0_fragmentHeader_9 (by decide) ?_
    exact cpiret (Z := (fun r M' L' => M' = M ∧ L' = L ∧ Z r)) hx hb hr hlocks hK hI dX0_fragmentHeader_13 ⟨rfl, rfl, h⟩

abbrev rm_X6_sendSix_0_11 : Room := { frames := 3, cells := 0, slots := 0, locals := 85 }
abbrev av_X6_sendSix_0_11 (a t : Nat → Nat)  : List Value := [.ref (a 0), .ref (a 11)]
abbrev qc_X6_sendSix_0_11 (dC : Nat → ClassId) (dI : Nat → Nat → Nat) (a : Nat → Nat) (kA : Nat → ClassId) (sz : Nat) (M : cM) (L : cL) (Z : cM → Prop) : Array Value → State → Outcome → State → Prop := va_Qv (fun (u : cM × cL) => u.2 = L ∧ Z u.1) (cpAt dC dI a kA (cpA a sz)) (cpA a sz)
set_option maxHeartbeats 4000000 in
set_option maxRecDepth 100000 in
theorem met_X6_sendSix_0_11 (l : Launch) (dC : Nat → ClassId) (dI : Nat → Nat → Nat) (a : Nat → Nat) (kA : Nat → ClassId) (t : Nat → Nat) (sz : Nat) (M : cM) (L : cL)  (Z : cM → Prop) (h : wp_X6_sendSix_0_11 M L  Z) : Met l yX6_sendSix (Cond.code yX6_sendSix cX6_sendSix 12 none :: uW) rm_X6_sendSix_0_11 (va_Pc (av_X6_sendSix_0_11 a t ) (cpPre dC dI a kA t M L sz)) (qc_X6_sendSix_0_11 dC dI a kA sz M L Z) 0 0 (cpA a sz) := by
  refine cpenter (cc := cX6_sendSix) (n := 12) (ret := none) (by decide) rfl (Nat.le_of_ble_eq_true rfl) ?_
  intro p e s m below meth c ls hx hb hml hr hlocks hown hts hK hE hsz hI hl hmn
  have hu : ∀ w ∈ uW, w.before (av_X6_sendSix_0_11 a t ).toArray s = true := fun w h => hts w (List.mem_cons_of_mem _ h)
  have hown : s.vm.findClass RX6 = some m.cls := hown
  have hl : lv_has ls 12 [(0, .ref (a 0)), (1, .ref (a 11))] := hl
  unfold wp_X6_sendSix_0_11 at h
  refine lv_aload_n hx hb dX6_sendSix_0 rfl (lv_at hl 1 rfl) ?_
  refine va_get (D := (dC, dI)) (ci := 0) (v := .int (M 11 3)) (C := RX0) (T := TX0) (N := 18) hx hb hu uX0 hown hK hI.1 11 rfl rfl 3 (by decide) (hu _ uww_274) (u_same (hu _ uww_30)) rfl dX6_sendSix_1 ?_
  refine lv_iconst (v := (1 : Int32)) hx hb dX6_sendSix_4 (by decide) ?_
  obtain ⟨K17, hK17, h⟩ := h
  have J17 : ∀ (v1 : Int32) (H : Heap) (locs : List Loc) (ls : Array Slot), K17 v1 → cpI dC dI a kA (cpA a sz) s M L H locs → lv_has ls 12 [(0, .ref (a 0)), (1, .ref (a 11))] → W p l e rm_X6_sendSix_0_11 s m (av_X6_sendSix_0_11 a t ).toArray below meth c H locs 0 0 (MQ below (qc_X6_sendSix_0_11 dC dI a kA sz M L Z) (av_X6_sendSix_0_11 a t ).toArray s 0 0 (cpA a sz)) (F0 m 17 ls [.int v1]) := by
    intro v1 H locs ls h hI hl
    have h := hK17 v1 h
    refine lv_istore_n (lv' := [(2, .int v1), (0, .ref (a 0)), (1, .ref (a 11))]) hx hb dX6_sendSix_17 rfl hl (by decide) rfl (fun ls hl => ?_)
    refine lv_aload_n hx hb dX6_sendSix_18 rfl (lv_at hl 2 rfl) ?_
    refine va_getN (D := (dC, dI)) (ci := 0) (v := .int (M 11 16)) (C := RX0) (T := TX0) (N := 18) hx hb hu uX0 hown hK hI.1 11 rfl rfl 16 (by decide) (va_Nw.use rfl (hE.1 _ cpn_11)) (fun _ h9 => h9) rfl dX6_sendSix_19 ?_
    obtain ⟨K51, hK51, h⟩ := h
    have J51 : ∀ (v2 : Int32) (H : Heap) (locs : List Loc) (ls : Array Slot), K51 v2 → cpI dC dI a kA (cpA a sz) s M L H locs → lv_has ls 12 [(0, .ref (a 0)), (1, .ref (a 11)), (2, .int v1)] → W p l e rm_X6_sendSix_0_11 s m (av_X6_sendSix_0_11 a t ).toArray below meth c H locs 0 0 (MQ below (qc_X6_sendSix_0_11 dC dI a kA sz M L Z) (av_X6_sendSix_0_11 a t ).toArray s 0 0 (cpA a sz)) (F0 m 51 ls [.int v2]) := by
      intro v2 H locs ls h hI hl
      have h := hK51 v2 h
      refine lv_istore_n (lv' := [(3, .int v2), (0, .ref (a 0)), (1, .ref (a 11)), (2, .int v1)]) hx hb dX6_sendSix_51 rfl hl (by decide) rfl (fun ls hl => ?_)
      refine lv_iload_n hx hb dX6_sendSix_52 rfl (lv_at hl 0 rfl) ?_
      obtain ⟨K68, hK68, h⟩ := h
      have J68 : ∀ (v3 : Int32) (H : Heap) (locs : List Loc) (ls : Array Slot), K68 v3 → cpI dC dI a kA (cpA a sz) s M L H locs → lv_has ls 12 [(0, .ref (a 0)), (1, .ref (a 11)), (2, .int v1), (3, .int v2)] → W p l e rm_X6_sendSix_0_11 s m (av_X6_sendSix_0_11 a t ).toArray below meth c H locs 0 0 (MQ below (qc_X6_sendSix_0_11 dC dI a kA sz M L Z) (av_X6_sendSix_0_11 a t ).toArray s 0 0 (cpA a sz)) (F0 m 68 ls [.int v3]) := by
        intro v3 H locs ls h hI hl
        have h := hK68 v3 h
        refine lv_istore (lv' := [(4, .int v3), (0, .ref (a 0)), (1, .ref (a 11)), (2, .int v1), (3, .int v2)]) hx hb dX6_sendSix_68 hl (by decide) rfl (fun ls hl => ?_)
        refine lv_iload hx hb dX6_sendSix_70 (lv_at hl 0 rfl) ?_
        obtain ⟨K81, hK81, h⟩ := h
        have J81 : ∀ (v4 : Int32) (H : Heap) (locs : List Loc) (ls : Array Slot), K81 v4 → cpI dC dI a kA (cpA a sz) s M L H locs → lv_has ls 12 [(0, .ref (a 0)), (1, .ref (a 11)), (2, .int v1), (3, .int v2), (4, .int v3)] → W p l e rm_X6_sendSix_0_11 s m (av_X6_sendSix_0_11 a t ).toArray below meth c H locs 0 0 (MQ below (qc_X6_sendSix_0_11 dC dI a kA sz M L Z) (av_X6_sendSix_0_11 a t ).toArray s 0 0 (cpA a sz)) (F0 m 81 ls [.int v4]) := by
          intro v4 H locs ls h hI hl
          have h := hK81 v4 h
          refine lv_istore (lv' := [(5, .int v4), (0, .ref (a 0)), (1, .ref (a 11)), (2, .int v1), (3, .int v2), (4, .int v3)]) hx hb dX6_sendSix_81 hl (by decide) rfl (fun ls hl => ?_)
          refine lv_iconst (v := (0 : Int32)) hx hb dX6_sendSix_83 (by decide) ?_
          refine lv_istore (lv' := [(6, .int (0 : Int32)), (5, .int v4), (0, .ref (a 0)), (1, .ref (a 11)), (2, .int v1), (3, .int v2), (4, .int v3)]) hx hb dX6_sendSix_84 hl (by decide) rfl (fun ls hl => ?_)
          refine lv_iconst (v := (0 : Int32)) hx hb dX6_sendSix_86 (by decide) ?_
          refine lv_istore (lv' := [(7, .int (0 : Int32)), (6, .int (0 : Int32)), (5, .int v4), (0, .ref (a 0)), (1, .ref (a 11)), (2, .int v1), (3, .int v2), (4, .int v3)]) hx hb dX6_sendSix_87 hl (by decide) rfl (fun ls hl => ?_)
          obtain ⟨I89, m89, h, hs89⟩ := h
          have P89 : ∀ (n89 : Nat) (x5 : Int32) (x6 : Int32) (M7 : cM) (H : Heap) (locs : List Loc) (ls : Array Slot), I89 x5 x6 M7 → m89 x5 x6 M7 < n89 → cpI dC dI a kA (cpA a sz) s M7 L H locs → lv_has ls 12 [(0, .ref (a 0)), (1, .ref (a 11)), (2, .int v1), (3, .int v2), (4, .int v3), (5, .int v4), (6, .int x5), (7, .int x6)] → W p l e rm_X6_sendSix_0_11 s m (av_X6_sendSix_0_11 a t ).toArray below meth c H locs 0 0 (MQ below (qc_X6_sendSix_0_11 dC dI a kA sz M L Z) (av_X6_sendSix_0_11 a t ).toArray s 0 0 (cpA a sz)) (F0 m 89 ls []) := by
            intro n89
            induction n89 with
            | zero => intro x5 x6 M7 H locs ls _ hn; exact absurd hn (Nat.not_lt_zero _)
            | succ n89 ih89 =>
              intro x5 x6 M7 H locs ls h hn89 hI hl
              have h := hs89 x5 x6 M7 h
              refine lv_iload hx hb dX6_sendSix_89 (lv_at hl 7 rfl) ?_
              refine lv_bipush (v := (49 : Int32)) hx hb dX6_sendSix_91 (by decide) ?_
              refine lv_icmp_ge (tgt := 299) hx hb dX6_sendSix_93 (by decide) (fun c8 => ?_) (fun c8 => ?_)
              · have h := h.1 c8
                exact cpvret (Z := (fun M' L' => L' = L ∧ Z M')) hx hb hr hlocks hK hI dX6_sendSix_299 ⟨rfl, h⟩
              · have h := h.2 c8
                refine lv_iload hx hb dX6_sendSix_96 (lv_at hl 6 rfl) ?_
                refine lv_aload_n hx hb dX6_sendSix_98 rfl (lv_at hl 0 rfl) ?_
                refine va_get (D := (dC, dI)) (ci := 5) (v := .ref (a 3)) (C := RX6) (T := TX6) (N := 17) hx hb hu uX6 hown hK hI.1 0 rfl rfl 1 (by decide) (hu _ uww_214) (fun _ h9 => h9) rfl dX6_sendSix_99 ?_
                refine va_getN (D := (dC, dI)) (ci := 3) (v := .int (M7 3 1)) (C := RX4) (T := TX4) (N := 2) hx hb hu uX4 hown hK hI.1 3 rfl rfl 1 (by decide) (va_Nw.use rfl (hE.1 _ cpn_1)) (fun _ h9 => h9) rfl dX6_sendSix_102 ?_
                refine lv_icmp_gt (tgt := 299) hx hb dX6_sendSix_105 (by decide) (fun c9 => ?_) (fun c9 => ?_)
                · have h := h.1 c9
                  exact cpvret (Z := (fun M' L' => L' = L ∧ Z M')) hx hb hr hlocks hK hI dX6_sendSix_299 ⟨rfl, h⟩
                · have h := h.2 c9
                  refine lv_aload_n hx hb dX6_sendSix_108 rfl (lv_at hl 0 rfl) ?_
                  refine va_get (D := (dC, dI)) (ci := 5) (v := .ref (a 3)) (C := RX6) (T := TX6) (N := 17) hx hb hu uX6 hown hK hI.1 0 rfl rfl 1 (by decide) (hu _ uww_214) (fun _ h9 => h9) rfl dX6_sendSix_109 ?_
                  refine va_getN (D := (dC, dI)) (ci := 3) (v := .int (M7 3 1)) (C := RX4) (T := TX4) (N := 2) hx hb hu uX4 hown hK hI.1 3 rfl rfl 1 (by decide) (va_Nw.use rfl (hE.1 _ cpn_1)) (fun _ h9 => h9) rfl dX6_sendSix_112 ?_
                  refine lv_iload hx hb dX6_sendSix_115 (lv_at hl 6 rfl) ?_
                  refine lv_isub hx hb dX6_sendSix_117 ?_
                  refine lv_topi (fun x10 ex10 => ?_)
                  have h := h x10 ex10
                  refine lv_istore (lv' := [(8, .int x10), (0, .ref (a 0)), (1, .ref (a 11)), (2, .int v1), (3, .int v2), (4, .int v3), (5, .int v4), (6, .int x5), (7, .int x6)]) hx hb dX6_sendSix_118 hl (by decide) rfl (fun ls hl => ?_)
                  refine lv_iload_n hx hb dX6_sendSix_120 rfl (lv_at hl 4 rfl) ?_
                  obtain ⟨K137, hK137, h⟩ := h
                  have J137 : ∀ (v11 : Int32) (H : Heap) (locs : List Loc) (ls : Array Slot), K137 v11 → cpI dC dI a kA (cpA a sz) s M7 L H locs → lv_has ls 12 [(0, .ref (a 0)), (1, .ref (a 11)), (2, .int v1), (3, .int v2), (4, .int v3), (5, .int v4), (6, .int x5), (7, .int x6), (8, .int x10)] → W p l e rm_X6_sendSix_0_11 s m (av_X6_sendSix_0_11 a t ).toArray below meth c H locs 0 0 (MQ below (qc_X6_sendSix_0_11 dC dI a kA sz M L Z) (av_X6_sendSix_0_11 a t ).toArray s 0 0 (cpA a sz)) (F0 m 137 ls [.int v11]) := by
                    intro v11 H locs ls h hI hl
                    have h := hK137 v11 h
                    refine lv_istore (lv' := [(9, .int v11), (0, .ref (a 0)), (1, .ref (a 11)), (2, .int v1), (3, .int v2), (4, .int v3), (5, .int v4), (6, .int x5), (7, .int x6), (8, .int x10)]) hx hb dX6_sendSix_137 hl (by decide) rfl (fun ls hl => ?_)
                    refine lv_aload_n hx hb dX6_sendSix_139 rfl (lv_at hl 1 rfl) ?_
                    refine va_get (D := (dC, dI)) (ci := 5) (v := .ref (a 5)) (C := RX6) (T := TX6) (N := 17) hx hb hu uX6 hown hK hI.1 0 rfl rfl 2 (by decide) (hu _ uww_218) (fun _ h9 => h9) rfl dX6_sendSix_140 ?_
                    refine lv_bipush (v := (40 : Int32)) hx hb dX6_sendSix_143 (by decide) ?_
                    refine lv_iload hx hb dX6_sendSix_145 (lv_at hl 6 rfl) ?_
                    refine lv_iadd hx hb dX6_sendSix_147 ?_
                    refine lv_iload hx hb dX6_sendSix_148 (lv_at hl 0 rfl) ?_
                    refine lv_iadd hx hb dX6_sendSix_150 ?_
                    refine cpcalli_m hsz hI (va_runV (As := [.int (((40 : Int32) + v4) + v11)]) (rest := []) ⟨hx, hb, hml, hown, hu⟩ (met_X3_open_5 l dC dI a kA t _ M7 L (((40 : Int32) + v4) + v11) _ h) (cwl_X6_373_X3 hu ⟨by decide, by decide⟩) (cppre (ci := 2) hK hE hsz hI rfl rfl) rfl rfl hl.1 rfl (lv_room (Nat.le_of_ble_eq_true rfl)) dX6_sendSix_151 ⟨by decide, by decide⟩) (fun r12 M13 H locs h hI => ?_)
                    refine lv_istore (lv' := [(10, .int r12), (9, .int v11), (0, .ref (a 0)), (1, .ref (a 11)), (2, .int v1), (3, .int v2), (4, .int v3), (5, .int v4), (6, .int x5), (7, .int x6), (8, .int x10)]) hx hb dX6_sendSix_154 hl (by decide) rfl (fun ls hl => ?_)
                    refine lv_aload_n hx hb dX6_sendSix_156 rfl (lv_at hl 2 rfl) ?_
                    refine lv_aload_n hx hb dX6_sendSix_157 rfl (lv_at hl 2 rfl) ?_
                    refine va_get (D := (dC, dI)) (ci := 5) (v := .ref (a 5)) (C := RX6) (T := TX6) (N := 17) hx hb hu uX6 hown hK hI.1 0 rfl rfl 2 (by decide) (hu _ uww_218) (fun _ h9 => h9) rfl dX6_sendSix_158 ?_
                    refine va_getN (D := (dC, dI)) (ci := 2) (v := .ref (a 6)) (C := RX3) (T := TX3) (N := 4) hx hb hu uX3 hown hK hI.1 5 rfl rfl 0 (by decide) (va_Nw.use rfl (hE.1 _ cpn_4)) (fun _ h9 => h9) rfl dX6_sendSix_161 ?_
                    refine lv_iload hx hb dX6_sendSix_164 (lv_at hl 0 rfl) ?_
                    refine lv_aload_n hx hb dX6_sendSix_166 rfl (lv_at hl 3 rfl) ?_
                    refine lv_iload hx hb dX6_sendSix_167 (lv_at hl 7 rfl) ?_
                    refine lv_iload hx hb dX6_sendSix_169 (lv_at hl 1 rfl) ?_
                    refine lv_iadd hx hb dX6_sendSix_171 ?_
                    refine lv_iload hx hb dX6_sendSix_172 (lv_at hl 6 rfl) ?_
                    obtain ⟨K183, hK183, h⟩ := h
                    have J183 : ∀ (v14 : Int32) (H : Heap) (locs : List Loc) (ls : Array Slot), K183 v14 → cpI dC dI a kA (cpA a sz) s M13 L H locs → lv_has ls 12 [(0, .ref (a 0)), (1, .ref (a 11)), (2, .int v1), (3, .int v2), (4, .int v3), (5, .int v4), (6, .int x5), (7, .int x6), (8, .int x10), (9, .int v11), (10, .int r12)] → W p l e rm_X6_sendSix_0_11 s m (av_X6_sendSix_0_11 a t ).toArray below meth c H locs 0 0 (MQ below (qc_X6_sendSix_0_11 dC dI a kA sz M L Z) (av_X6_sendSix_0_11 a t ).toArray s 0 0 (cpA a sz)) (F0 m 183 ls [.int v14, .int (v4 + v11), .ref (a 11), .int r12, .ref (a 6), .ref (a 0)]) := by
                      intro v14 H locs ls h hI hl
                      have h := hK183 v14 h
                      refine lv_aload_n hx hb dX6_sendSix_183 rfl (lv_at hl 1 rfl) ?_
                      refine va_get (D := (dC, dI)) (ci := 0) (v := .int (M13 11 2)) (C := RX0) (T := TX0) (N := 18) hx hb hu uX0 hown hK hI.1 11 rfl rfl 2 (by decide) (hu _ uww_271) (u_same (hu _ uww_28)) rfl dX6_sendSix_184 ?_
                      refine lv_iconst (v := (1 : Int32)) hx hb dX6_sendSix_187 (by decide) ?_
                      refine lv_isub hx hb dX6_sendSix_188 ?_
                      refine cpcallv_m hsz hI (va_runV (As := [.ref (a 6), .int r12, .ref (a 11), .int (v4 + v11), .int v14, .int ((M13 11 2) - (1 : Int32))]) (rest := []) ⟨hx, hb, hml, hown, hu⟩ (met_X6_putSixHeader_0_6_11 l dC dI a kA t _ M13 L r12 (v4 + v11) v14 ((M13 11 2) - (1 : Int32)) _ h) (cwl_X6_362_X6 hu ⟨by decide, by decide⟩) (cppre (ci := 5) hK hE hsz hI rfl rfl) rfl rfl hl.1 rfl (lv_room (Nat.le_of_ble_eq_true rfl)) dX6_sendSix_189 ⟨by decide, by decide⟩) (fun M15 H locs h hI => ?_)
                      refine lv_iload hx hb dX6_sendSix_192 (lv_at hl 4 rfl) ?_
                      obtain ⟨K250, hK250, h⟩ := h
                      have J250 : ∀ (M16 : cM) (H : Heap) (locs : List Loc) (ls : Array Slot), K250 M16 → cpI dC dI a kA (cpA a sz) s M16 L H locs → lv_has ls 12 [(0, .ref (a 0)), (1, .ref (a 11)), (2, .int v1), (3, .int v2), (4, .int v3), (5, .int v4), (6, .int x5), (7, .int x6), (8, .int x10), (9, .int v11), (10, .int r12)] → W p l e rm_X6_sendSix_0_11 s m (av_X6_sendSix_0_11 a t ).toArray below meth c H locs 0 0 (MQ below (qc_X6_sendSix_0_11 dC dI a kA sz M L Z) (av_X6_sendSix_0_11 a t ).toArray s 0 0 (cpA a sz)) (F0 m 250 ls []) := by
                        intro M16 H locs ls h hI hl
                        have h := hK250 M16 h
                        refine lv_aload_n hx hb dX6_sendSix_250 rfl (lv_at hl 0 rfl) ?_
                        refine va_get (D := (dC, dI)) (ci := 5) (v := .ref (a 5)) (C := RX6) (T := TX6) (N := 17) hx hb hu uX6 hown hK hI.1 0 rfl rfl 2 (by decide) (hu _ uww_218) (fun _ h9 => h9) rfl dX6_sendSix_251 ?_
                        refine va_getN (D := (dC, dI)) (ci := 2) (v := .ref (a 6)) (C := RX3) (T := TX3) (N := 4) hx hb hu uX3 hown hK hI.1 5 rfl rfl 0 (by decide) (va_Nw.use rfl (hE.1 _ cpn_4)) (fun _ h9 => h9) rfl dX6_sendSix_254 ?_
                        refine lv_aload_n hx hb dX6_sendSix_257 rfl (lv_at hl 0 rfl) ?_
                        refine va_get (D := (dC, dI)) (ci := 5) (v := .ref (a 3)) (C := RX6) (T := TX6) (N := 17) hx hb hu uX6 hown hK hI.1 0 rfl rfl 1 (by decide) (hu _ uww_214) (fun _ h9 => h9) rfl dX6_sendSix_258 ?_
                        refine lv_iload hx hb dX6_sendSix_261 (lv_at hl 6 rfl) ?_
                        refine lv_iload hx hb dX6_sendSix_263 (lv_at hl 10 rfl) ?_
                        refine lv_bipush (v := (40 : Int32)) hx hb dX6_sendSix_265 (by decide) ?_
                        refine lv_iadd hx hb dX6_sendSix_267 ?_
                        refine lv_iload hx hb dX6_sendSix_268 (lv_at hl 5 rfl) ?_
                        refine lv_iadd hx hb dX6_sendSix_270 ?_
                        refine lv_iload hx hb dX6_sendSix_271 (lv_at hl 9 rfl) ?_
                        refine cpcallv_m hsz hI (va_runV (As := [.ref (a 3), .int x5, .int ((r12 + (40 : Int32)) + v4), .int v11]) (rest := []) ⟨hx, hb, hml, hown, hu⟩ (met_X4_copy_6_3 l dC dI a kA t _ M16 L x5 ((r12 + (40 : Int32)) + v4) v11 _ h) (cwl_X6_276_X4 hu ⟨by decide, by decide⟩) (cppre (ci := 3) hK hE hsz hI rfl rfl) rfl rfl hl.1 rfl (lv_room (Nat.le_of_ble_eq_true rfl)) dX6_sendSix_273 ⟨by decide, by decide⟩) (fun M17 H locs h hI => ?_)
                        refine lv_iload hx hb dX6_sendSix_276 (lv_at hl 9 rfl) ?_
                        refine lv_iload hx hb dX6_sendSix_278 (lv_at hl 8 rfl) ?_
                        refine lv_icmp_ne (tgt := 286) hx hb dX6_sendSix_280 (by decide) (fun c18 => ?_) (fun c18 => ?_)
                        · have h := h.1 c18
                          refine lv_iload hx hb dX6_sendSix_286 (lv_at hl 6 rfl) ?_
                          refine lv_iload hx hb dX6_sendSix_288 (lv_at hl 9 rfl) ?_
                          refine lv_iadd hx hb dX6_sendSix_290 ?_
                          refine lv_topi (fun x19 ex19 => ?_)
                          have h := h x19 ex19
                          refine lv_istore (lv' := [(6, .int x19), (0, .ref (a 0)), (1, .ref (a 11)), (2, .int v1), (3, .int v2), (4, .int v3), (5, .int v4), (7, .int x6), (8, .int x10), (9, .int v11), (10, .int r12)]) hx hb dX6_sendSix_291 hl (by decide) rfl (fun ls hl => ?_)
                          obtain ⟨x20, ex20⟩ : ∃ y : Int32, y = (x6 + (1 : Int32)) := ⟨_, rfl⟩
                          have h := h x20 ex20
                          refine lv_iinc (v := x20) (lv' := [(7, .int x20), (6, .int x19), (0, .ref (a 0)), (1, .ref (a 11)), (2, .int v1), (3, .int v2), (4, .int v3), (5, .int v4), (8, .int x10), (9, .int v11), (10, .int r12)]) hx hb dX6_sendSix_293 hl (k := 7) rfl (by rw [ex20]; rfl) (by decide) rfl (fun ls hl => ?_)
                          refine lv_goto (tgt := 89) hx hb dX6_sendSix_296 (by decide) ?_
                          exact ih89 x19 x20 M17 _ _ _ h.1 (Nat.lt_of_lt_of_le h.2 (Nat.le_of_lt_succ hn89)) hI (lv_sub hl [2, 3, 4, 5, 6, 7, 1, 0] rfl)
                        · have h := h.2 c18
                          refine lv_goto (tgt := 299) hx hb dX6_sendSix_283 (by decide) ?_
                          exact cpvret (Z := (fun M' L' => L' = L ∧ Z M')) hx hb hr hlocks hK hI dX6_sendSix_299 ⟨rfl, h⟩
                      refine lv_if_eq (tgt := 250) hx hb dX6_sendSix_194 (by decide) (fun c21 => ?_) (fun c21 => ?_)
                      · have h := h.1 c21
                        exact J250 M15 _ _ _ h hI (lv_sub hl [0, 1, 2, 3, 4, 5, 6, 7, 8, 9, 10] rfl)
                      · have h := h.2 c21
                        refine lv_iload hx hb dX6_sendSix_197 (lv_at hl 9 rfl) ?_
                        refine lv_iload hx hb dX6_sendSix_199 (lv_at hl 8 rfl) ?_
                        obtain ⟨K216, hK216, h⟩ := h
                        have J216 : ∀ (v22 : Int32) (H : Heap) (locs : List Loc) (ls : Array Slot), K216 v22 → cpI dC dI a kA (cpA a sz) s M15 L H locs → lv_has ls 12 [(0, .ref (a 0)), (1, .ref (a 11)), (2, .int v1), (3, .int v2), (4, .int v3), (5, .int v4), (6, .int x5), (7, .int x6), (8, .int x10), (9, .int v11), (10, .int r12)] → W p l e rm_X6_sendSix_0_11 s m (av_X6_sendSix_0_11 a t ).toArray below meth c H locs 0 0 (MQ below (qc_X6_sendSix_0_11 dC dI a kA sz M L Z) (av_X6_sendSix_0_11 a t ).toArray s 0 0 (cpA a sz)) (F0 m 216 ls [.int v22]) := by
                          intro v22 H locs ls h hI hl
                          have h := hK216 v22 h
                          refine lv_istore (lv' := [(11, .int v22), (0, .ref (a 0)), (1, .ref (a 11)), (2, .int v1), (3, .int v2), (4, .int v3), (5, .int v4), (6, .int x5), (7, .int x6), (8, .int x10), (9, .int v11), (10, .int r12)]) hx hb dX6_sendSix_216 hl (by decide) rfl (fun ls hl => ?_)
                          refine lv_aload_n hx hb dX6_sendSix_218 rfl (lv_at hl 1 rfl) ?_
                          refine va_get (D := (dC, dI)) (ci := 5) (v := .ref (a 5)) (C := RX6) (T := TX6) (N := 17) hx hb hu uX6 hown hK hI.1 0 rfl rfl 2 (by decide) (hu _ uww_218) (fun _ h9 => h9) rfl dX6_sendSix_219 ?_
                          refine va_getN (D := (dC, dI)) (ci := 2) (v := .ref (a 6)) (C := RX3) (T := TX3) (N := 4) hx hb hu uX3 hown hK hI.1 5 rfl rfl 0 (by decide) (va_Nw.use rfl (hE.1 _ cpn_4)) (fun _ h9 => h9) rfl dX6_sendSix_222 ?_
                          refine lv_iload hx hb dX6_sendSix_225 (lv_at hl 11 rfl) ?_
                          refine lv_bipush (v := (40 : Int32)) hx hb dX6_sendSix_227 (by decide) ?_
                          refine lv_iadd hx hb dX6_sendSix_229 ?_
                          refine lv_iload_n hx hb dX6_sendSix_230 rfl (lv_at hl 3 rfl) ?_
                          refine lv_aload_n hx hb dX6_sendSix_231 rfl (lv_at hl 2 rfl) ?_
                          refine va_get (D := (dC, dI)) (ci := 0) (v := .int (M15 11 6)) (C := RX0) (T := TX0) (N := 18) hx hb hu uX0 hown hK hI.1 11 rfl rfl 6 (by decide) (hu _ uww_285) (u_same (hu _ uww_26)) rfl dX6_sendSix_232 ?_
                          refine lv_iload hx hb dX6_sendSix_235 (lv_at hl 7 rfl) ?_
                          refine lv_bipush (v := (8 : Int32)) hx hb dX6_sendSix_237 (by decide) ?_
                          refine lv_idiv hx hb dX6_sendSix_239 (by decide) ?_
                          refine lv_iadd hx hb dX6_sendSix_240 ?_
                          refine lv_iload hx hb dX6_sendSix_241 (lv_at hl 0 rfl) ?_
                          refine lv_aload_n hx hb dX6_sendSix_243 rfl (lv_at hl 2 rfl) ?_
                          refine va_get (D := (dC, dI)) (ci := 0) (v := .int (M15 11 4)) (C := RX0) (T := TX0) (N := 18) hx hb hu uX0 hown hK hI.1 11 rfl rfl 4 (by decide) (hu _ uww_375) (u_same (hu _ uww_21)) rfl dX6_sendSix_244 ?_
                          refine cpcallv_m hsz hI (va_runS (As := [.ref (a 6), .int (r12 + (40 : Int32)), .int v1, .int ((M15 11 6) + (x5 / (8 : Int32))), .int v22, .int (M15 11 4)]) (rest := []) ⟨hx, hb, hml, hown, hu⟩ (met_X6_putFragmentHeader_6 l dC dI a kA t _ M15 L (r12 + (40 : Int32)) v1 ((M15 11 6) + (x5 / (8 : Int32))) v22 (M15 11 4) _ h) (cwl_X6_369_S hu ⟨by decide, by decide⟩) (cppreS hK hE hsz hI) rfl rfl hl.1 rfl (lv_room (Nat.le_of_ble_eq_true rfl)) dX6_sendSix_247 ⟨by decide, by decide⟩) (fun M23 H locs h hI => ?_)
                          exact J250 M23 _ _ _ h hI (lv_sub hl [1, 2, 3, 4, 5, 6, 7, 8, 9, 10, 11] rfl)
                        obtain ⟨K211, hK211, h⟩ := h
                        have J211 : ∀  (H : Heap) (locs : List Loc) (ls : Array Slot), K211  → cpI dC dI a kA (cpA a sz) s M15 L H locs → lv_has ls 12 [(0, .ref (a 0)), (1, .ref (a 11)), (2, .int v1), (3, .int v2), (4, .int v3), (5, .int v4), (6, .int x5), (7, .int x6), (8, .int x10), (9, .int v11), (10, .int r12)] → W p l e rm_X6_sendSix_0_11 s m (av_X6_sendSix_0_11 a t ).toArray below meth c H locs 0 0 (MQ below (qc_X6_sendSix_0_11 dC dI a kA sz M L Z) (av_X6_sendSix_0_11 a t ).toArray s 0 0 (cpA a sz)) (F0 m 211 ls []) := by
                          intro  H locs ls h hI hl
                          have h := hK211  h
                          refine lv_iconst (v := (1 : Int32)) hx hb dX6_sendSix_211 (by decide) ?_
                          refine lv_goto (tgt := 216) hx hb dX6_sendSix_212 (by decide) ?_
                          exact J216 (1 : Int32) _ _ _ h hI (lv_sub hl [0, 1, 2, 3, 4, 5, 6, 7, 8, 9, 10] rfl)
                        refine lv_icmp_lt (tgt := 211) hx hb dX6_sendSix_201 (by decide) (fun c24 => ?_) (fun c24 => ?_)
                        · have h := h.1 c24
                          exact J211  _ _ _ h hI (lv_sub hl [0, 1, 2, 3, 4, 5, 6, 7, 8, 9, 10] rfl)
                        · have h := h.2 c24
                          refine lv_aload_n hx hb dX6_sendSix_204 rfl (lv_at hl 1 rfl) ?_
                          refine va_get (D := (dC, dI)) (ci := 0) (v := .int (M15 11 5)) (C := RX0) (T := TX0) (N := 18) hx hb hu uX0 hown hK hI.1 11 rfl rfl 5 (by decide) (hu _ uww_309) (u_same (hu _ uww_24)) rfl dX6_sendSix_205 ?_
                          refine lv_if_eq (tgt := 215) hx hb dX6_sendSix_208 (by decide) (fun c25 => ?_) (fun c25 => ?_)
                          · have h := h.1 c25
                            refine lv_iconst (v := (0 : Int32)) hx hb dX6_sendSix_215 (by decide) ?_
                            exact J216 (0 : Int32) _ _ _ h hI (lv_sub hl [0, 1, 2, 3, 4, 5, 6, 7, 8, 9, 10] rfl)
                          · have h := h.2 c25
                            exact J211  _ _ _ h hI (lv_sub hl [0, 1, 2, 3, 4, 5, 6, 7, 8, 9, 10] rfl)
                    refine lv_if_eq (tgt := 182) hx hb dX6_sendSix_174 (by decide) (fun c26 => ?_) (fun c26 => ?_)
                    · have h := h.1 c26
                      refine lv_iload_n hx hb dX6_sendSix_182 rfl (lv_at hl 4 rfl) ?_
                      exact J183 v1 _ _ _ h hI (lv_sub hl [2, 3, 4, 5, 6, 7, 8, 9, 10, 1, 0] rfl)
                    · have h := h.2 c26
                      refine lv_bipush (v := (44 : Int32)) hx hb dX6_sendSix_177 (by decide) ?_
                      refine lv_goto (tgt := 183) hx hb dX6_sendSix_179 (by decide) ?_
                      exact J183 (44 : Int32) _ _ _ h hI (lv_sub hl [2, 3, 4, 5, 6, 7, 8, 9, 10, 1, 0] rfl)
                  refine lv_if_eq (tgt := 135) hx hb dX6_sendSix_121 (by decide) (fun c27 => ?_) (fun c27 => ?_)
                  · have h := h.1 c27
                    refine lv_iload hx hb dX6_sendSix_135 (lv_at hl 0 rfl) ?_
                    exact J137 x10 _ _ _ h hI (lv_sub hl [1, 2, 3, 4, 5, 6, 7, 8, 0] rfl)
                  · have h := h.2 c27
                    refine lv_iload hx hb dX6_sendSix_124 (lv_at hl 0 rfl) ?_
                    refine lv_sipush (v := (1232 : Int32)) hx hb dX6_sendSix_126 (by decide) ?_
                    refine va_mmin hx hb (hml.trans hl.1.symm) hown (hu _ uww_286) (hu _ uww_42) (hu _ uww_43) (hu _ uww_44) (Nat.le_of_ble_eq_true rfl) (Nat.le_of_ble_eq_true rfl) (Nat.le_of_ble_eq_true rfl) (Nat.le_of_ble_eq_true rfl) dX6_sendSix_129 ?_
                    refine lv_goto (tgt := 137) hx hb dX6_sendSix_132 (by decide) ?_
                    exact J137 (if (1232 : Int32) < x10 then (1232 : Int32) else x10) _ _ _ h hI (lv_sub hl [1, 2, 3, 4, 5, 6, 7, 8, 0] rfl)
          exact P89 (m89 (0 : Int32) (0 : Int32) M + 1) (0 : Int32) (0 : Int32) M _ _ _ h (Nat.lt_succ_self _) hI (lv_sub hl [3, 4, 5, 6, 7, 2, 1, 0] rfl)
        refine lv_if_eq (tgt := 80) hx hb dX6_sendSix_72 (by decide) (fun c28 => ?_) (fun c28 => ?_)
        · have h := h.1 c28
          refine lv_iconst (v := (0 : Int32)) hx hb dX6_sendSix_80 (by decide) ?_
          exact J81 (0 : Int32) _ _ _ h hI (lv_sub hl [1, 2, 3, 4, 0] rfl)
        · have h := h.2 c28
          refine lv_bipush (v := (8 : Int32)) hx hb dX6_sendSix_75 (by decide) ?_
          refine lv_goto (tgt := 81) hx hb dX6_sendSix_77 (by decide) ?_
          exact J81 (8 : Int32) _ _ _ h hI (lv_sub hl [1, 2, 3, 4, 0] rfl)
      obtain ⟨K63, hK63, h⟩ := h
      have J63 : ∀  (H : Heap) (locs : List Loc) (ls : Array Slot), K63  → cpI dC dI a kA (cpA a sz) s M L H locs → lv_has ls 12 [(0, .ref (a 0)), (1, .ref (a 11)), (2, .int v1), (3, .int v2)] → W p l e rm_X6_sendSix_0_11 s m (av_X6_sendSix_0_11 a t ).toArray below meth c H locs 0 0 (MQ below (qc_X6_sendSix_0_11 dC dI a kA sz M L Z) (av_X6_sendSix_0_11 a t ).toArray s 0 0 (cpA a sz)) (F0 m 63 ls []) := by
        intro  H locs ls h hI hl
        have h := hK63  h
        refine lv_iconst (v := (1 : Int32)) hx hb dX6_sendSix_63 (by decide) ?_
        refine lv_goto (tgt := 68) hx hb dX6_sendSix_64 (by decide) ?_
        exact J68 (1 : Int32) _ _ _ h hI (lv_sub hl [0, 1, 2, 3] rfl)
      refine lv_if_ne (tgt := 63) hx hb dX6_sendSix_53 (by decide) (fun c29 => ?_) (fun c29 => ?_)
      · have h := h.1 c29
        exact J63  _ _ _ h hI (lv_sub hl [1, 2, 3, 0] rfl)
      · have h := h.2 c29
        refine lv_aload_n hx hb dX6_sendSix_56 rfl (lv_at hl 2 rfl) ?_
        refine cpcalli_p hsz hI (va_runU (As := []) (rest := []) ⟨hx, hb, hml, hown, hu⟩ (met_X2_fragment_11 l dC dI a kA t _ M L  _ h) (cwl_X6_246_X0 hu ⟨by decide, by decide⟩) (cppre (ci := 0) hK hE hsz hI rfl rfl) rfl rfl hl.1 rfl (lv_room (Nat.le_of_ble_eq_true rfl)) dX6_sendSix_57 ⟨by decide, by decide⟩) (fun r30 H locs h hI => ?_)
        refine lv_if_eq (tgt := 67) hx hb dX6_sendSix_60 (by decide) (fun c31 => ?_) (fun c31 => ?_)
        · have h := h.1 c31
          refine lv_iconst (v := (0 : Int32)) hx hb dX6_sendSix_67 (by decide) ?_
          exact J68 (0 : Int32) _ _ _ h hI (lv_sub hl [1, 2, 3, 0] rfl)
        · have h := h.2 c31
          exact J63  _ _ _ h hI (lv_sub hl [1, 2, 3, 0] rfl)
    obtain ⟨K50, hK50, h⟩ := h
    have J50 : ∀  (H : Heap) (locs : List Loc) (ls : Array Slot), K50  → cpI dC dI a kA (cpA a sz) s M L H locs → lv_has ls 12 [(0, .ref (a 0)), (1, .ref (a 11)), (2, .int v1)] → W p l e rm_X6_sendSix_0_11 s m (av_X6_sendSix_0_11 a t ).toArray below meth c H locs 0 0 (MQ below (qc_X6_sendSix_0_11 dC dI a kA sz M L Z) (av_X6_sendSix_0_11 a t ).toArray s 0 0 (cpA a sz)) (F0 m 50 ls []) := by
      intro  H locs ls h hI hl
      have h := hK50  h
      refine lv_iconst (v := (0 : Int32)) hx hb dX6_sendSix_50 (by decide) ?_
      exact J51 (0 : Int32) _ _ _ h hI (lv_sub hl [0, 1, 2] rfl)
    refine lv_if_ne (tgt := 50) hx hb dX6_sendSix_22 (by decide) (fun c32 => ?_) (fun c32 => ?_)
    · have h := h.1 c32
      exact J50  _ _ _ h hI (lv_sub hl [1, 2, 0] rfl)
    · have h := h.2 c32
      refine lv_bipush (v := (40 : Int32)) hx hb dX6_sendSix_25 (by decide) ?_
      refine lv_aload_n hx hb dX6_sendSix_27 rfl (lv_at hl 2 rfl) ?_
      refine cpcalli_p hsz hI (va_runV (As := []) (rest := [.int (40 : Int32)]) ⟨hx, hb, hml, hown, hu⟩ (met_X0_fragmentHeader_11 l dC dI a kA t _ M L  _ h) (cwl_X6_236_X0 hu ⟨by decide, by decide⟩) (cppre (ci := 0) hK hE hsz hI rfl rfl) rfl rfl hl.1 rfl (lv_room (Nat.le_of_ble_eq_true rfl)) dX6_sendSix_28 ⟨by decide, by decide⟩) (fun r33 H locs h hI => ?_)
      refine lv_iadd hx hb dX6_sendSix_31 ?_
      refine lv_aload_n hx hb dX6_sendSix_32 rfl (lv_at hl 1 rfl) ?_
      refine va_get (D := (dC, dI)) (ci := 5) (v := .ref (a 3)) (C := RX6) (T := TX6) (N := 17) hx hb hu uX6 hown hK hI.1 0 rfl rfl 1 (by decide) (hu _ uww_214) (fun _ h9 => h9) rfl dX6_sendSix_33 ?_
      refine va_getN (D := (dC, dI)) (ci := 3) (v := .int (M 3 1)) (C := RX4) (T := TX4) (N := 2) hx hb hu uX4 hown hK hI.1 3 rfl rfl 1 (by decide) (va_Nw.use rfl (hE.1 _ cpn_1)) (fun _ h9 => h9) rfl dX6_sendSix_36 ?_
      refine lv_iadd hx hb dX6_sendSix_39 ?_
      refine lv_sipush (v := (1280 : Int32)) hx hb dX6_sendSix_40 (by decide) ?_
      refine lv_icmp_le (tgt := 50) hx hb dX6_sendSix_43 (by decide) (fun c34 => ?_) (fun c34 => ?_)
      · have h := h.1 c34
        exact J50  _ _ _ h hI (lv_sub hl [1, 2, 0] rfl)
      · have h := h.2 c34
        refine lv_iconst (v := (1 : Int32)) hx hb dX6_sendSix_46 (by decide) ?_
        refine lv_goto (tgt := 51) hx hb dX6_sendSix_47 (by decide) ?_
        exact J51 (1 : Int32) _ _ _ h hI (lv_sub hl [1, 2, 0] rfl)
  refine lv_icmp_ne (tgt := 13) hx hb dX6_sendSix_5 (by decide) (fun c35 => ?_) (fun c35 => ?_)
  · have h := h.1 c35
    refine lv_aload_n hx hb dX6_sendSix_13 rfl (lv_at hl 1 rfl) ?_
    refine va_get (D := (dC, dI)) (ci := 0) (v := .int (M 11 3)) (C := RX0) (T := TX0) (N := 18) hx hb hu uX0 hown hK hI.1 11 rfl rfl 3 (by decide) (hu _ uww_274) (u_same (hu _ uww_30)) rfl dX6_sendSix_14 ?_
    exact J17 (M 11 3) _ _ _ h hI (lv_sub hl [0, 1] rfl)
  · have h := h.2 c35
    refine lv_bipush (v := (58 : Int32)) hx hb dX6_sendSix_8 (by decide) ?_
    refine lv_goto (tgt := 17) hx hb dX6_sendSix_10 (by decide) ?_
    exact J17 (58 : Int32) _ _ _ h hI (lv_sub hl [0, 1] rfl)

abbrev rm_X4_at_6 : Room := { frames := 0, cells := 0, slots := 0, locals := 0 }
abbrev av_X4_at_6 (a t : Nat → Nat) (p1 : Int32) : List Value := [.ref (a 6), .int p1]
abbrev qc_X4_at_6 (dC : Nat → ClassId) (dI : Nat → Nat → Nat) (a : Nat → Nat) (kA : Nat → ClassId) (sz : Nat) (M : cM) (L : cL) (Z : Int32 → Prop) : Array Value → State → Outcome → State → Prop := va_Qi (fun r (u : cM × cL) => u.1 = M ∧ u.2 = L ∧ Z r) (cpAt dC dI a kA (cpA a sz)) (cpA a sz)
set_option maxHeartbeats 4000000 in
set_option maxRecDepth 100000 in
theorem met_X4_at_6 (l : Launch) (dC : Nat → ClassId) (dI : Nat → Nat → Nat) (a : Nat → Nat) (kA : Nat → ClassId) (t : Nat → Nat) (sz : Nat) (M : cM) (L : cL) (p1 : Int32) (Z : Int32 → Prop) (h : wp_X4_at_6 M L p1 Z) : Met l yX4_at (Cond.code yX4_at cX4_at 2 (some .int) :: uW) rm_X4_at_6 (va_Pc (av_X4_at_6 a t p1) (cpPre dC dI a kA t M L sz)) (qc_X4_at_6 dC dI a kA sz M L Z) 0 0 (cpA a sz) := by
  refine cpenter (cc := cX4_at) (n := 2) (ret := (some .int)) (by decide) rfl (Nat.le_of_ble_eq_true rfl) ?_
  intro p e s m below meth c ls hx hb hml hr hlocks hown hts hK hE hsz hI hl hmn
  have hu : ∀ w ∈ uW, w.before (av_X4_at_6 a t p1).toArray s = true := fun w h => hts w (List.mem_cons_of_mem _ h)
  have hown : s.vm.findClass RX4 = some m.cls := hown
  have hl : lv_has ls 2 [(0, .ref (a 6)), (1, .int p1)] := hl
  unfold wp_X4_at_6 at h
  refine lv_iload_n hx hb dX4_at_0 rfl (lv_at hl 1 rfl) ?_
  refine lv_if_lt (tgt := 26) hx hb dX4_at_1 (by decide) (fun c1 => ?_) (fun c1 => ?_)
  · have h := h.1 c1
    refine lv_iconst (v := (0 : Int32)) hx hb dX4_at_26 (by decide) ?_
    exact cpiret (Z := (fun r M' L' => M' = M ∧ L' = L ∧ Z r)) hx hb hr hlocks hK hI dX4_at_27 ⟨rfl, rfl, h⟩
  · have h := h.2 c1
    refine lv_iload_n hx hb dX4_at_4 rfl (lv_at hl 1 rfl) ?_
    refine lv_aload_n hx hb dX4_at_5 rfl (lv_at hl 0 rfl) ?_
    refine va_get (D := (dC, dI)) (ci := 3) (v := .ref (a 7)) (C := RX4) (T := TX4) (N := 2) hx hb hu uX4 hown hK hI.1 6 rfl rfl 0 (by decide) (hu _ uww_52) (fun _ h9 => h9) rfl dX4_at_6 ?_
    refine va_alen (v := (3332 : Int32)) hx hb hK hI.1 7 2 rfl rfl rfl dX4_at_9 ?_
    refine lv_icmp_ge (tgt := 26) hx hb dX4_at_10 (by decide) (fun c2 => ?_) (fun c2 => ?_)
    · have h := h.1 c2
      refine lv_iconst (v := (0 : Int32)) hx hb dX4_at_26 (by decide) ?_
      exact cpiret (Z := (fun r M' L' => M' = M ∧ L' = L ∧ Z r)) hx hb hr hlocks hK hI dX4_at_27 ⟨rfl, rfl, h⟩
    · have h := h.2 c2
      refine lv_aload_n hx hb dX4_at_13 rfl (lv_at hl 0 rfl) ?_
      refine va_get (D := (dC, dI)) (ci := 3) (v := .ref (a 7)) (C := RX4) (T := TX4) (N := 2) hx hb hu uX4 hown hK hI.1 6 rfl rfl 0 (by decide) (hu _ uww_52) (fun _ h9 => h9) rfl dX4_at_14 ?_
      refine lv_iload_n hx hb dX4_at_17 rfl (lv_at hl 1 rfl) ?_
      refine va_bald hx hb hK hI.1 7 2 rfl rfl h.1 dX4_at_18 ?_
      have h := h.2
      refine lv_sipush (v := (255 : Int32)) hx hb dX4_at_19 (by decide) ?_
      refine lv_iand hx hb dX4_at_22 ?_
      refine lv_goto (tgt := 27) hx hb dX4_at_23 (by decide) ?_
      exact cpiret (Z := (fun r M' L' => M' = M ∧ L' = L ∧ Z r)) hx hb hr hlocks hK hI dX4_at_27 ⟨rfl, rfl, h⟩

abbrev rm_X4_sum_6 : Room := { frames := 1, cells := 0, slots := 0, locals := 21 }
abbrev av_X4_sum_6 (a t : Nat → Nat) (p1 : Int32) (p2 : Int32) : List Value := [.ref (a 6), .int p1, .int p2]
abbrev qc_X4_sum_6 (dC : Nat → ClassId) (dI : Nat → Nat → Nat) (a : Nat → Nat) (kA : Nat → ClassId) (sz : Nat) (M : cM) (L : cL) (Z : Int64 → Prop) : Array Value → State → Outcome → State → Prop := va_Ql (fun r (u : cM × cL) => u.1 = M ∧ u.2 = L ∧ Z r) (cpAt dC dI a kA (cpA a sz)) (cpA a sz)
set_option maxHeartbeats 4000000 in
set_option maxRecDepth 100000 in
theorem met_X4_sum_6 (l : Launch) (dC : Nat → ClassId) (dI : Nat → Nat → Nat) (a : Nat → Nat) (kA : Nat → ClassId) (t : Nat → Nat) (sz : Nat) (M : cM) (L : cL) (p1 : Int32) (p2 : Int32) (Z : Int64 → Prop) (h : wp_X4_sum_6 M L p1 p2 Z) : Met l yX4_sum (Cond.code yX4_sum cX4_sum 7 (some .long) :: uW) rm_X4_sum_6 (va_Pc (av_X4_sum_6 a t p1 p2) (cpPre dC dI a kA t M L sz)) (qc_X4_sum_6 dC dI a kA sz M L Z) 0 0 (cpA a sz) := by
  refine cpenter (cc := cX4_sum) (n := 7) (ret := (some .long)) (by decide) rfl (Nat.le_of_ble_eq_true rfl) ?_
  intro p e s m below meth c ls hx hb hml hr hlocks hown hts hK hE hsz hI hl hmn
  have hu : ∀ w ∈ uW, w.before (av_X4_sum_6 a t p1 p2).toArray s = true := fun w h => hts w (List.mem_cons_of_mem _ h)
  have hown : s.vm.findClass RX4 = some m.cls := hown
  have hl : lv_has ls 7 [(0, .ref (a 6)), (1, .int p1), (2, .int p2)] := hl
  unfold wp_X4_sum_6 at h
  refine lv_lconst (v := (0 : Int64)) hx hb dX4_sum_0 (by decide) ?_
  refine lv_lstore_n (lv' := [(3, .long (0 : Int64)), (0, .ref (a 6)), (1, .int p1), (2, .int p2)]) hx hb dX4_sum_1 rfl hl (by decide) rfl (fun ls hl => ?_)
  refine lv_iload_n hx hb dX4_sum_2 rfl (lv_at hl 2 rfl) ?_
  refine lv_istore (lv' := [(5, .int p1), (3, .long (0 : Int64)), (0, .ref (a 6)), (1, .int p1), (2, .int p2)]) hx hb dX4_sum_3 hl (by decide) rfl (fun ls hl => ?_)
  obtain ⟨I5, m5, h, hs5⟩ := h
  have P5 : ∀ (n5 : Nat) (x1 : Int64) (x2 : Int32) (H : Heap) (locs : List Loc) (ls : Array Slot), I5 x1 x2 → m5 x1 x2 < n5 → cpI dC dI a kA (cpA a sz) s M L H locs → lv_has ls 7 [(0, .ref (a 6)), (1, .int p1), (2, .int p2), (3, .long x1), (5, .int x2)] → W p l e rm_X4_sum_6 s m (av_X4_sum_6 a t p1 p2).toArray below meth c H locs 0 0 (MQ below (qc_X4_sum_6 dC dI a kA sz M L Z) (av_X4_sum_6 a t p1 p2).toArray s 0 0 (cpA a sz)) (F0 m 5 ls []) := by
    intro n5
    induction n5 with
    | zero => intro x1 x2 H locs ls _ hn; exact absurd hn (Nat.not_lt_zero _)
    | succ n5 ih5 =>
      intro x1 x2 H locs ls h hn5 hI hl
      have h := hs5 x1 x2 h
      refine lv_iload hx hb dX4_sum_5 (lv_at hl 4 rfl) ?_
      refine lv_iload_n hx hb dX4_sum_7 rfl (lv_at hl 2 rfl) ?_
      refine lv_icmp_ge (tgt := 49) hx hb dX4_sum_8 (by decide) (fun c3 => ?_) (fun c3 => ?_)
      · have h := h.1 c3
        refine lv_lload_n hx hb dX4_sum_49 rfl (lv_at hl 3 rfl) ?_
        exact cplret (Z := (fun r M' L' => M' = M ∧ L' = L ∧ Z r)) hx hb hr hlocks hK hI dX4_sum_50 ⟨rfl, rfl, h⟩
      · have h := h.2 c3
        refine lv_aload_n hx hb dX4_sum_11 rfl (lv_at hl 0 rfl) ?_
        refine lv_iload hx hb dX4_sum_12 (lv_at hl 4 rfl) ?_
        refine cpcalli_p hsz hI (va_runV (As := [.int x2]) (rest := []) ⟨hx, hb, hml, hown, hu⟩ (met_X4_at_6 l dC dI a kA t _ M L x2 _ h) (cwl_X4_13_X4 hu ⟨by decide, by decide⟩) (cppre (ci := 3) hK hE hsz hI rfl rfl) rfl rfl hl.1 rfl (lv_room (Nat.le_of_ble_eq_true rfl)) dX4_sum_14 ⟨by decide, by decide⟩) (fun r4 H locs h hI => ?_)
        refine lv_istore (lv' := [(6, .int r4), (0, .ref (a 6)), (1, .int p1), (2, .int p2), (3, .long x1), (5, .int x2)]) hx hb dX4_sum_17 hl (by decide) rfl (fun ls hl => ?_)
        refine lv_lload_n hx hb dX4_sum_19 rfl (lv_at hl 4 rfl) ?_
        refine lv_iload hx hb dX4_sum_20 (lv_at hl 5 rfl) ?_
        refine lv_iload_n hx hb dX4_sum_22 rfl (lv_at hl 2 rfl) ?_
        refine lv_isub hx hb dX4_sum_23 ?_
        refine lv_iconst (v := (1 : Int32)) hx hb dX4_sum_24 (by decide) ?_
        refine lv_iand hx hb dX4_sum_25 ?_
        obtain ⟨K41, hK41, h⟩ := h
        have J41 : ∀ (v5 : Int64) (H : Heap) (locs : List Loc) (ls : Array Slot), K41 v5 → cpI dC dI a kA (cpA a sz) s M L H locs → lv_has ls 7 [(0, .ref (a 6)), (1, .int p1), (2, .int p2), (5, .int x2)] → W p l e rm_X4_sum_6 s m (av_X4_sum_6 a t p1 p2).toArray below meth c H locs 0 0 (MQ below (qc_X4_sum_6 dC dI a kA sz M L Z) (av_X4_sum_6 a t p1 p2).toArray s 0 0 (cpA a sz)) (F0 m 41 ls [.long v5, .long x1]) := by
          intro v5 H locs ls h hI hl
          have h := hK41 v5 h
          refine lv_ladd hx hb dX4_sum_41 ?_
          refine lv_topl (fun x6 ex6 => ?_)
          have h := h x6 ex6
          refine lv_lstore_n (lv' := [(3, .long x6), (0, .ref (a 6)), (1, .int p1), (2, .int p2), (5, .int x2)]) hx hb dX4_sum_42 rfl hl (by decide) rfl (fun ls hl => ?_)
          obtain ⟨x7, ex7⟩ : ∃ y : Int32, y = (x2 + (1 : Int32)) := ⟨_, rfl⟩
          have h := h x7 ex7
          refine lv_iinc (v := x7) (lv' := [(5, .int x7), (3, .long x6), (0, .ref (a 6)), (1, .int p1), (2, .int p2)]) hx hb dX4_sum_43 hl (k := 4) rfl (by rw [ex7]; rfl) (by decide) rfl (fun ls hl => ?_)
          refine lv_goto (tgt := 5) hx hb dX4_sum_46 (by decide) ?_
          exact ih5 x6 x7 _ _ _ h.1 (Nat.lt_of_lt_of_le h.2 (Nat.le_of_lt_succ hn5)) hI (lv_sub hl [2, 3, 4, 1, 0] rfl)
        refine lv_if_ne (tgt := 38) hx hb dX4_sum_26 (by decide) (fun c8 => ?_) (fun c8 => ?_)
        · have h := h.1 c8
          refine lv_iload hx hb dX4_sum_38 (lv_at hl 0 rfl) ?_
          refine lv_i2l hx hb dX4_sum_40 rfl ?_
          exact J41 (r4.toInt64) _ _ _ h hI (lv_sub hl [1, 2, 3, 5] rfl)
        · have h := h.2 c8
          refine lv_iload hx hb dX4_sum_29 (lv_at hl 0 rfl) ?_
          refine lv_bipush (v := (8 : Int32)) hx hb dX4_sum_31 (by decide) ?_
          refine lv_ishl hx hb dX4_sum_33 ?_
          refine lv_i2l hx hb dX4_sum_34 rfl ?_
          refine lv_goto (tgt := 41) hx hb dX4_sum_35 (by decide) ?_
          exact J41 ((r4 <<< ((8 : Int32) &&& 31)).toInt64) _ _ _ h hI (lv_sub hl [1, 2, 3, 5] rfl)
  exact P5 (m5 (0 : Int64) p1 + 1) (0 : Int64) p1 _ _ _ h (Nat.lt_succ_self _) hI (lv_sub hl [2, 3, 4, 1, 0] rfl)

abbrev rm_X6_checksum : Room := { frames := 1, cells := 0, slots := 0, locals := 24 }
abbrev av_X6_checksum (a t : Nat → Nat) (p0 : Int64) : List Value := [.long p0]
abbrev qc_X6_checksum (dC : Nat → ClassId) (dI : Nat → Nat → Nat) (a : Nat → Nat) (kA : Nat → ClassId) (sz : Nat) (M : cM) (L : cL) (Z : Int32 → Prop) : Array Value → State → Outcome → State → Prop := va_Qi (fun r (u : cM × cL) => u.1 = M ∧ u.2 = L ∧ Z r) (cpAt dC dI a kA (cpA a sz)) (cpA a sz)
set_option maxHeartbeats 4000000 in
set_option maxRecDepth 100000 in
theorem met_X6_checksum (l : Launch) (dC : Nat → ClassId) (dI : Nat → Nat → Nat) (a : Nat → Nat) (kA : Nat → ClassId) (t : Nat → Nat) (sz : Nat) (M : cM) (L : cL) (p0 : Int64) (Z : Int32 → Prop) (h : wp_X6_checksum M L p0 Z) : Met l yX6_checksum (Cond.code yX6_checksum cX6_checksum 2 (some .int) :: uW) rm_X6_checksum (va_Pc (av_X6_checksum a t p0) (cpPre dC dI a kA t M L sz)) (qc_X6_checksum dC dI a kA sz M L Z) 0 0 (cpA a sz) := by
  refine cpenter (cc := cX6_checksum) (n := 2) (ret := (some .int)) (by decide) rfl (Nat.le_of_ble_eq_true rfl) ?_
  intro p e s m below meth c ls hx hb hml hr hlocks hown hts hK hE hsz hI hl hmn
  have hu : ∀ w ∈ uW, w.before (av_X6_checksum a t p0).toArray s = true := fun w h => hts w (List.mem_cons_of_mem _ h)
  have hown : s.vm.findClass RX6 = some m.cls := hown
  have hl : lv_has ls 2 [(0, .long p0)] := hl
  unfold wp_X6_checksum at h
  refine lv_ldcw (own := RX6) (v := (65535 : Int32)) hx hb hown (hu _ uww_300) dX6_checksum_0 ?_
  refine lv_lload_n hx hb dX6_checksum_3 rfl (lv_at hl 0 rfl) ?_
  refine cpcalli_p hsz hI (va_runS (As := [.long p0]) (rest := [.int (65535 : Int32)]) ⟨hx, hb, hml, hown, hu⟩ (met_X6_folded l dC dI a kA t _ M L p0 _ h) (cwl_X6_305_S hu ⟨by decide, by decide⟩) (cppreS hK hE hsz hI) rfl rfl hl.1 rfl (lv_room (Nat.le_of_ble_eq_true rfl)) dX6_checksum_4 ⟨by decide, by decide⟩) (fun r1 H locs h hI => ?_)
  refine lv_isub hx hb dX6_checksum_7 ?_
  exact cpiret (Z := (fun r M' L' => M' = M ∧ L' = L ∧ Z r)) hx hb hr hlocks hK hI dX6_checksum_8 ⟨rfl, rfl, h⟩

abbrev rm_X4_copy_6_1 : Room := { frames := 1, cells := 0, slots := 0, locals := 60 }
abbrev av_X4_copy_6_1 (a t : Nat → Nat) (p2 : Int32) (p3 : Int32) (p4 : Int32) : List Value := [.ref (a 6), .ref (a 1), .int p2, .int p3, .int p4]
abbrev qc_X4_copy_6_1 (dC : Nat → ClassId) (dI : Nat → Nat → Nat) (a : Nat → Nat) (kA : Nat → ClassId) (sz : Nat) (M : cM) (L : cL) (Z : cM → Prop) : Array Value → State → Outcome → State → Prop := va_Qv (fun (u : cM × cL) => u.2 = L ∧ Z u.1) (cpAt dC dI a kA (cpA a sz)) (cpA a sz)
set_option maxHeartbeats 4000000 in
set_option maxRecDepth 100000 in
theorem met_X4_copy_6_1 (l : Launch) (dC : Nat → ClassId) (dI : Nat → Nat → Nat) (a : Nat → Nat) (kA : Nat → ClassId) (t : Nat → Nat) (sz : Nat) (M : cM) (L : cL) (p2 : Int32) (p3 : Int32) (p4 : Int32) (Z : cM → Prop) (h : wp_X4_copy_6_1 M L p2 p3 p4 Z) : Met l yX4_copy (Cond.code yX4_copy cX4_copy 6 none :: uW) rm_X4_copy_6_1 (va_Pc (av_X4_copy_6_1 a t p2 p3 p4) (cpPre dC dI a kA t M L sz)) (qc_X4_copy_6_1 dC dI a kA sz M L Z) 0 0 (cpA a sz) := by
  refine cpenter (cc := cX4_copy) (n := 6) (ret := none) (by decide) rfl (Nat.le_of_ble_eq_true rfl) ?_
  intro p e s m below meth c ls hx hb hml hr hlocks hown hts hK hE hsz hI hl hmn
  have hu : ∀ w ∈ uW, w.before (av_X4_copy_6_1 a t p2 p3 p4).toArray s = true := fun w h => hts w (List.mem_cons_of_mem _ h)
  have hown : s.vm.findClass RX4 = some m.cls := hown
  have hl : lv_has ls 6 [(0, .ref (a 6)), (1, .ref (a 1)), (2, .int p2), (3, .int p3), (4, .int p4)] := hl
  unfold wp_X4_copy_6_1 at h
  refine lv_iload hx hb dX4_copy_0 (lv_at hl 4 rfl) ?_
  obtain ⟨K26, hK26, h⟩ := h
  have J26 : ∀ (v1 : Int32) (H : Heap) (locs : List Loc) (ls : Array Slot), K26 v1 → cpI dC dI a kA (cpA a sz) s M L H locs → lv_has ls 6 [(0, .ref (a 6)), (1, .ref (a 1)), (2, .int p2), (3, .int p3), (4, .int p4)] → W p l e rm_X4_copy_6_1 s m (av_X4_copy_6_1 a t p2 p3 p4).toArray below meth c H locs 0 0 (MQ below (qc_X4_copy_6_1 dC dI a kA sz M L Z) (av_X4_copy_6_1 a t p2 p3 p4).toArray s 0 0 (cpA a sz)) (F0 m 26 ls [.int v1]) := by
    intro v1 H locs ls h hI hl
    have h := hK26 v1 h
    refine lv_istore (lv' := [(5, .int v1), (0, .ref (a 6)), (1, .ref (a 1)), (2, .int p2), (3, .int p3), (4, .int p4)]) hx hb dX4_copy_26 hl (by decide) rfl (fun ls hl => ?_)
    refine lv_iload hx hb dX4_copy_28 (lv_at hl 0 rfl) ?_
    refine lv_if_eq (tgt := 64) hx hb dX4_copy_30 (by decide) (fun c2 => ?_) (fun c2 => ?_)
    · have h := h.1 c2
      exact cpvret (Z := (fun M' L' => L' = L ∧ Z M')) hx hb hr hlocks hK hI dX4_copy_64 ⟨rfl, h⟩
    · have h := h.2 c2
      refine lv_iload_n hx hb dX4_copy_33 rfl (lv_at hl 4 rfl) ?_
      refine lv_if_lt (tgt := 64) hx hb dX4_copy_34 (by decide) (fun c3 => ?_) (fun c3 => ?_)
      · have h := h.1 c3
        exact cpvret (Z := (fun M' L' => L' = L ∧ Z M')) hx hb hr hlocks hK hI dX4_copy_64 ⟨rfl, h⟩
      · have h := h.2 c3
        refine lv_iload_n hx hb dX4_copy_37 rfl (lv_at hl 4 rfl) ?_
        refine lv_aload_n hx hb dX4_copy_38 rfl (lv_at hl 1 rfl) ?_
        refine va_get (D := (dC, dI)) (ci := 3) (v := .ref (a 7)) (C := RX4) (T := TX4) (N := 2) hx hb hu uX4 hown hK hI.1 6 rfl rfl 0 (by decide) (hu _ uww_52) (fun _ h9 => h9) rfl dX4_copy_39 ?_
        refine va_alen (v := (3332 : Int32)) hx hb hK hI.1 7 2 rfl rfl rfl dX4_copy_42 ?_
        refine lv_iload hx hb dX4_copy_43 (lv_at hl 5 rfl) ?_
        refine lv_isub hx hb dX4_copy_45 ?_
        refine lv_icmp_gt (tgt := 64) hx hb dX4_copy_46 (by decide) (fun c4 => ?_) (fun c4 => ?_)
        · have h := h.1 c4
          exact cpvret (Z := (fun M' L' => L' = L ∧ Z M')) hx hb hr hlocks hK hI dX4_copy_64 ⟨rfl, h⟩
        · have h := h.2 c4
          refine lv_aload_n hx hb dX4_copy_49 rfl (lv_at hl 2 rfl) ?_
          refine va_get (D := (dC, dI)) (ci := 3) (v := .ref (a 2)) (C := RX4) (T := TX4) (N := 2) hx hb hu uX4 hown hK hI.1 1 rfl rfl 0 (by decide) (hu _ uww_52) (fun _ h9 => h9) rfl dX4_copy_50 ?_
          refine lv_iload_n hx hb dX4_copy_53 rfl (lv_at hl 3 rfl) ?_
          refine lv_aload_n hx hb dX4_copy_54 rfl (lv_at hl 1 rfl) ?_
          refine va_get (D := (dC, dI)) (ci := 3) (v := .ref (a 7)) (C := RX4) (T := TX4) (N := 2) hx hb hu uX4 hown hK hI.1 6 rfl rfl 0 (by decide) (hu _ uww_52) (fun _ h9 => h9) rfl dX4_copy_55 ?_
          refine lv_iload_n hx hb dX4_copy_58 rfl (lv_at hl 4 rfl) ?_
          refine lv_iload hx hb dX4_copy_59 (lv_at hl 5 rfl) ?_
          refine va_copyi (ty := .byte) hx hb (hml.trans hl.1.symm) hown (hu _ uww_143) (hu _ uww_144) (hu _ uww_145) (hu _ uww_146) hK hI.1 hI.2.1 hI.2.2 2 7 0 2 rfl rfl rfl rfl rfl h.1.1 h.1.2.1 h.1.2.2.1 h.1.2.2.2.1 h.1.2.2.2.2.1 h.1.2.2.2.2.2 (Nat.le_of_ble_eq_true rfl) (Nat.le_of_ble_eq_true rfl) dX4_copy_61 (fun H locs hP hD hS => ?_)
          obtain ⟨M5, eM5⟩ : ∃ z : cM, z = ms M 7 (va_cpy (M 2) (M 7) p2.toNatClampNeg p3.toNatClampNeg p4.toNatClampNeg) := ⟨_, rfl⟩
          have hI : cpI dC dI a kA (cpA a sz) s M5 L H locs := ⟨by rw [eM5]; exact cpsets_7 _ _ _ _ _ ▸ hP, by rw [eM5]; exact cpsets_7 _ _ _ _ _ ▸ hD, hS⟩
          have h := h.2 M5 eM5
          exact cpvret (Z := (fun M' L' => L' = L ∧ Z M')) hx hb hr hlocks hK hI dX4_copy_64 ⟨rfl, h⟩
  obtain ⟨K25, hK25, h⟩ := h
  have J25 : ∀  (H : Heap) (locs : List Loc) (ls : Array Slot), K25  → cpI dC dI a kA (cpA a sz) s M L H locs → lv_has ls 6 [(0, .ref (a 6)), (1, .ref (a 1)), (2, .int p2), (3, .int p3), (4, .int p4)] → W p l e rm_X4_copy_6_1 s m (av_X4_copy_6_1 a t p2 p3 p4).toArray below meth c H locs 0 0 (MQ below (qc_X4_copy_6_1 dC dI a kA sz M L Z) (av_X4_copy_6_1 a t p2 p3 p4).toArray s 0 0 (cpA a sz)) (F0 m 25 ls []) := by
    intro  H locs ls h hI hl
    have h := hK25  h
    refine lv_iconst (v := (0 : Int32)) hx hb dX4_copy_25 (by decide) ?_
    exact J26 (0 : Int32) _ _ _ h hI (lv_sub hl [0, 1, 2, 3, 4] rfl)
  refine lv_if_le (tgt := 25) hx hb dX4_copy_2 (by decide) (fun c6 => ?_) (fun c6 => ?_)
  · have h := h.1 c6
    exact J25  _ _ _ h hI (lv_sub hl [0, 1, 2, 3, 4] rfl)
  · have h := h.2 c6
    refine lv_iload_n hx hb dX4_copy_5 rfl (lv_at hl 2 rfl) ?_
    refine lv_if_lt (tgt := 25) hx hb dX4_copy_6 (by decide) (fun c7 => ?_) (fun c7 => ?_)
    · have h := h.1 c7
      exact J25  _ _ _ h hI (lv_sub hl [0, 1, 2, 3, 4] rfl)
    · have h := h.2 c7
      refine lv_iload_n hx hb dX4_copy_9 rfl (lv_at hl 2 rfl) ?_
      refine lv_aload_n hx hb dX4_copy_10 rfl (lv_at hl 1 rfl) ?_
      refine va_get (D := (dC, dI)) (ci := 3) (v := .ref (a 2)) (C := RX4) (T := TX4) (N := 2) hx hb hu uX4 hown hK hI.1 1 rfl rfl 0 (by decide) (hu _ uww_52) (fun _ h9 => h9) rfl dX4_copy_11 ?_
      refine va_alen (v := (2400 : Int32)) hx hb hK hI.1 2 0 rfl rfl rfl dX4_copy_14 ?_
      refine lv_iload hx hb dX4_copy_15 (lv_at hl 4 rfl) ?_
      refine lv_isub hx hb dX4_copy_17 ?_
      refine lv_icmp_gt (tgt := 25) hx hb dX4_copy_18 (by decide) (fun c8 => ?_) (fun c8 => ?_)
      · have h := h.1 c8
        exact J25  _ _ _ h hI (lv_sub hl [0, 1, 2, 3, 4] rfl)
      · have h := h.2 c8
        refine lv_iconst (v := (1 : Int32)) hx hb dX4_copy_21 (by decide) ?_
        refine lv_goto (tgt := 26) hx hb dX4_copy_22 (by decide) ?_
        exact J26 (1 : Int32) _ _ _ h hI (lv_sub hl [0, 1, 2, 3, 4] rfl)
