abbrev rm_X4_put_1 : Room := { frames := 0, cells := 0, slots := 0, locals := 0 }
abbrev av_X4_put_1 (a t : Nat → Nat) (p1 : Int32) (p2 : Int32) (p3 : Int64) : List Value := [.ref (a 1), .int p1, .int p2, .long p3]
abbrev qc_X4_put_1 (dC : Nat → ClassId) (dI : Nat → Nat → Nat) (a : Nat → Nat) (kA : Nat → ClassId) (sz : Nat) (M : cM) (L : cL) (Z : cM → Prop) : Array Value → State → Outcome → State → Prop := va_Qv (fun (u : cM × cL) => u.2 = L ∧ Z u.1) (cpAt dC dI a kA (cpA a sz)) (cpA a sz)
set_option maxHeartbeats 4000000 in
set_option maxRecDepth 100000 in
theorem met_X4_put_1 (l : Launch) (dC : Nat → ClassId) (dI : Nat → Nat → Nat) (a : Nat → Nat) (kA : Nat → ClassId) (t : Nat → Nat) (sz : Nat) (M : cM) (L : cL) (p1 : Int32) (p2 : Int32) (p3 : Int64) (Z : cM → Prop) (h : wp_X4_put_1 M L p1 p2 p3 Z) : Met l yX4_put (Cond.code yX4_put cX4_put 7 none :: uW) rm_X4_put_1 (va_Pc (av_X4_put_1 a t p1 p2 p3) (cpPre dC dI a kA t M L sz)) (qc_X4_put_1 dC dI a kA sz M L Z) 0 0 (cpA a sz) := by
  refine cpenter (cc := cX4_put) (n := 7) (ret := none) (by decide) rfl (Nat.le_of_ble_eq_true rfl) ?_
  intro p e s m below meth c ls hx hb hml hr hlocks hown hts hK hE hsz hI hl hmn
  have hu : ∀ w ∈ uW, w.before (av_X4_put_1 a t p1 p2 p3).toArray s = true := fun w h => hts w (List.mem_cons_of_mem _ h)
  have hown : s.vm.findClass RX4 = some m.cls := hown
  have hl : lv_has ls 7 [(0, .ref (a 1)), (1, .int p1), (2, .int p2), (3, .long p3)] := hl
  unfold wp_X4_put_1 at h
  refine lv_iconst (v := (0 : Int32)) hx hb dX4_put_0 (by decide) ?_
  refine lv_istore (lv' := [(5, .int (0 : Int32)), (0, .ref (a 1)), (1, .int p1), (2, .int p2), (3, .long p3)]) hx hb dX4_put_1 hl (by decide) rfl (fun ls hl => ?_)
  obtain ⟨I3, m3, h, hs3⟩ := h
  have P3 : ∀ (n3 : Nat) (x1 : Int32) (M2 : cM) (H : Heap) (locs : List Loc) (ls : Array Slot), I3 x1 M2 → m3 x1 M2 < n3 → cpI dC dI a kA (cpA a sz) s M2 L H locs → lv_has ls 7 [(0, .ref (a 1)), (1, .int p1), (2, .int p2), (3, .long p3), (5, .int x1)] → W p l e rm_X4_put_1 s m (av_X4_put_1 a t p1 p2 p3).toArray below meth c H locs 0 0 (MQ below (qc_X4_put_1 dC dI a kA sz M L Z) (av_X4_put_1 a t p1 p2 p3).toArray s 0 0 (cpA a sz)) (F0 m 3 ls []) := by
    intro n3
    induction n3 with
    | zero => intro x1 M2 H locs ls _ hn; exact absurd hn (Nat.not_lt_zero _)
    | succ n3 ih3 =>
      intro x1 M2 H locs ls h hn3 hI hl
      have h := hs3 x1 M2 h
      refine lv_iload hx hb dX4_put_3 (lv_at hl 4 rfl) ?_
      refine lv_iload_n hx hb dX4_put_5 rfl (lv_at hl 2 rfl) ?_
      refine lv_icmp_ge (tgt := 56) hx hb dX4_put_6 (by decide) (fun c3 => ?_) (fun c3 => ?_)
      · have h := h.1 c3
        exact cpvret (Z := (fun M' L' => L' = L ∧ Z M')) hx hb hr hlocks hK hI dX4_put_56 ⟨rfl, h⟩
      · have h := h.2 c3
        refine lv_iload_n hx hb dX4_put_9 rfl (lv_at hl 1 rfl) ?_
        refine lv_iload hx hb dX4_put_10 (lv_at hl 4 rfl) ?_
        refine lv_iadd hx hb dX4_put_12 ?_
        refine lv_topi (fun x4 ex4 => ?_)
        have h := h x4 ex4
        refine lv_istore (lv' := [(6, .int x4), (0, .ref (a 1)), (1, .int p1), (2, .int p2), (3, .long p3), (5, .int x1)]) hx hb dX4_put_13 hl (by decide) rfl (fun ls hl => ?_)
        refine lv_iload hx hb dX4_put_15 (lv_at hl 0 rfl) ?_
        obtain ⟨K50, hK50, h⟩ := h
        have J50 : ∀ (M5 : cM) (H : Heap) (locs : List Loc) (ls : Array Slot), K50 M5 → cpI dC dI a kA (cpA a sz) s M5 L H locs → lv_has ls 7 [(0, .ref (a 1)), (1, .int p1), (2, .int p2), (3, .long p3), (5, .int x1)] → W p l e rm_X4_put_1 s m (av_X4_put_1 a t p1 p2 p3).toArray below meth c H locs 0 0 (MQ below (qc_X4_put_1 dC dI a kA sz M L Z) (av_X4_put_1 a t p1 p2 p3).toArray s 0 0 (cpA a sz)) (F0 m 50 ls []) := by
          intro M5 H locs ls h hI hl
          have h := hK50 M5 h
          obtain ⟨x6, ex6⟩ : ∃ y : Int32, y = (x1 + (1 : Int32)) := ⟨_, rfl⟩
          have h := h x6 ex6
          refine lv_iinc (v := x6) (lv' := [(5, .int x6), (0, .ref (a 1)), (1, .int p1), (2, .int p2), (3, .long p3)]) hx hb dX4_put_50 hl (k := 4) rfl (by rw [ex6]; rfl) (by decide) rfl (fun ls hl => ?_)
          refine lv_goto (tgt := 3) hx hb dX4_put_53 (by decide) ?_
          exact ih3 x6 M5 _ _ _ h.1 (Nat.lt_of_lt_of_le h.2 (Nat.le_of_lt_succ hn3)) hI (lv_sub hl [1, 2, 3, 4, 0] rfl)
        refine lv_if_lt (tgt := 50) hx hb dX4_put_17 (by decide) (fun c7 => ?_) (fun c7 => ?_)
        · have h := h.1 c7
          exact J50 M2 _ _ _ h hI (lv_sub hl [1, 2, 3, 4, 5] rfl)
        · have h := h.2 c7
          refine lv_iload hx hb dX4_put_20 (lv_at hl 0 rfl) ?_
          refine lv_aload_n hx hb dX4_put_22 rfl (lv_at hl 1 rfl) ?_
          refine va_get (D := (dC, dI)) (ci := 3) (v := .ref (a 2)) (C := RX4) (T := TX4) (N := 2) hx hb hu uX4 hown hK hI.1 1 rfl rfl 0 (by decide) (hu _ uww_52) (fun _ h9 => h9) rfl dX4_put_23 ?_
          refine va_alen (v := (2400 : Int32)) hx hb hK hI.1 2 0 rfl rfl rfl dX4_put_26 ?_
          refine lv_icmp_ge (tgt := 50) hx hb dX4_put_27 (by decide) (fun c8 => ?_) (fun c8 => ?_)
          · have h := h.1 c8
            exact J50 M2 _ _ _ h hI (lv_sub hl [1, 2, 3, 4, 5] rfl)
          · have h := h.2 c8
            refine lv_aload_n hx hb dX4_put_30 rfl (lv_at hl 1 rfl) ?_
            refine va_get (D := (dC, dI)) (ci := 3) (v := .ref (a 2)) (C := RX4) (T := TX4) (N := 2) hx hb hu uX4 hown hK hI.1 1 rfl rfl 0 (by decide) (hu _ uww_52) (fun _ h9 => h9) rfl dX4_put_31 ?_
            refine lv_iload hx hb dX4_put_34 (lv_at hl 0 rfl) ?_
            refine lv_lload_n hx hb dX4_put_36 rfl (lv_at hl 4 rfl) ?_
            refine lv_bipush (v := (8 : Int32)) hx hb dX4_put_37 (by decide) ?_
            refine lv_iload_n hx hb dX4_put_39 rfl (lv_at hl 3 rfl) ?_
            refine lv_iconst (v := (1 : Int32)) hx hb dX4_put_40 (by decide) ?_
            refine lv_isub hx hb dX4_put_41 ?_
            refine lv_iload hx hb dX4_put_42 (lv_at hl 5 rfl) ?_
            refine lv_isub hx hb dX4_put_44 ?_
            refine lv_imul hx hb dX4_put_45 ?_
            refine lv_lushr hx hb dX4_put_46 rfl ?_
            refine lv_l2i hx hb dX4_put_47 rfl ?_
            refine lv_i2b hx hb dX4_put_48 rfl ?_
            refine cpbast hx hb hK hI 2 0 rfl rfl h.1 (cpset_2 _ _ _ _ _ _) dX4_put_49 (fun H locs M9 eM9 hI => ?_)
            have h := h.2 M9 eM9
            exact J50 M9 _ _ _ h hI (lv_sub hl [1, 2, 3, 4, 5] rfl)
  exact P3 (m3 (0 : Int32) M + 1) (0 : Int32) M _ _ _ h (Nat.lt_succ_self _) hI (lv_sub hl [1, 2, 3, 4, 0] rfl)

abbrev rm_X6_feed_0 : Room := { frames := 6, cells := 1, slots := 6, locals := 110 }
abbrev av_X6_feed_0 (a t : Nat → Nat) (p1 : Int32) (p2 : Int32) (p3 : Int32) (p4 : Int32) (p5 : Int32) : List Value := [.ref (a 0), .int p1, .int p2, .int p3, .int p4, .int p5]
abbrev qc_X6_feed_0 (dC : Nat → ClassId) (dI : Nat → Nat → Nat) (a : Nat → Nat) (kA : Nat → ClassId) (sz : Nat) (M : cM) (L : cL) (Z : Int32 → cM → Prop) : Array Value → State → Outcome → State → Prop := va_Qi (fun r (u : cM × cL) => u.2 = L ∧ Z r u.1) (cpAt dC dI a kA (cpA a sz)) (cpA a sz)
abbrev xc_X6_feed_0 (dC : Nat → ClassId) (dI : Nat → Nat → Nat) (a : Nat → Nat) (kA : Nat → ClassId) (sz : Nat) (M : cM) (L : cL) (X : Prop) : String → State → State → Prop := cpXC dC dI a kA sz M L "java/lang/IllegalStateException" X
set_option maxHeartbeats 4000000 in
set_option maxRecDepth 100000 in
theorem met_X6_feed_0 (l : Launch) (hls : l.stackTraces = false) (dC : Nat → ClassId) (dI : Nat → Nat → Nat) (a : Nat → Nat) (kA : Nat → ClassId) (t : Nat → Nat) (sa : Nat → Nat) (sz : Nat) (M : cM) (L : cL) (p1 : Int32) (p2 : Int32) (p3 : Int32) (p4 : Int32) (p5 : Int32) (Z : Int32 → cM → Prop) (X : Prop) (h : wp_X6_feed_0 M L p1 p2 p3 p4 p5 Z X) : vx_Met l yX6_feed (Cond.code yX6_feed cX6_feed 7 (some .int) :: uW) rm_X6_feed_0 (va_Pc (av_X6_feed_0 a t p1 p2 p3 p4 p5) (cpPreX dC dI a kA t sa M L sz)) (qc_X6_feed_0 dC dI a kA sz M L Z) (xc_X6_feed_0 dC dI a kA sz M L X) 1 6 (cpA a sz) := by
  refine cpenterX (cc := cX6_feed) (n := 7) (ret := (some .int)) (by decide) rfl (Nat.le_of_ble_eq_true rfl) ?_
  intro p e s m below meth c ls hx hb hml hr hlocks hown hts hK hE hsz hI hl hmn hnoh hEX
  have hu : ∀ w ∈ uW, w.before (av_X6_feed_0 a t p1 p2 p3 p4 p5).toArray s = true := fun w h => hts w (List.mem_cons_of_mem _ h)
  have hown : s.vm.findClass RX6 = some m.cls := hown
  have hl : lv_has ls 7 [(0, .ref (a 0)), (1, .int p1), (2, .int p2), (3, .int p3), (4, .int p4), (5, .int p5)] := hl
  unfold wp_X6_feed_0 at h
  refine lv_aload_n hx hb dX6_feed_0 rfl (lv_at hl 0 rfl) ?_
  refine va_get (D := (dC, dI)) (ci := 5) (v := .ref (a 1)) (C := RX6) (T := TX6) (N := 17) hx hb hu uX6 hown hK hI.1 0 rfl rfl 0 (by decide) (hu _ uww_213) (fun _ h9 => h9) rfl dX6_feed_1 ?_
  refine va_getN (D := (dC, dI)) (ci := 3) (v := .int (M 1 1)) (C := RX4) (T := TX4) (N := 2) hx hb hu uX4 hown hK hI.1 1 rfl rfl 1 (by decide) (va_Nw.use rfl (hE.1 _ cpn_1)) (fun _ h9 => h9) rfl dX6_feed_4 ?_
  refine lv_topi (fun x1 ex1 => ?_)
  have h := h x1 ex1
  refine lv_istore (lv' := [(6, .int x1), (0, .ref (a 0)), (1, .int p1), (2, .int p2), (3, .int p3), (4, .int p4), (5, .int p5)]) hx hb dX6_feed_7 hl (by decide) rfl (fun ls hl => ?_)
  refine lv_iload hx hb dX6_feed_9 (lv_at hl 0 rfl) ?_
  refine lv_bipush (v := (20 : Int32)) hx hb dX6_feed_11 (by decide) ?_
  refine lv_iadd hx hb dX6_feed_13 ?_
  refine lv_sipush (v := (2400 : Int32)) hx hb dX6_feed_14 (by decide) ?_
  refine lv_icmp_le (tgt := 30) hx hb dX6_feed_17 (by decide) (fun c2 => ?_) (fun c2 => ?_)
  · have h := h.1 c2
    refine lv_aload_n hx hb dX6_feed_30 rfl (lv_at hl 1 rfl) ?_
    refine va_get (D := (dC, dI)) (ci := 5) (v := .ref (a 1)) (C := RX6) (T := TX6) (N := 17) hx hb hu uX6 hown hK hI.1 0 rfl rfl 0 (by decide) (hu _ uww_213) (fun _ h9 => h9) rfl dX6_feed_31 ?_
    refine lv_iload hx hb dX6_feed_34 (lv_at hl 0 rfl) ?_
    refine lv_iconst (v := (4 : Int32)) hx hb dX6_feed_36 (by decide) ?_
    refine lv_iload_n hx hb dX6_feed_37 rfl (lv_at hl 2 rfl) ?_
    refine lv_i2l hx hb dX6_feed_38 rfl ?_
    refine cpcallv_m hsz hI (va_runV (As := [.int x1, .int (4 : Int32), .long (p1.toInt64)]) (rest := []) ⟨hx, hb, hml, hown, hu⟩ (met_X4_put_1 l dC dI a kA t _ M L x1 (4 : Int32) (p1.toInt64) _ h) (cwl_X6_99_X4 hu ⟨by decide, by decide⟩) (cppre (ci := 3) hK hE hsz hI rfl rfl) rfl rfl hl.1 rfl (lv_room (Nat.le_of_ble_eq_true rfl)) dX6_feed_39 ⟨by decide, by decide⟩) (fun M3 H locs h hI => ?_)
    refine lv_aload_n hx hb dX6_feed_42 rfl (lv_at hl 1 rfl) ?_
    refine va_get (D := (dC, dI)) (ci := 5) (v := .ref (a 1)) (C := RX6) (T := TX6) (N := 17) hx hb hu uX6 hown hK hI.1 0 rfl rfl 0 (by decide) (hu _ uww_213) (fun _ h9 => h9) rfl dX6_feed_43 ?_
    refine lv_iload hx hb dX6_feed_46 (lv_at hl 0 rfl) ?_
    refine lv_iconst (v := (4 : Int32)) hx hb dX6_feed_48 (by decide) ?_
    refine lv_iadd hx hb dX6_feed_49 ?_
    refine lv_iconst (v := (4 : Int32)) hx hb dX6_feed_50 (by decide) ?_
    refine lv_iload_n hx hb dX6_feed_51 rfl (lv_at hl 3 rfl) ?_
    refine lv_i2l hx hb dX6_feed_52 rfl ?_
    refine cpcallv_m hsz hI (va_runV (As := [.int (x1 + (4 : Int32)), .int (4 : Int32), .long (p2.toInt64)]) (rest := []) ⟨hx, hb, hml, hown, hu⟩ (met_X4_put_1 l dC dI a kA t _ M3 L (x1 + (4 : Int32)) (4 : Int32) (p2.toInt64) _ h) (cwl_X6_99_X4 hu ⟨by decide, by decide⟩) (cppre (ci := 3) hK hE hsz hI rfl rfl) rfl rfl hl.1 rfl (lv_room (Nat.le_of_ble_eq_true rfl)) dX6_feed_53 ⟨by decide, by decide⟩) (fun M4 H locs h hI => ?_)
    refine lv_aload_n hx hb dX6_feed_56 rfl (lv_at hl 1 rfl) ?_
    refine va_get (D := (dC, dI)) (ci := 5) (v := .ref (a 1)) (C := RX6) (T := TX6) (N := 17) hx hb hu uX6 hown hK hI.1 0 rfl rfl 0 (by decide) (hu _ uww_213) (fun _ h9 => h9) rfl dX6_feed_57 ?_
    refine lv_iload hx hb dX6_feed_60 (lv_at hl 0 rfl) ?_
    refine lv_bipush (v := (8 : Int32)) hx hb dX6_feed_62 (by decide) ?_
    refine lv_iadd hx hb dX6_feed_64 ?_
    refine lv_iconst (v := (4 : Int32)) hx hb dX6_feed_65 (by decide) ?_
    refine lv_iload_n hx hb dX6_feed_66 rfl (lv_at hl 4 rfl) ?_
    refine lv_i2l hx hb dX6_feed_67 rfl ?_
    refine cpcallv_m hsz hI (va_runV (As := [.int (x1 + (8 : Int32)), .int (4 : Int32), .long (p3.toInt64)]) (rest := []) ⟨hx, hb, hml, hown, hu⟩ (met_X4_put_1 l dC dI a kA t _ M4 L (x1 + (8 : Int32)) (4 : Int32) (p3.toInt64) _ h) (cwl_X6_99_X4 hu ⟨by decide, by decide⟩) (cppre (ci := 3) hK hE hsz hI rfl rfl) rfl rfl hl.1 rfl (lv_room (Nat.le_of_ble_eq_true rfl)) dX6_feed_68 ⟨by decide, by decide⟩) (fun M5 H locs h hI => ?_)
    refine lv_aload_n hx hb dX6_feed_71 rfl (lv_at hl 1 rfl) ?_
    refine va_get (D := (dC, dI)) (ci := 5) (v := .ref (a 1)) (C := RX6) (T := TX6) (N := 17) hx hb hu uX6 hown hK hI.1 0 rfl rfl 0 (by decide) (hu _ uww_213) (fun _ h9 => h9) rfl dX6_feed_72 ?_
    refine lv_iload hx hb dX6_feed_75 (lv_at hl 0 rfl) ?_
    refine lv_bipush (v := (12 : Int32)) hx hb dX6_feed_77 (by decide) ?_
    refine lv_iadd hx hb dX6_feed_79 ?_
    refine lv_iconst (v := (4 : Int32)) hx hb dX6_feed_80 (by decide) ?_
    refine lv_iload hx hb dX6_feed_81 (lv_at hl 5 rfl) ?_
    refine lv_i2l hx hb dX6_feed_83 rfl ?_
    refine cpcallv_m hsz hI (va_runV (As := [.int (x1 + (12 : Int32)), .int (4 : Int32), .long (p4.toInt64)]) (rest := []) ⟨hx, hb, hml, hown, hu⟩ (met_X4_put_1 l dC dI a kA t _ M5 L (x1 + (12 : Int32)) (4 : Int32) (p4.toInt64) _ h) (cwl_X6_99_X4 hu ⟨by decide, by decide⟩) (cppre (ci := 3) hK hE hsz hI rfl rfl) rfl rfl hl.1 rfl (lv_room (Nat.le_of_ble_eq_true rfl)) dX6_feed_84 ⟨by decide, by decide⟩) (fun M6 H locs h hI => ?_)
    refine lv_aload_n hx hb dX6_feed_87 rfl (lv_at hl 1 rfl) ?_
    refine va_get (D := (dC, dI)) (ci := 5) (v := .ref (a 1)) (C := RX6) (T := TX6) (N := 17) hx hb hu uX6 hown hK hI.1 0 rfl rfl 0 (by decide) (hu _ uww_213) (fun _ h9 => h9) rfl dX6_feed_88 ?_
    refine lv_iload hx hb dX6_feed_91 (lv_at hl 0 rfl) ?_
    refine lv_bipush (v := (16 : Int32)) hx hb dX6_feed_93 (by decide) ?_
    refine lv_iadd hx hb dX6_feed_95 ?_
    refine lv_iconst (v := (4 : Int32)) hx hb dX6_feed_96 (by decide) ?_
    refine lv_iload hx hb dX6_feed_97 (lv_at hl 6 rfl) ?_
    refine lv_i2l hx hb dX6_feed_99 rfl ?_
    refine cpcallv_m hsz hI (va_runV (As := [.int (x1 + (16 : Int32)), .int (4 : Int32), .long (p5.toInt64)]) (rest := []) ⟨hx, hb, hml, hown, hu⟩ (met_X4_put_1 l dC dI a kA t _ M6 L (x1 + (16 : Int32)) (4 : Int32) (p5.toInt64) _ h) (cwl_X6_99_X4 hu ⟨by decide, by decide⟩) (cppre (ci := 3) hK hE hsz hI rfl rfl) rfl rfl hl.1 rfl (lv_room (Nat.le_of_ble_eq_true rfl)) dX6_feed_100 ⟨by decide, by decide⟩) (fun M7 H locs h hI => ?_)
    refine lv_aload_n hx hb dX6_feed_103 rfl (lv_at hl 1 rfl) ?_
    refine va_get (D := (dC, dI)) (ci := 5) (v := .ref (a 1)) (C := RX6) (T := TX6) (N := 17) hx hb hu uX6 hown hK hI.1 0 rfl rfl 0 (by decide) (hu _ uww_213) (fun _ h9 => h9) rfl dX6_feed_104 ?_
    refine lv_iload hx hb dX6_feed_107 (lv_at hl 0 rfl) ?_
    refine lv_bipush (v := (20 : Int32)) hx hb dX6_feed_109 (by decide) ?_
    refine lv_iadd hx hb dX6_feed_111 ?_
    refine cpputN (ci := 3) (C := RX4) (T := TX4) (N := 2) (ty := .int) hx hb hu uX4 tyX4 tyX4_ok nmX4 hown hK hI 1 rfl rfl 1 (by decide) (va_Nw.use rfl (hE.1 _ cpn_1)) (fun _ h9 => h9) rfl (by decide +kernel) rfl rfl (Nat.le_of_ble_eq_true rfl) (cpset_1_1 _ _ _ _ _) dX6_feed_112 (fun H locs M8 eM8 hI => ?_)
    have h := h M8 eM8
    refine lv_aload_n hx hb dX6_feed_115 rfl (lv_at hl 1 rfl) ?_
    refine va_get (D := (dC, dI)) (ci := 5) (v := .ref (a 1)) (C := RX6) (T := TX6) (N := 17) hx hb hu uX6 hown hK hI.1 0 rfl rfl 0 (by decide) (hu _ uww_213) (fun _ h9 => h9) rfl dX6_feed_116 ?_
    refine va_getN (D := (dC, dI)) (ci := 3) (v := .int (M8 1 1)) (C := RX4) (T := TX4) (N := 2) hx hb hu uX4 hown hK hI.1 1 rfl rfl 1 (by decide) (va_Nw.use rfl (hE.1 _ cpn_1)) (fun _ h9 => h9) rfl dX6_feed_119 ?_
    refine W.widen (k := 1) (n := 6) (by decide) (by decide) ?_
    refine vx_ret ?_
    exact cpiret (Z := (fun r M' L' => L' = L ∧ Z r M')) hx hb hr hlocks hK hI dX6_feed_122 ⟨rfl, h⟩
  · have h := h.2 c2
    exact vx_throwS (own := RX6) (cls := "java/lang/IllegalStateException") (text := "the tape would have more than 2400 bytes") (names := ["java/lang/RuntimeException", "java/lang/Exception"]) (ik := 92) (is := 94) (ic := 96) (sa := sa 0) hx hb hls hown (by decide +kernel) (by decide +kernel) (hu _ uww_247) (hu _ uww_248) hEX.2.2.2.1 (cphat_96 hu hEX.1) (by decide +kernel) hEX.2.1 hEX.2.2.1 hI.2.2 (hl.1.trans hml.symm) dX6_feed_20 dX6_feed_23 dX6_feed_24 dX6_feed_26 dX6_feed_29 (fun x hx => (hnoh x hx).elim) (by decide) (Nat.le_of_ble_eq_true rfl) (by decide) (by decide) hlocks (fun u hv hz hk => cpxc hK hI h u hv hz hk) hI.2.2.2.2 (by decide) (by decide)

abbrev rm_X6_end_0 : Room := { frames := 6, cells := 1, slots := 6, locals := 110 }
abbrev av_X6_end_0 (a t : Nat → Nat) (p1 : Int32) : List Value := [.ref (a 0), .int p1]
abbrev qc_X6_end_0 (dC : Nat → ClassId) (dI : Nat → Nat → Nat) (a : Nat → Nat) (kA : Nat → ClassId) (sz : Nat) (M : cM) (L : cL) (Z : Int32 → cM → Prop) : Array Value → State → Outcome → State → Prop := va_Qi (fun r (u : cM × cL) => u.2 = L ∧ Z r u.1) (cpAt dC dI a kA (cpA a sz)) (cpA a sz)
abbrev xc_X6_end_0 (dC : Nat → ClassId) (dI : Nat → Nat → Nat) (a : Nat → Nat) (kA : Nat → ClassId) (sz : Nat) (M : cM) (L : cL) (X : Prop) : String → State → State → Prop := cpXC dC dI a kA sz M L "java/lang/IllegalArgumentException" X
set_option maxHeartbeats 4000000 in
set_option maxRecDepth 100000 in
theorem met_X6_end_0 (l : Launch) (hls : l.stackTraces = false) (dC : Nat → ClassId) (dI : Nat → Nat → Nat) (a : Nat → Nat) (kA : Nat → ClassId) (t : Nat → Nat) (sa : Nat → Nat) (sz : Nat) (M : cM) (L : cL) (p1 : Int32) (Z : Int32 → cM → Prop) (X : Prop) (h : wp_X6_end_0 M L p1 Z X) : vx_Met l yX6_end (Cond.code yX6_end cX6_end 2 (some .int) :: uW) rm_X6_end_0 (va_Pc (av_X6_end_0 a t p1) (cpPreX dC dI a kA t sa M L sz)) (qc_X6_end_0 dC dI a kA sz M L Z) (xc_X6_end_0 dC dI a kA sz M L X) 1 6 (cpA a sz) := by
  refine cpenterX (cc := cX6_end) (n := 2) (ret := (some .int)) (by decide) rfl (Nat.le_of_ble_eq_true rfl) ?_
  intro p e s m below meth c ls hx hb hml hr hlocks hown hts hK hE hsz hI hl hmn hnoh hEX
  have hu : ∀ w ∈ uW, w.before (av_X6_end_0 a t p1).toArray s = true := fun w h => hts w (List.mem_cons_of_mem _ h)
  have hown : s.vm.findClass RX6 = some m.cls := hown
  have hl : lv_has ls 2 [(0, .ref (a 0)), (1, .int p1)] := hl
  unfold wp_X6_end_0 at h
  refine lv_iload_n hx hb dX6_end_0 rfl (lv_at hl 1 rfl) ?_
  obtain ⟨K15, hK15, h⟩ := h
  have J15 : ∀  (H : Heap) (locs : List Loc) (ls : Array Slot), K15  → cpI dC dI a kA (cpA a sz) s M L H locs → lv_has ls 2 [] → W p l e rm_X6_end_0 s m (av_X6_end_0 a t p1).toArray below meth c H locs 0 0 (vx_MQ below (qc_X6_end_0 dC dI a kA sz M L Z) (xc_X6_end_0 dC dI a kA sz M L X) (av_X6_end_0 a t p1).toArray s 1 6 (cpA a sz)) (F0 m 15 ls []) := by
    intro  H locs ls h hI hl
    have h := hK15  h
    exact vx_throwS (own := RX6) (cls := "java/lang/IllegalArgumentException") (text := "the tape has not so many bytes") (names := ["java/lang/RuntimeException", "java/lang/Exception"]) (ik := 103) (is := 105) (ic := 107) (sa := sa 1) hx hb hls hown (by decide +kernel) (by decide +kernel) (hu _ uww_253) (hu _ uww_254) hEX.2.2.2.2.1 (cphat_107 hu hEX.1) (by decide +kernel) hEX.2.1 hEX.2.2.1 hI.2.2 (hl.1.trans hml.symm) dX6_end_15 dX6_end_18 dX6_end_19 dX6_end_21 dX6_end_24 (fun x hx => (hnoh x hx).elim) (by decide) (Nat.le_of_ble_eq_true rfl) (by decide) (by decide) hlocks (fun u hv hz hk => cpxc hK hI h u hv hz hk) hI.2.2.2.2 (by decide) (by decide)
  refine lv_if_lt (tgt := 15) hx hb dX6_end_1 (by decide) (fun c1 => ?_) (fun c1 => ?_)
  · have h := h.1 c1
    exact J15  _ _ _ h hI (lv_sub hl [] rfl)
  · have h := h.2 c1
    refine lv_iload_n hx hb dX6_end_4 rfl (lv_at hl 1 rfl) ?_
    refine lv_aload_n hx hb dX6_end_5 rfl (lv_at hl 0 rfl) ?_
    refine va_get (D := (dC, dI)) (ci := 5) (v := .ref (a 1)) (C := RX6) (T := TX6) (N := 17) hx hb hu uX6 hown hK hI.1 0 rfl rfl 0 (by decide) (hu _ uww_213) (fun _ h9 => h9) rfl dX6_end_6 ?_
    refine va_getN (D := (dC, dI)) (ci := 3) (v := .int (M 1 1)) (C := RX4) (T := TX4) (N := 2) hx hb hu uX4 hown hK hI.1 1 rfl rfl 1 (by decide) (va_Nw.use rfl (hE.1 _ cpn_1)) (fun _ h9 => h9) rfl dX6_end_9 ?_
    refine lv_icmp_le (tgt := 25) hx hb dX6_end_12 (by decide) (fun c2 => ?_) (fun c2 => ?_)
    · have h := h.1 c2
      refine lv_aload_n hx hb dX6_end_25 rfl (lv_at hl 0 rfl) ?_
      refine va_get (D := (dC, dI)) (ci := 5) (v := .ref (a 1)) (C := RX6) (T := TX6) (N := 17) hx hb hu uX6 hown hK hI.1 0 rfl rfl 0 (by decide) (hu _ uww_213) (fun _ h9 => h9) rfl dX6_end_26 ?_
      refine lv_iload_n hx hb dX6_end_29 rfl (lv_at hl 1 rfl) ?_
      refine cpputN (ci := 3) (C := RX4) (T := TX4) (N := 2) (ty := .int) hx hb hu uX4 tyX4 tyX4_ok nmX4 hown hK hI 1 rfl rfl 1 (by decide) (va_Nw.use rfl (hE.1 _ cpn_1)) (fun _ h9 => h9) rfl (by decide +kernel) rfl rfl (Nat.le_of_ble_eq_true rfl) (cpset_1_1 _ _ _ _ _) dX6_end_30 (fun H locs M3 eM3 hI => ?_)
      have h := h M3 eM3
      refine lv_iload_n hx hb dX6_end_33 rfl (lv_at hl 1 rfl) ?_
      refine W.widen (k := 1) (n := 6) (by decide) (by decide) ?_
      refine vx_ret ?_
      exact cpiret (Z := (fun r M' L' => L' = L ∧ Z r M')) hx hb hr hlocks hK hI dX6_end_34 ⟨rfl, h⟩
    · have h := h.2 c2
      exact J15  _ _ _ h hI (lv_sub hl [] rfl)

abbrev rm_X1_canBePrefix : Room := { frames := 0, cells := 0, slots := 0, locals := 0 }
abbrev av_X1_canBePrefix (a t : Nat → Nat) (p0 : Int64) (p2 : Int64) (p4 : Int32) : List Value := [.long p0, .long p2, .int p4]
abbrev qc_X1_canBePrefix (dC : Nat → ClassId) (dI : Nat → Nat → Nat) (a : Nat → Nat) (kA : Nat → ClassId) (sz : Nat) (M : cM) (L : cL) (Z : Int32 → Prop) : Array Value → State → Outcome → State → Prop := va_Qi (fun r (u : cM × cL) => u.1 = M ∧ u.2 = L ∧ Z r) (cpAt dC dI a kA (cpA a sz)) (cpA a sz)
set_option maxHeartbeats 4000000 in
set_option maxRecDepth 100000 in
theorem met_X1_canBePrefix (l : Launch) (dC : Nat → ClassId) (dI : Nat → Nat → Nat) (a : Nat → Nat) (kA : Nat → ClassId) (t : Nat → Nat) (sz : Nat) (M : cM) (L : cL) (p0 : Int64) (p2 : Int64) (p4 : Int32) (Z : Int32 → Prop) (h : wp_X1_canBePrefix M L p0 p2 p4 Z) : Met l yX1_canBePrefix (Cond.code yX1_canBePrefix cX1_canBePrefix 5 (some .boolean) :: uW) rm_X1_canBePrefix (va_Pc (av_X1_canBePrefix a t p0 p2 p4) (cpPre dC dI a kA t M L sz)) (qc_X1_canBePrefix dC dI a kA sz M L Z) 0 0 (cpA a sz) := by
  refine cpenter (cc := cX1_canBePrefix) (n := 5) (ret := (some .boolean)) (by decide) rfl (Nat.le_of_ble_eq_true rfl) ?_
  intro p e s m below meth c ls hx hb hml hr hlocks hown hts hK hE hsz hI hl hmn
  have hu : ∀ w ∈ uW, w.before (av_X1_canBePrefix a t p0 p2 p4).toArray s = true := fun w h => hts w (List.mem_cons_of_mem _ h)
  have hown : s.vm.findClass RX1 = some m.cls := hown
  have hl : lv_has ls 5 [(0, .long p0), (2, .long p2), (4, .int p4)] := hl
  unfold wp_X1_canBePrefix at h
  refine lv_iload hx hb dX1_canBePrefix_0 (lv_at hl 2 rfl) ?_
  by_cases c2_0 : p4 = (32 : Int32)
  · have h := h.1 c2_0
    refine lv_lookup (off := 58) (tgt := 60) hx hb dX1_canBePrefix_2 (by decide) (by rw [c2_0]; rfl) (by decide) ?_
    refine lv_lload_n hx hb dX1_canBePrefix_60 rfl (lv_at hl 1 rfl) ?_
    refine lv_lconst (v := (0 : Int64)) hx hb dX1_canBePrefix_61 (by decide) ?_
    refine W.lcmp hx hb dX1_canBePrefix_62 ?_
    refine lv_if_ne (tgt := 79) hx hb dX1_canBePrefix_63 (by decide) (fun c1 => ?_) (fun c1 => ?_)
    · have h := h.1 c1
      refine lv_iconst (v := (0 : Int32)) hx hb dX1_canBePrefix_79 (by decide) ?_
      exact cpzret (Z := (fun r M' L' => M' = M ∧ L' = L ∧ Z r)) hx hb hr hlocks hK hI dX1_canBePrefix_80 ⟨isB_0, ⟨rfl, rfl, h⟩⟩
    · have h := h.2 c1
      refine lv_lload_n hx hb dX1_canBePrefix_66 rfl (lv_at hl 0 rfl) ?_
      refine lv_iload hx hb dX1_canBePrefix_67 (lv_at hl 2 rfl) ?_
      refine lv_lshl hx hb dX1_canBePrefix_69 rfl ?_
      refine lv_lconst (v := (0 : Int64)) hx hb dX1_canBePrefix_70 (by decide) ?_
      refine W.lcmp hx hb dX1_canBePrefix_71 ?_
      refine lv_if_ne (tgt := 79) hx hb dX1_canBePrefix_72 (by decide) (fun c2 => ?_) (fun c2 => ?_)
      · have h := h.1 c2
        refine lv_iconst (v := (0 : Int32)) hx hb dX1_canBePrefix_79 (by decide) ?_
        exact cpzret (Z := (fun r M' L' => M' = M ∧ L' = L ∧ Z r)) hx hb hr hlocks hK hI dX1_canBePrefix_80 ⟨isB_0, ⟨rfl, rfl, h⟩⟩
      · have h := h.2 c2
        refine lv_iconst (v := (1 : Int32)) hx hb dX1_canBePrefix_75 (by decide) ?_
        refine lv_goto (tgt := 80) hx hb dX1_canBePrefix_76 (by decide) ?_
        exact cpzret (Z := (fun r M' L' => M' = M ∧ L' = L ∧ Z r)) hx hb hr hlocks hK hI dX1_canBePrefix_80 ⟨isB_1, ⟨rfl, rfl, h⟩⟩
  · have h := h.2 c2_0
    by_cases c2_1 : p4 = (40 : Int32)
    · have h := h.1 c2_1
      refine lv_lookup (off := 58) (tgt := 60) hx hb dX1_canBePrefix_2 (by decide) (by rw [c2_1]; rfl) (by decide) ?_
      refine lv_lload_n hx hb dX1_canBePrefix_60 rfl (lv_at hl 1 rfl) ?_
      refine lv_lconst (v := (0 : Int64)) hx hb dX1_canBePrefix_61 (by decide) ?_
      refine W.lcmp hx hb dX1_canBePrefix_62 ?_
      refine lv_if_ne (tgt := 79) hx hb dX1_canBePrefix_63 (by decide) (fun c3 => ?_) (fun c3 => ?_)
      · have h := h.1 c3
        refine lv_iconst (v := (0 : Int32)) hx hb dX1_canBePrefix_79 (by decide) ?_
        exact cpzret (Z := (fun r M' L' => M' = M ∧ L' = L ∧ Z r)) hx hb hr hlocks hK hI dX1_canBePrefix_80 ⟨isB_0, ⟨rfl, rfl, h⟩⟩
      · have h := h.2 c3
        refine lv_lload_n hx hb dX1_canBePrefix_66 rfl (lv_at hl 0 rfl) ?_
        refine lv_iload hx hb dX1_canBePrefix_67 (lv_at hl 2 rfl) ?_
        refine lv_lshl hx hb dX1_canBePrefix_69 rfl ?_
        refine lv_lconst (v := (0 : Int64)) hx hb dX1_canBePrefix_70 (by decide) ?_
        refine W.lcmp hx hb dX1_canBePrefix_71 ?_
        refine lv_if_ne (tgt := 79) hx hb dX1_canBePrefix_72 (by decide) (fun c4 => ?_) (fun c4 => ?_)
        · have h := h.1 c4
          refine lv_iconst (v := (0 : Int32)) hx hb dX1_canBePrefix_79 (by decide) ?_
          exact cpzret (Z := (fun r M' L' => M' = M ∧ L' = L ∧ Z r)) hx hb hr hlocks hK hI dX1_canBePrefix_80 ⟨isB_0, ⟨rfl, rfl, h⟩⟩
        · have h := h.2 c4
          refine lv_iconst (v := (1 : Int32)) hx hb dX1_canBePrefix_75 (by decide) ?_
          refine lv_goto (tgt := 80) hx hb dX1_canBePrefix_76 (by decide) ?_
          exact cpzret (Z := (fun r M' L' => M' = M ∧ L' = L ∧ Z r)) hx hb hr hlocks hK hI dX1_canBePrefix_80 ⟨isB_1, ⟨rfl, rfl, h⟩⟩
    · have h := h.2 c2_1
      by_cases c2_2 : p4 = (48 : Int32)
      · have h := h.1 c2_2
        refine lv_lookup (off := 58) (tgt := 60) hx hb dX1_canBePrefix_2 (by decide) (by rw [c2_2]; rfl) (by decide) ?_
        refine lv_lload_n hx hb dX1_canBePrefix_60 rfl (lv_at hl 1 rfl) ?_
        refine lv_lconst (v := (0 : Int64)) hx hb dX1_canBePrefix_61 (by decide) ?_
        refine W.lcmp hx hb dX1_canBePrefix_62 ?_
        refine lv_if_ne (tgt := 79) hx hb dX1_canBePrefix_63 (by decide) (fun c5 => ?_) (fun c5 => ?_)
        · have h := h.1 c5
          refine lv_iconst (v := (0 : Int32)) hx hb dX1_canBePrefix_79 (by decide) ?_
          exact cpzret (Z := (fun r M' L' => M' = M ∧ L' = L ∧ Z r)) hx hb hr hlocks hK hI dX1_canBePrefix_80 ⟨isB_0, ⟨rfl, rfl, h⟩⟩
        · have h := h.2 c5
          refine lv_lload_n hx hb dX1_canBePrefix_66 rfl (lv_at hl 0 rfl) ?_
          refine lv_iload hx hb dX1_canBePrefix_67 (lv_at hl 2 rfl) ?_
          refine lv_lshl hx hb dX1_canBePrefix_69 rfl ?_
          refine lv_lconst (v := (0 : Int64)) hx hb dX1_canBePrefix_70 (by decide) ?_
          refine W.lcmp hx hb dX1_canBePrefix_71 ?_
          refine lv_if_ne (tgt := 79) hx hb dX1_canBePrefix_72 (by decide) (fun c6 => ?_) (fun c6 => ?_)
          · have h := h.1 c6
            refine lv_iconst (v := (0 : Int32)) hx hb dX1_canBePrefix_79 (by decide) ?_
            exact cpzret (Z := (fun r M' L' => M' = M ∧ L' = L ∧ Z r)) hx hb hr hlocks hK hI dX1_canBePrefix_80 ⟨isB_0, ⟨rfl, rfl, h⟩⟩
          · have h := h.2 c6
            refine lv_iconst (v := (1 : Int32)) hx hb dX1_canBePrefix_75 (by decide) ?_
            refine lv_goto (tgt := 80) hx hb dX1_canBePrefix_76 (by decide) ?_
            exact cpzret (Z := (fun r M' L' => M' = M ∧ L' = L ∧ Z r)) hx hb hr hlocks hK hI dX1_canBePrefix_80 ⟨isB_1, ⟨rfl, rfl, h⟩⟩
      · have h := h.2 c2_2
        by_cases c2_3 : p4 = (56 : Int32)
        · have h := h.1 c2_3
          refine lv_lookup (off := 58) (tgt := 60) hx hb dX1_canBePrefix_2 (by decide) (by rw [c2_3]; rfl) (by decide) ?_
          refine lv_lload_n hx hb dX1_canBePrefix_60 rfl (lv_at hl 1 rfl) ?_
          refine lv_lconst (v := (0 : Int64)) hx hb dX1_canBePrefix_61 (by decide) ?_
          refine W.lcmp hx hb dX1_canBePrefix_62 ?_
          refine lv_if_ne (tgt := 79) hx hb dX1_canBePrefix_63 (by decide) (fun c7 => ?_) (fun c7 => ?_)
          · have h := h.1 c7
            refine lv_iconst (v := (0 : Int32)) hx hb dX1_canBePrefix_79 (by decide) ?_
            exact cpzret (Z := (fun r M' L' => M' = M ∧ L' = L ∧ Z r)) hx hb hr hlocks hK hI dX1_canBePrefix_80 ⟨isB_0, ⟨rfl, rfl, h⟩⟩
          · have h := h.2 c7
            refine lv_lload_n hx hb dX1_canBePrefix_66 rfl (lv_at hl 0 rfl) ?_
            refine lv_iload hx hb dX1_canBePrefix_67 (lv_at hl 2 rfl) ?_
            refine lv_lshl hx hb dX1_canBePrefix_69 rfl ?_
            refine lv_lconst (v := (0 : Int64)) hx hb dX1_canBePrefix_70 (by decide) ?_
            refine W.lcmp hx hb dX1_canBePrefix_71 ?_
            refine lv_if_ne (tgt := 79) hx hb dX1_canBePrefix_72 (by decide) (fun c8 => ?_) (fun c8 => ?_)
            · have h := h.1 c8
              refine lv_iconst (v := (0 : Int32)) hx hb dX1_canBePrefix_79 (by decide) ?_
              exact cpzret (Z := (fun r M' L' => M' = M ∧ L' = L ∧ Z r)) hx hb hr hlocks hK hI dX1_canBePrefix_80 ⟨isB_0, ⟨rfl, rfl, h⟩⟩
            · have h := h.2 c8
              refine lv_iconst (v := (1 : Int32)) hx hb dX1_canBePrefix_75 (by decide) ?_
              refine lv_goto (tgt := 80) hx hb dX1_canBePrefix_76 (by decide) ?_
              exact cpzret (Z := (fun r M' L' => M' = M ∧ L' = L ∧ Z r)) hx hb hr hlocks hK hI dX1_canBePrefix_80 ⟨isB_1, ⟨rfl, rfl, h⟩⟩
        · have h := h.2 c2_3
          by_cases c2_4 : p4 = (64 : Int32)
          · have h := h.1 c2_4
            refine lv_lookup (off := 79) (tgt := 81) hx hb dX1_canBePrefix_2 (by decide) (by rw [c2_4]; rfl) (by decide) ?_
            refine lv_lload_n hx hb dX1_canBePrefix_81 rfl (lv_at hl 1 rfl) ?_
            refine lv_lconst (v := (0 : Int64)) hx hb dX1_canBePrefix_82 (by decide) ?_
            refine W.lcmp hx hb dX1_canBePrefix_83 ?_
            refine lv_if_ne (tgt := 91) hx hb dX1_canBePrefix_84 (by decide) (fun c9 => ?_) (fun c9 => ?_)
            · have h := h.1 c9
              refine lv_iconst (v := (0 : Int32)) hx hb dX1_canBePrefix_91 (by decide) ?_
              exact cpzret (Z := (fun r M' L' => M' = M ∧ L' = L ∧ Z r)) hx hb hr hlocks hK hI dX1_canBePrefix_92 ⟨isB_0, ⟨rfl, rfl, h⟩⟩
            · have h := h.2 c9
              refine lv_iconst (v := (1 : Int32)) hx hb dX1_canBePrefix_87 (by decide) ?_
              refine lv_goto (tgt := 92) hx hb dX1_canBePrefix_88 (by decide) ?_
              exact cpzret (Z := (fun r M' L' => M' = M ∧ L' = L ∧ Z r)) hx hb hr hlocks hK hI dX1_canBePrefix_92 ⟨isB_1, ⟨rfl, rfl, h⟩⟩
          · have h := h.2 c2_4
            by_cases c2_5 : p4 = (96 : Int32)
            · have h := h.1 c2_5
              refine lv_lookup (off := 91) (tgt := 93) hx hb dX1_canBePrefix_2 (by decide) (by rw [c2_5]; rfl) (by decide) ?_
              refine lv_lload_n hx hb dX1_canBePrefix_93 rfl (lv_at hl 1 rfl) ?_
              refine lv_bipush (v := (56 : Int32)) hx hb dX1_canBePrefix_94 (by decide) ?_
              refine lv_lushr hx hb dX1_canBePrefix_96 rfl ?_
              refine lv_lconst (v := (0 : Int64)) hx hb dX1_canBePrefix_97 (by decide) ?_
              refine W.lcmp hx hb dX1_canBePrefix_98 ?_
              refine lv_if_ne (tgt := 116) hx hb dX1_canBePrefix_99 (by decide) (fun c10 => ?_) (fun c10 => ?_)
              · have h := h.1 c10
                refine lv_iconst (v := (0 : Int32)) hx hb dX1_canBePrefix_116 (by decide) ?_
                exact cpzret (Z := (fun r M' L' => M' = M ∧ L' = L ∧ Z r)) hx hb hr hlocks hK hI dX1_canBePrefix_117 ⟨isB_0, ⟨rfl, rfl, h⟩⟩
              · have h := h.2 c10
                refine lv_lload_n hx hb dX1_canBePrefix_102 rfl (lv_at hl 1 rfl) ?_
                refine lv_ldc2 (own := RX1) (v := (4294967295 : Int64)) hx hb hown (hu _ uww_101) dX1_canBePrefix_103 ?_
                refine lv_land hx hb dX1_canBePrefix_106 ?_
                refine lv_lconst (v := (0 : Int64)) hx hb dX1_canBePrefix_107 (by decide) ?_
                refine W.lcmp hx hb dX1_canBePrefix_108 ?_
                refine lv_if_ne (tgt := 116) hx hb dX1_canBePrefix_109 (by decide) (fun c11 => ?_) (fun c11 => ?_)
                · have h := h.1 c11
                  refine lv_iconst (v := (0 : Int32)) hx hb dX1_canBePrefix_116 (by decide) ?_
                  exact cpzret (Z := (fun r M' L' => M' = M ∧ L' = L ∧ Z r)) hx hb hr hlocks hK hI dX1_canBePrefix_117 ⟨isB_0, ⟨rfl, rfl, h⟩⟩
                · have h := h.2 c11
                  refine lv_iconst (v := (1 : Int32)) hx hb dX1_canBePrefix_112 (by decide) ?_
                  refine lv_goto (tgt := 117) hx hb dX1_canBePrefix_113 (by decide) ?_
                  exact cpzret (Z := (fun r M' L' => M' = M ∧ L' = L ∧ Z r)) hx hb hr hlocks hK hI dX1_canBePrefix_117 ⟨isB_1, ⟨rfl, rfl, h⟩⟩
            · have h := h.2 c2_5
              refine lv_lookup (off := 116) (tgt := 118) hx hb dX1_canBePrefix_2 (by decide) ((lv_osw c2_0 (by decide)).trans ((lv_osw c2_1 (by decide)).trans ((lv_osw c2_2 (by decide)).trans ((lv_osw c2_3 (by decide)).trans ((lv_osw c2_4 (by decide)).trans ((lv_osw c2_5 (by decide)).trans rfl)))))) (by decide) ?_
              refine lv_iconst (v := (0 : Int32)) hx hb dX1_canBePrefix_118 (by decide) ?_
              exact cpzret (Z := (fun r M' L' => M' = M ∧ L' = L ∧ Z r)) hx hb hr hlocks hK hI dX1_canBePrefix_119 ⟨isB_0, ⟨rfl, rfl, h⟩⟩

abbrev rm_X6_prefix_0 : Room := { frames := 6, cells := 1, slots := 6, locals := 110 }
abbrev av_X6_prefix_0 (a t : Nat → Nat) (p1 : Int64) (p3 : Int64) (p5 : Int32) : List Value := [.ref (a 0), .long p1, .long p3, .int p5]
abbrev qc_X6_prefix_0 (dC : Nat → ClassId) (dI : Nat → Nat → Nat) (a : Nat → Nat) (kA : Nat → ClassId) (sz : Nat) (M : cM) (L : cL) (Z : cM → cL → Prop) : Array Value → State → Outcome → State → Prop := va_Qv (fun (u : cM × cL) => Z u.1 u.2) (cpAt dC dI a kA (cpA a sz)) (cpA a sz)
abbrev xc_X6_prefix_0 (dC : Nat → ClassId) (dI : Nat → Nat → Nat) (a : Nat → Nat) (kA : Nat → ClassId) (sz : Nat) (M : cM) (L : cL) (X : Prop) : String → State → State → Prop := cpXC dC dI a kA sz M L "java/lang/IllegalArgumentException" X
set_option maxHeartbeats 4000000 in
set_option maxRecDepth 100000 in
theorem met_X6_prefix_0 (l : Launch) (hls : l.stackTraces = false) (dC : Nat → ClassId) (dI : Nat → Nat → Nat) (a : Nat → Nat) (kA : Nat → ClassId) (t : Nat → Nat) (sa : Nat → Nat) (sz : Nat) (M : cM) (L : cL) (p1 : Int64) (p3 : Int64) (p5 : Int32) (Z : cM → cL → Prop) (X : Prop) (h : wp_X6_prefix_0 M L p1 p3 p5 Z X) : vx_Met l yX6_prefix (Cond.code yX6_prefix cX6_prefix 6 none :: uW) rm_X6_prefix_0 (va_Pc (av_X6_prefix_0 a t p1 p3 p5) (cpPreX dC dI a kA t sa M L sz)) (qc_X6_prefix_0 dC dI a kA sz M L Z) (xc_X6_prefix_0 dC dI a kA sz M L X) 1 6 (cpA a sz) := by
  refine cpenterX (cc := cX6_prefix) (n := 6) (ret := none) (by decide) rfl (Nat.le_of_ble_eq_true rfl) ?_
  intro p e s m below meth c ls hx hb hml hr hlocks hown hts hK hE hsz hI hl hmn hnoh hEX
  have hu : ∀ w ∈ uW, w.before (av_X6_prefix_0 a t p1 p3 p5).toArray s = true := fun w h => hts w (List.mem_cons_of_mem _ h)
  have hown : s.vm.findClass RX6 = some m.cls := hown
  have hl : lv_has ls 6 [(0, .ref (a 0)), (1, .long p1), (3, .long p3), (5, .int p5)] := hl
  unfold wp_X6_prefix_0 at h
  refine lv_lload_n hx hb dX6_prefix_0 rfl (lv_at hl 1 rfl) ?_
  refine lv_lload_n hx hb dX6_prefix_1 rfl (lv_at hl 2 rfl) ?_
  refine lv_iload hx hb dX6_prefix_2 (lv_at hl 3 rfl) ?_
  refine cpcalli_p hsz hI (va_runS (As := [.long p1, .long p3, .int p5]) (rest := []) ⟨hx, hb, hml, hown, hu⟩ (met_X1_canBePrefix l dC dI a kA t _ M L p1 p3 p5 _ h) (cwl_X6_108_S hu ⟨by decide, by decide⟩) (cppreS hK hE hsz hI) rfl rfl hl.1 rfl (lv_room (Nat.le_of_ble_eq_true rfl)) dX6_prefix_4 ⟨by decide, by decide⟩) (fun r1 H locs h hI => ?_)
  refine lv_if_ne (tgt := 20) hx hb dX6_prefix_7 (by decide) (fun c2 => ?_) (fun c2 => ?_)
  · have h := h.1 c2
    refine lv_aload_n hx hb dX6_prefix_20 rfl (lv_at hl 0 rfl) ?_
    refine va_get (D := (dC, dI)) (ci := 5) (v := .ref (a 10)) (C := RX6) (T := TX6) (N := 17) hx hb hu uX6 hown hK hI.1 0 rfl rfl 3 (by decide) (hu _ uww_221) (fun _ h9 => h9) rfl dX6_prefix_21 ?_
    refine lv_lload_n hx hb dX6_prefix_24 rfl (lv_at hl 1 rfl) ?_
    refine cpputlN (ci := 1) (C := RX1) (T := TX1) (N := 3) (ty := .long) hx hb hu uX1 tyX1 tyX1_ok nmX1 hown hK hI 10 rfl rfl 0 (by decide) (va_Nw.use rfl (hE.1 _ cpn_6)) (fun _ h9 => h9) rfl (by decide +kernel) rfl rfl (Nat.le_of_ble_eq_true rfl) (cpset_10_0 _ _ _ _ _) dX6_prefix_25 (fun H locs L3 eL3 hI => ?_)
    have h := h L3 eL3
    refine lv_aload_n hx hb dX6_prefix_28 rfl (lv_at hl 0 rfl) ?_
    refine va_get (D := (dC, dI)) (ci := 5) (v := .ref (a 10)) (C := RX6) (T := TX6) (N := 17) hx hb hu uX6 hown hK hI.1 0 rfl rfl 3 (by decide) (hu _ uww_221) (fun _ h9 => h9) rfl dX6_prefix_29 ?_
    refine lv_lload_n hx hb dX6_prefix_32 rfl (lv_at hl 2 rfl) ?_
    refine cpputlN (ci := 1) (C := RX1) (T := TX1) (N := 3) (ty := .long) hx hb hu uX1 tyX1 tyX1_ok nmX1 hown hK hI 10 rfl rfl 1 (by decide) (va_Nw.use rfl (hE.1 _ cpn_7)) (fun _ h9 => h9) rfl (by decide +kernel) rfl rfl (Nat.le_of_ble_eq_true rfl) (cpset_10_1 _ _ _ _ _) dX6_prefix_33 (fun H locs L4 eL4 hI => ?_)
    have h := h L4 eL4
    refine lv_aload_n hx hb dX6_prefix_36 rfl (lv_at hl 0 rfl) ?_
    refine va_get (D := (dC, dI)) (ci := 5) (v := .ref (a 10)) (C := RX6) (T := TX6) (N := 17) hx hb hu uX6 hown hK hI.1 0 rfl rfl 3 (by decide) (hu _ uww_221) (fun _ h9 => h9) rfl dX6_prefix_37 ?_
    refine lv_iload hx hb dX6_prefix_40 (lv_at hl 3 rfl) ?_
    refine cpputN (ci := 1) (C := RX1) (T := TX1) (N := 3) (ty := .int) hx hb hu uX1 tyX1 tyX1_ok nmX1 hown hK hI 10 rfl rfl 2 (by decide) (va_Nw.use rfl (hE.1 _ cpn_8)) (fun _ h9 => h9) rfl (by decide +kernel) rfl rfl (Nat.le_of_ble_eq_true rfl) (cpset_10_2 _ _ _ _ _) dX6_prefix_42 (fun H locs M5 eM5 hI => ?_)
    have h := h M5 eM5
    refine W.widen (k := 1) (n := 6) (by decide) (by decide) ?_
    refine vx_ret ?_
    exact cpvret (Z := (fun M' L' => Z M' L')) hx hb hr hlocks hK hI dX6_prefix_45 h
  · have h := h.2 c2
    exact vx_throwS (own := RX6) (cls := "java/lang/IllegalArgumentException") (text := "no prefix") (names := ["java/lang/RuntimeException", "java/lang/Exception"]) (ik := 103) (is := 112) (ic := 107) (sa := sa 2) hx hb hls hown (by decide +kernel) (by decide +kernel) (hu _ uww_253) (hu _ uww_254) hEX.2.2.2.2.2.1 (cphat_107 hu hEX.1) (by decide +kernel) hEX.2.1 hEX.2.2.1 hI.2.2 (hl.1.trans hml.symm) dX6_prefix_10 dX6_prefix_13 dX6_prefix_14 dX6_prefix_16 dX6_prefix_19 (fun x hx => (hnoh x hx).elim) (by decide) (Nat.le_of_ble_eq_true rfl) (by decide) (by decide) hlocks (fun u hv hz hk => cpxc hK hI h u hv hz hk) hI.2.2.2.2 (by decide) (by decide)

abbrev rm_X6_limits_0 : Room := { frames := 6, cells := 1, slots := 6, locals := 110 }
abbrev av_X6_limits_0 (a t : Nat → Nat) (p1 : Int32) (p2 : Int32) : List Value := [.ref (a 0), .int p1, .int p2]
abbrev qc_X6_limits_0 (dC : Nat → ClassId) (dI : Nat → Nat → Nat) (a : Nat → Nat) (kA : Nat → ClassId) (sz : Nat) (M : cM) (L : cL) (Z : cM → Prop) : Array Value → State → Outcome → State → Prop := va_Qv (fun (u : cM × cL) => u.2 = L ∧ Z u.1) (cpAt dC dI a kA (cpA a sz)) (cpA a sz)
abbrev xc_X6_limits_0 (dC : Nat → ClassId) (dI : Nat → Nat → Nat) (a : Nat → Nat) (kA : Nat → ClassId) (sz : Nat) (M : cM) (L : cL) (X : Prop) : String → State → State → Prop := cpXC dC dI a kA sz M L "java/lang/IllegalArgumentException" X
set_option maxHeartbeats 4000000 in
set_option maxRecDepth 100000 in
theorem met_X6_limits_0 (l : Launch) (hls : l.stackTraces = false) (dC : Nat → ClassId) (dI : Nat → Nat → Nat) (a : Nat → Nat) (kA : Nat → ClassId) (t : Nat → Nat) (sa : Nat → Nat) (sz : Nat) (M : cM) (L : cL) (p1 : Int32) (p2 : Int32) (Z : cM → Prop) (X : Prop) (h : wp_X6_limits_0 M L p1 p2 Z X) : vx_Met l yX6_limits (Cond.code yX6_limits cX6_limits 3 none :: uW) rm_X6_limits_0 (va_Pc (av_X6_limits_0 a t p1 p2) (cpPreX dC dI a kA t sa M L sz)) (qc_X6_limits_0 dC dI a kA sz M L Z) (xc_X6_limits_0 dC dI a kA sz M L X) 1 6 (cpA a sz) := by
  refine cpenterX (cc := cX6_limits) (n := 3) (ret := none) (by decide) rfl (Nat.le_of_ble_eq_true rfl) ?_
  intro p e s m below meth c ls hx hb hml hr hlocks hown hts hK hE hsz hI hl hmn hnoh hEX
  have hu : ∀ w ∈ uW, w.before (av_X6_limits_0 a t p1 p2).toArray s = true := fun w h => hts w (List.mem_cons_of_mem _ h)
  have hown : s.vm.findClass RX6 = some m.cls := hown
  have hl : lv_has ls 3 [(0, .ref (a 0)), (1, .int p1), (2, .int p2)] := hl
  unfold wp_X6_limits_0 at h
  refine lv_iload_n hx hb dX6_limits_0 rfl (lv_at hl 1 rfl) ?_
  refine lv_bipush (v := (68 : Int32)) hx hb dX6_limits_1 (by decide) ?_
  obtain ⟨K27, hK27, h⟩ := h
  have J27 : ∀  (H : Heap) (locs : List Loc) (ls : Array Slot), K27  → cpI dC dI a kA (cpA a sz) s M L H locs → lv_has ls 3 [] → W p l e rm_X6_limits_0 s m (av_X6_limits_0 a t p1 p2).toArray below meth c H locs 0 0 (vx_MQ below (qc_X6_limits_0 dC dI a kA sz M L Z) (xc_X6_limits_0 dC dI a kA sz M L X) (av_X6_limits_0 a t p1 p2).toArray s 1 6 (cpA a sz)) (F0 m 27 ls []) := by
    intro  H locs ls h hI hl
    have h := hK27  h
    exact vx_throwS (own := RX6) (cls := "java/lang/IllegalArgumentException") (text := "a limit out of its range") (names := ["java/lang/RuntimeException", "java/lang/Exception"]) (ik := 103) (is := 123) (ic := 107) (sa := sa 3) hx hb hls hown (by decide +kernel) (by decide +kernel) (hu _ uww_253) (hu _ uww_254) hEX.2.2.2.2.2.2.1 (cphat_107 hu hEX.1) (by decide +kernel) hEX.2.1 hEX.2.2.1 hI.2.2 (hl.1.trans hml.symm) dX6_limits_27 dX6_limits_30 dX6_limits_31 dX6_limits_33 dX6_limits_36 (fun x hx => (hnoh x hx).elim) (by decide) (Nat.le_of_ble_eq_true rfl) (by decide) (by decide) hlocks (fun u hv hz hk => cpxc hK hI h u hv hz hk) hI.2.2.2.2 (by decide) (by decide)
  refine lv_icmp_lt (tgt := 27) hx hb dX6_limits_3 (by decide) (fun c1 => ?_) (fun c1 => ?_)
  · have h := h.1 c1
    exact J27  _ _ _ h hI (lv_sub hl [] rfl)
  · have h := h.2 c1
    refine lv_iload_n hx hb dX6_limits_6 rfl (lv_at hl 1 rfl) ?_
    refine lv_sipush (v := (2000 : Int32)) hx hb dX6_limits_7 (by decide) ?_
    refine lv_icmp_gt (tgt := 27) hx hb dX6_limits_10 (by decide) (fun c2 => ?_) (fun c2 => ?_)
    · have h := h.1 c2
      exact J27  _ _ _ h hI (lv_sub hl [] rfl)
    · have h := h.2 c2
      refine lv_iload_n hx hb dX6_limits_13 rfl (lv_at hl 2 rfl) ?_
      refine lv_sipush (v := (1280 : Int32)) hx hb dX6_limits_14 (by decide) ?_
      refine lv_icmp_lt (tgt := 27) hx hb dX6_limits_17 (by decide) (fun c3 => ?_) (fun c3 => ?_)
      · have h := h.1 c3
        exact J27  _ _ _ h hI (lv_sub hl [] rfl)
      · have h := h.2 c3
        refine lv_iload_n hx hb dX6_limits_20 rfl (lv_at hl 2 rfl) ?_
        refine lv_sipush (v := (2000 : Int32)) hx hb dX6_limits_21 (by decide) ?_
        refine lv_icmp_le (tgt := 37) hx hb dX6_limits_24 (by decide) (fun c4 => ?_) (fun c4 => ?_)
        · have h := h.1 c4
          refine lv_aload_n hx hb dX6_limits_37 rfl (lv_at hl 0 rfl) ?_
          refine lv_iload_n hx hb dX6_limits_38 rfl (lv_at hl 1 rfl) ?_
          refine cpput (ci := 5) (C := RX6) (T := TX6) (N := 17) (ty := .int) hx hb hu uX6 tyX6 tyX6_ok nmX6 hown hK hI 0 rfl rfl 12 (by decide) (hu _ uww_236) (fun _ h9 => h9) rfl (by decide +kernel) rfl rfl (Nat.le_of_ble_eq_true rfl) (cpset_0_12 _ _ _ _ _) dX6_limits_39 (fun H locs M5 eM5 hI => ?_)
          have h := h M5 eM5
          refine lv_aload_n hx hb dX6_limits_42 rfl (lv_at hl 0 rfl) ?_
          refine lv_iload_n hx hb dX6_limits_43 rfl (lv_at hl 2 rfl) ?_
          refine cpput (ci := 5) (C := RX6) (T := TX6) (N := 17) (ty := .int) hx hb hu uX6 tyX6 tyX6_ok nmX6 hown hK hI 0 rfl rfl 13 (by decide) (hu _ uww_237) (fun _ h9 => h9) rfl (by decide +kernel) rfl rfl (Nat.le_of_ble_eq_true rfl) (cpset_0_13 _ _ _ _ _) dX6_limits_44 (fun H locs M6 eM6 hI => ?_)
          have h := h M6 eM6
          refine W.widen (k := 1) (n := 6) (by decide) (by decide) ?_
          refine vx_ret ?_
          exact cpvret (Z := (fun M' L' => L' = L ∧ Z M')) hx hb hr hlocks hK hI dX6_limits_47 ⟨rfl, h⟩
        · have h := h.2 c4
          exact J27  _ _ _ h hI (lv_sub hl [] rfl)

abbrev rm_X3_startOf_5 : Room := { frames := 0, cells := 0, slots := 0, locals := 0 }
abbrev av_X3_startOf_5 (a t : Nat → Nat) (p1 : Int32) : List Value := [.ref (a 5), .int p1]
abbrev qc_X3_startOf_5 (dC : Nat → ClassId) (dI : Nat → Nat → Nat) (a : Nat → Nat) (kA : Nat → ClassId) (sz : Nat) (M : cM) (L : cL) (Z : Int32 → Prop) : Array Value → State → Outcome → State → Prop := va_Qi (fun r (u : cM × cL) => u.1 = M ∧ u.2 = L ∧ Z r) (cpAt dC dI a kA (cpA a sz)) (cpA a sz)
set_option maxHeartbeats 4000000 in
set_option maxRecDepth 100000 in
theorem met_X3_startOf_5 (l : Launch) (dC : Nat → ClassId) (dI : Nat → Nat → Nat) (a : Nat → Nat) (kA : Nat → ClassId) (t : Nat → Nat) (sz : Nat) (M : cM) (L : cL) (p1 : Int32) (Z : Int32 → Prop) (h : wp_X3_startOf_5 M L p1 Z) : Met l yX3_startOf (Cond.code yX3_startOf cX3_startOf 2 (some .int) :: uW) rm_X3_startOf_5 (va_Pc (av_X3_startOf_5 a t p1) (cpPre dC dI a kA t M L sz)) (qc_X3_startOf_5 dC dI a kA sz M L Z) 0 0 (cpA a sz) := by
  refine cpenter (cc := cX3_startOf) (n := 2) (ret := (some .int)) (by decide) rfl (Nat.le_of_ble_eq_true rfl) ?_
  intro p e s m below meth c ls hx hb hml hr hlocks hown hts hK hE hsz hI hl hmn
  have hu : ∀ w ∈ uW, w.before (av_X3_startOf_5 a t p1).toArray s = true := fun w h => hts w (List.mem_cons_of_mem _ h)
  have hown : s.vm.findClass RX3 = some m.cls := hown
  have hl : lv_has ls 2 [(0, .ref (a 5)), (1, .int p1)] := hl
  unfold wp_X3_startOf_5 at h
  refine lv_iload_n hx hb dX3_startOf_0 rfl (lv_at hl 1 rfl) ?_
  refine lv_if_lt (tgt := 30) hx hb dX3_startOf_1 (by decide) (fun c1 => ?_) (fun c1 => ?_)
  · have h := h.1 c1
    refine lv_iconst (v := (-1 : Int32)) hx hb dX3_startOf_30 (by decide) ?_
    exact cpiret (Z := (fun r M' L' => M' = M ∧ L' = L ∧ Z r)) hx hb hr hlocks hK hI dX3_startOf_31 ⟨rfl, rfl, h⟩
  · have h := h.2 c1
    refine lv_iload_n hx hb dX3_startOf_4 rfl (lv_at hl 1 rfl) ?_
    refine lv_aload_n hx hb dX3_startOf_5 rfl (lv_at hl 0 rfl) ?_
    refine va_get (D := (dC, dI)) (ci := 2) (v := .int (M 5 3)) (C := RX3) (T := TX3) (N := 4) hx hb hu uX3 hown hK hI.1 5 rfl rfl 3 (by decide) (hu _ uww_137) (fun _ h9 => h9) rfl dX3_startOf_6 ?_
    refine lv_icmp_ge (tgt := 30) hx hb dX3_startOf_9 (by decide) (fun c2 => ?_) (fun c2 => ?_)
    · have h := h.1 c2
      refine lv_iconst (v := (-1 : Int32)) hx hb dX3_startOf_30 (by decide) ?_
      exact cpiret (Z := (fun r M' L' => M' = M ∧ L' = L ∧ Z r)) hx hb hr hlocks hK hI dX3_startOf_31 ⟨rfl, rfl, h⟩
    · have h := h.2 c2
      refine lv_iload_n hx hb dX3_startOf_12 rfl (lv_at hl 1 rfl) ?_
      refine lv_aload_n hx hb dX3_startOf_13 rfl (lv_at hl 0 rfl) ?_
      refine va_get (D := (dC, dI)) (ci := 2) (v := .ref (a 8)) (C := RX3) (T := TX3) (N := 4) hx hb hu uX3 hown hK hI.1 5 rfl rfl 1 (by decide) (hu _ uww_130) (fun _ h9 => h9) rfl dX3_startOf_14 ?_
      refine va_alen (v := (49 : Int32)) hx hb hK hI.1 8 3 rfl rfl rfl dX3_startOf_17 ?_
      refine lv_icmp_ge (tgt := 30) hx hb dX3_startOf_18 (by decide) (fun c3 => ?_) (fun c3 => ?_)
      · have h := h.1 c3
        refine lv_iconst (v := (-1 : Int32)) hx hb dX3_startOf_30 (by decide) ?_
        exact cpiret (Z := (fun r M' L' => M' = M ∧ L' = L ∧ Z r)) hx hb hr hlocks hK hI dX3_startOf_31 ⟨rfl, rfl, h⟩
      · have h := h.2 c3
        refine lv_aload_n hx hb dX3_startOf_21 rfl (lv_at hl 0 rfl) ?_
        refine va_get (D := (dC, dI)) (ci := 2) (v := .ref (a 8)) (C := RX3) (T := TX3) (N := 4) hx hb hu uX3 hown hK hI.1 5 rfl rfl 1 (by decide) (hu _ uww_130) (fun _ h9 => h9) rfl dX3_startOf_22 ?_
        refine lv_iload_n hx hb dX3_startOf_25 rfl (lv_at hl 1 rfl) ?_
        refine va_iald hx hb hK hI.1 8 3 rfl rfl h.1 dX3_startOf_26 ?_
        have h := h.2
        refine lv_goto (tgt := 31) hx hb dX3_startOf_27 (by decide) ?_
        exact cpiret (Z := (fun r M' L' => M' = M ∧ L' = L ∧ Z r)) hx hb hr hlocks hK hI dX3_startOf_31 ⟨rfl, rfl, h⟩

abbrev rm_X6_octet_0 : Room := { frames := 6, cells := 1, slots := 6, locals := 110 }
abbrev av_X6_octet_0 (a t : Nat → Nat) (p1 : Int32) (p2 : Int32) : List Value := [.ref (a 0), .int p1, .int p2]
abbrev qc_X6_octet_0 (dC : Nat → ClassId) (dI : Nat → Nat → Nat) (a : Nat → Nat) (kA : Nat → ClassId) (sz : Nat) (M : cM) (L : cL) (Z : Int32 → Prop) : Array Value → State → Outcome → State → Prop := va_Qi (fun r (u : cM × cL) => u.1 = M ∧ u.2 = L ∧ Z r) (cpAt dC dI a kA (cpA a sz)) (cpA a sz)
abbrev xc_X6_octet_0 (dC : Nat → ClassId) (dI : Nat → Nat → Nat) (a : Nat → Nat) (kA : Nat → ClassId) (sz : Nat) (M : cM) (L : cL) (X : Prop) : String → State → State → Prop := cpXC dC dI a kA sz M L "java/lang/IndexOutOfBoundsException" X
set_option maxHeartbeats 4000000 in
set_option maxRecDepth 100000 in
theorem met_X6_octet_0 (l : Launch) (hls : l.stackTraces = false) (dC : Nat → ClassId) (dI : Nat → Nat → Nat) (a : Nat → Nat) (kA : Nat → ClassId) (t : Nat → Nat) (sa : Nat → Nat) (sz : Nat) (M : cM) (L : cL) (p1 : Int32) (p2 : Int32) (Z : Int32 → Prop) (X : Prop) (h : wp_X6_octet_0 M L p1 p2 Z X) : vx_Met l yX6_octet (Cond.code yX6_octet cX6_octet 3 (some .int) :: uW) rm_X6_octet_0 (va_Pc (av_X6_octet_0 a t p1 p2) (cpPreX dC dI a kA t sa M L sz)) (qc_X6_octet_0 dC dI a kA sz M L Z) (xc_X6_octet_0 dC dI a kA sz M L X) 1 6 (cpA a sz) := by
  refine cpenterX (cc := cX6_octet) (n := 3) (ret := (some .int)) (by decide) rfl (Nat.le_of_ble_eq_true rfl) ?_
  intro p e s m below meth c ls hx hb hml hr hlocks hown hts hK hE hsz hI hl hmn hnoh hEX
  have hu : ∀ w ∈ uW, w.before (av_X6_octet_0 a t p1 p2).toArray s = true := fun w h => hts w (List.mem_cons_of_mem _ h)
  have hown : s.vm.findClass RX6 = some m.cls := hown
  have hl : lv_has ls 3 [(0, .ref (a 0)), (1, .int p1), (2, .int p2)] := hl
  unfold wp_X6_octet_0 at h
  refine lv_iload_n hx hb dX6_octet_0 rfl (lv_at hl 2 rfl) ?_
  obtain ⟨K16, hK16, h⟩ := h
  have J16 : ∀  (H : Heap) (locs : List Loc) (ls : Array Slot), K16  → cpI dC dI a kA (cpA a sz) s M L H locs → lv_has ls 3 [] → W p l e rm_X6_octet_0 s m (av_X6_octet_0 a t p1 p2).toArray below meth c H locs 0 0 (vx_MQ below (qc_X6_octet_0 dC dI a kA sz M L Z) (xc_X6_octet_0 dC dI a kA sz M L X) (av_X6_octet_0 a t p1 p2).toArray s 1 6 (cpA a sz)) (F0 m 16 ls []) := by
    intro  H locs ls h hI hl
    have h := hK16  h
    exact vx_throwS (own := RX6) (cls := "java/lang/IndexOutOfBoundsException") (text := "no such byte") (names := ["java/lang/RuntimeException", "java/lang/Exception"]) (ik := 147) (is := 149) (ic := 151) (sa := sa 4) hx hb hls hown (by decide +kernel) (by decide +kernel) (hu _ uww_527) (hu _ uww_528) hEX.2.2.2.2.2.2.2.1 (cphat_151 hu hEX.1) (by decide +kernel) hEX.2.1 hEX.2.2.1 hI.2.2 (hl.1.trans hml.symm) dX6_octet_16 dX6_octet_19 dX6_octet_20 dX6_octet_22 dX6_octet_25 (fun x hx => (hnoh x hx).elim) (by decide) (Nat.le_of_ble_eq_true rfl) (by decide) (by decide) hlocks (fun u hv hz hk => cpxc hK hI h u hv hz hk) hI.2.2.2.2 (by decide) (by decide)
  refine lv_if_lt (tgt := 16) hx hb dX6_octet_1 (by decide) (fun c1 => ?_) (fun c1 => ?_)
  · have h := h.1 c1
    exact J16  _ _ _ h hI (lv_sub hl [] rfl)
  · have h := h.2 c1
    refine lv_iload_n hx hb dX6_octet_4 rfl (lv_at hl 2 rfl) ?_
    refine lv_aload_n hx hb dX6_octet_5 rfl (lv_at hl 0 rfl) ?_
    refine va_get (D := (dC, dI)) (ci := 5) (v := .ref (a 5)) (C := RX6) (T := TX6) (N := 17) hx hb hu uX6 hown hK hI.1 0 rfl rfl 2 (by decide) (hu _ uww_218) (fun _ h9 => h9) rfl dX6_octet_6 ?_
    refine lv_iload_n hx hb dX6_octet_9 rfl (lv_at hl 1 rfl) ?_
    refine cpcalli_p hsz hI (va_runV (As := [.int p1]) (rest := [.int p2]) ⟨hx, hb, hml, hown, hu⟩ (met_X3_sizeOf_5 l dC dI a kA t _ M L p1 _ h) (cwl_X6_143_X3 hu ⟨by decide, by decide⟩) (cppre (ci := 2) hK hE hsz hI rfl rfl) rfl rfl hl.1 rfl (lv_room (Nat.le_of_ble_eq_true rfl)) dX6_octet_10 ⟨by decide, by decide⟩) (fun r2 H locs h hI => ?_)
    refine lv_icmp_lt (tgt := 26) hx hb dX6_octet_13 (by decide) (fun c3 => ?_) (fun c3 => ?_)
    · have h := h.1 c3
      refine lv_aload_n hx hb dX6_octet_26 rfl (lv_at hl 0 rfl) ?_
      refine va_get (D := (dC, dI)) (ci := 5) (v := .ref (a 5)) (C := RX6) (T := TX6) (N := 17) hx hb hu uX6 hown hK hI.1 0 rfl rfl 2 (by decide) (hu _ uww_218) (fun _ h9 => h9) rfl dX6_octet_27 ?_
      refine va_getN (D := (dC, dI)) (ci := 2) (v := .ref (a 6)) (C := RX3) (T := TX3) (N := 4) hx hb hu uX3 hown hK hI.1 5 rfl rfl 0 (by decide) (va_Nw.use rfl (hE.1 _ cpn_4)) (fun _ h9 => h9) rfl dX6_octet_30 ?_
      refine lv_aload_n hx hb dX6_octet_33 rfl (lv_at hl 0 rfl) ?_
      refine va_get (D := (dC, dI)) (ci := 5) (v := .ref (a 5)) (C := RX6) (T := TX6) (N := 17) hx hb hu uX6 hown hK hI.1 0 rfl rfl 2 (by decide) (hu _ uww_218) (fun _ h9 => h9) rfl dX6_octet_34 ?_
      refine lv_iload_n hx hb dX6_octet_37 rfl (lv_at hl 1 rfl) ?_
      refine cpcalli_p hsz hI (va_runV (As := [.int p1]) (rest := [.ref (a 6)]) ⟨hx, hb, hml, hown, hu⟩ (met_X3_startOf_5 l dC dI a kA t _ M L p1 _ h) (cwl_X6_155_X3 hu ⟨by decide, by decide⟩) (cppre (ci := 2) hK hE hsz hI rfl rfl) rfl rfl hl.1 rfl (lv_room (Nat.le_of_ble_eq_true rfl)) dX6_octet_38 ⟨by decide, by decide⟩) (fun r4 H locs h hI => ?_)
      refine lv_iload_n hx hb dX6_octet_41 rfl (lv_at hl 2 rfl) ?_
      refine lv_iadd hx hb dX6_octet_42 ?_
      refine cpcalli_p hsz hI (va_runV (As := [.int (r4 + p2)]) (rest := []) ⟨hx, hb, hml, hown, hu⟩ (met_X4_at_6 l dC dI a kA t _ M L (r4 + p2) _ h) (cwl_X6_158_X4 hu ⟨by decide, by decide⟩) (cppre (ci := 3) hK hE hsz hI rfl rfl) rfl rfl hl.1 rfl (lv_room (Nat.le_of_ble_eq_true rfl)) dX6_octet_43 ⟨by decide, by decide⟩) (fun r5 H locs h hI => ?_)
      refine W.widen (k := 1) (n := 6) (by decide) (by decide) ?_
      refine vx_ret ?_
      exact cpiret (Z := (fun r M' L' => M' = M ∧ L' = L ∧ Z r)) hx hb hr hlocks hK hI dX6_octet_46 ⟨rfl, rfl, h⟩
    · have h := h.2 c3
      exact J16  _ _ _ h hI (lv_sub hl [] rfl)

abbrev rm_X6_check_0 : Room := { frames := 6, cells := 1, slots := 6, locals := 110 }
abbrev av_X6_check_0 (a t : Nat → Nat) (p1 : Int32) (p2 : Int32) (p3 : Int32) : List Value := [.ref (a 0), .int p1, .int p2, .int p3]
abbrev qc_X6_check_0 (dC : Nat → ClassId) (dI : Nat → Nat → Nat) (a : Nat → Nat) (kA : Nat → ClassId) (sz : Nat) (M : cM) (L : cL) (Z : Int32 → Prop) : Array Value → State → Outcome → State → Prop := va_Qi (fun r (u : cM × cL) => u.1 = M ∧ u.2 = L ∧ Z r) (cpAt dC dI a kA (cpA a sz)) (cpA a sz)
abbrev xc_X6_check_0 (dC : Nat → ClassId) (dI : Nat → Nat → Nat) (a : Nat → Nat) (kA : Nat → ClassId) (sz : Nat) (M : cM) (L : cL) (X : Prop) : String → State → State → Prop := cpXC dC dI a kA sz M L "java/lang/IndexOutOfBoundsException" X
set_option maxHeartbeats 4000000 in
set_option maxRecDepth 100000 in
theorem met_X6_check_0 (l : Launch) (hls : l.stackTraces = false) (dC : Nat → ClassId) (dI : Nat → Nat → Nat) (a : Nat → Nat) (kA : Nat → ClassId) (t : Nat → Nat) (sa : Nat → Nat) (sz : Nat) (M : cM) (L : cL) (p1 : Int32) (p2 : Int32) (p3 : Int32) (Z : Int32 → Prop) (X : Prop) (h : wp_X6_check_0 M L p1 p2 p3 Z X) : vx_Met l yX6_check (Cond.code yX6_check cX6_check 6 (some .int) :: uW) rm_X6_check_0 (va_Pc (av_X6_check_0 a t p1 p2 p3) (cpPreX dC dI a kA t sa M L sz)) (qc_X6_check_0 dC dI a kA sz M L Z) (xc_X6_check_0 dC dI a kA sz M L X) 1 6 (cpA a sz) := by
  refine cpenterX (cc := cX6_check) (n := 6) (ret := (some .int)) (by decide) rfl (Nat.le_of_ble_eq_true rfl) ?_
  intro p e s m below meth c ls hx hb hml hr hlocks hown hts hK hE hsz hI hl hmn hnoh hEX
  have hu : ∀ w ∈ uW, w.before (av_X6_check_0 a t p1 p2 p3).toArray s = true := fun w h => hts w (List.mem_cons_of_mem _ h)
  have hown : s.vm.findClass RX6 = some m.cls := hown
  have hl : lv_has ls 6 [(0, .ref (a 0)), (1, .int p1), (2, .int p2), (3, .int p3)] := hl
  unfold wp_X6_check_0 at h
  refine lv_aload_n hx hb dX6_check_0 rfl (lv_at hl 0 rfl) ?_
  refine va_get (D := (dC, dI)) (ci := 5) (v := .ref (a 5)) (C := RX6) (T := TX6) (N := 17) hx hb hu uX6 hown hK hI.1 0 rfl rfl 2 (by decide) (hu _ uww_218) (fun _ h9 => h9) rfl dX6_check_1 ?_
  refine lv_iload_n hx hb dX6_check_4 rfl (lv_at hl 1 rfl) ?_
  refine cpcalli_p hsz hI (va_runV (As := [.int p1]) (rest := []) ⟨hx, hb, hml, hown, hu⟩ (met_X3_sizeOf_5 l dC dI a kA t _ M L p1 _ h) (cwl_X6_143_X3 hu ⟨by decide, by decide⟩) (cppre (ci := 2) hK hE hsz hI rfl rfl) rfl rfl hl.1 rfl (lv_room (Nat.le_of_ble_eq_true rfl)) dX6_check_5 ⟨by decide, by decide⟩) (fun r1 H locs h hI => ?_)
  refine lv_istore (lv' := [(4, .int r1), (0, .ref (a 0)), (1, .int p1), (2, .int p2), (3, .int p3)]) hx hb dX6_check_8 hl (by decide) rfl (fun ls hl => ?_)
  refine lv_iload hx hb dX6_check_10 (lv_at hl 0 rfl) ?_
  refine lv_iconst (v := (-1 : Int32)) hx hb dX6_check_12 (by decide) ?_
  obtain ⟨K31, hK31, h⟩ := h
  have J31 : ∀  (H : Heap) (locs : List Loc) (ls : Array Slot), K31  → cpI dC dI a kA (cpA a sz) s M L H locs → lv_has ls 6 [] → W p l e rm_X6_check_0 s m (av_X6_check_0 a t p1 p2 p3).toArray below meth c H locs 0 0 (vx_MQ below (qc_X6_check_0 dC dI a kA sz M L Z) (xc_X6_check_0 dC dI a kA sz M L X) (av_X6_check_0 a t p1 p2 p3).toArray s 1 6 (cpA a sz)) (F0 m 31 ls []) := by
    intro  H locs ls h hI hl
    have h := hK31  h
    exact vx_throwS (own := RX6) (cls := "java/lang/IndexOutOfBoundsException") (text := "no such bytes") (names := ["java/lang/RuntimeException", "java/lang/Exception"]) (ik := 147) (is := 161) (ic := 151) (sa := sa 5) hx hb hls hown (by decide +kernel) (by decide +kernel) (hu _ uww_527) (hu _ uww_528) hEX.2.2.2.2.2.2.2.2 (cphat_151 hu hEX.1) (by decide +kernel) hEX.2.1 hEX.2.2.1 hI.2.2 (hl.1.trans hml.symm) dX6_check_31 dX6_check_34 dX6_check_35 dX6_check_37 dX6_check_40 (fun x hx => (hnoh x hx).elim) (by decide) (Nat.le_of_ble_eq_true rfl) (by decide) (by decide) hlocks (fun u hv hz hk => cpxc hK hI h u hv hz hk) hI.2.2.2.2 (by decide) (by decide)
  refine lv_icmp_eq (tgt := 31) hx hb dX6_check_13 (by decide) (fun c2 => ?_) (fun c2 => ?_)
  · have h := h.1 c2
    exact J31  _ _ _ h hI (lv_sub hl [] rfl)
  · have h := h.2 c2
    refine lv_iload_n hx hb dX6_check_16 rfl (lv_at hl 3 rfl) ?_
    refine lv_if_lt (tgt := 31) hx hb dX6_check_17 (by decide) (fun c3 => ?_) (fun c3 => ?_)
    · have h := h.1 c3
      exact J31  _ _ _ h hI (lv_sub hl [] rfl)
    · have h := h.2 c3
      refine lv_iload_n hx hb dX6_check_20 rfl (lv_at hl 4 rfl) ?_
      refine lv_iload_n hx hb dX6_check_21 rfl (lv_at hl 3 rfl) ?_
      refine lv_icmp_lt (tgt := 31) hx hb dX6_check_22 (by decide) (fun c4 => ?_) (fun c4 => ?_)
      · have h := h.1 c4
        exact J31  _ _ _ h hI (lv_sub hl [] rfl)
      · have h := h.2 c4
        refine lv_iload_n hx hb dX6_check_25 rfl (lv_at hl 4 rfl) ?_
        refine lv_iload hx hb dX6_check_26 (lv_at hl 0 rfl) ?_
        refine lv_icmp_le (tgt := 41) hx hb dX6_check_28 (by decide) (fun c5 => ?_) (fun c5 => ?_)
        · have h := h.1 c5
          refine lv_aload_n hx hb dX6_check_41 rfl (lv_at hl 1 rfl) ?_
          refine va_get (D := (dC, dI)) (ci := 5) (v := .ref (a 5)) (C := RX6) (T := TX6) (N := 17) hx hb hu uX6 hown hK hI.1 0 rfl rfl 2 (by decide) (hu _ uww_218) (fun _ h9 => h9) rfl dX6_check_42 ?_
          refine lv_iload_n hx hb dX6_check_45 rfl (lv_at hl 2 rfl) ?_
          refine cpcalli_p hsz hI (va_runV (As := [.int p1]) (rest := []) ⟨hx, hb, hml, hown, hu⟩ (met_X3_startOf_5 l dC dI a kA t _ M L p1 _ h) (cwl_X6_155_X3 hu ⟨by decide, by decide⟩) (cppre (ci := 2) hK hE hsz hI rfl rfl) rfl rfl hl.1 rfl (lv_room (Nat.le_of_ble_eq_true rfl)) dX6_check_46 ⟨by decide, by decide⟩) (fun r6 H locs h hI => ?_)
          refine lv_istore (lv' := [(5, .int r6), (4, .int r1), (0, .ref (a 0)), (1, .int p1), (2, .int p2), (3, .int p3)]) hx hb dX6_check_49 hl (by decide) rfl (fun ls hl => ?_)
          refine lv_aload_n hx hb dX6_check_51 rfl (lv_at hl 2 rfl) ?_
          refine va_get (D := (dC, dI)) (ci := 5) (v := .ref (a 5)) (C := RX6) (T := TX6) (N := 17) hx hb hu uX6 hown hK hI.1 0 rfl rfl 2 (by decide) (hu _ uww_218) (fun _ h9 => h9) rfl dX6_check_52 ?_
          refine va_getN (D := (dC, dI)) (ci := 2) (v := .ref (a 6)) (C := RX3) (T := TX3) (N := 4) hx hb hu uX3 hown hK hI.1 5 rfl rfl 0 (by decide) (va_Nw.use rfl (hE.1 _ cpn_4)) (fun _ h9 => h9) rfl dX6_check_55 ?_
          refine lv_iload hx hb dX6_check_58 (lv_at hl 0 rfl) ?_
          refine lv_iload_n hx hb dX6_check_60 rfl (lv_at hl 4 rfl) ?_
          refine lv_iadd hx hb dX6_check_61 ?_
          refine lv_iload hx hb dX6_check_62 (lv_at hl 0 rfl) ?_
          refine lv_iload_n hx hb dX6_check_64 rfl (lv_at hl 5 rfl) ?_
          refine lv_iadd hx hb dX6_check_65 ?_
          refine cpcalll_p hsz hI (va_runV (As := [.int (r6 + p2), .int (r6 + p3)]) (rest := []) ⟨hx, hb, hml, hown, hu⟩ (met_X4_sum_6 l dC dI a kA t _ M L (r6 + p2) (r6 + p3) _ h) (cwl_X6_163_X4 hu ⟨by decide, by decide⟩) (cppre (ci := 3) hK hE hsz hI rfl rfl) rfl rfl hl.1 rfl (lv_room (Nat.le_of_ble_eq_true rfl)) dX6_check_66 ⟨by decide, by decide⟩) (fun r7 H locs h hI => ?_)
          refine cpcalli_p hsz hI (va_runS (As := [.long r7]) (rest := []) ⟨hx, hb, hml, hown, hu⟩ (met_X6_checksum l dC dI a kA t _ M L r7 _ h) (cwl_X6_167_S hu ⟨by decide, by decide⟩) (cppreS hK hE hsz hI) rfl rfl hl.1 rfl (lv_room (Nat.le_of_ble_eq_true rfl)) dX6_check_69 ⟨by decide, by decide⟩) (fun r8 H locs h hI => ?_)
          refine W.widen (k := 1) (n := 6) (by decide) (by decide) ?_
          refine vx_ret ?_
          exact cpiret (Z := (fun r M' L' => M' = M ∧ L' = L ∧ Z r)) hx hb hr hlocks hK hI dX6_check_72 ⟨rfl, rfl, h⟩
        · have h := h.2 c5
          exact J31  _ _ _ h hI (lv_sub hl [] rfl)
