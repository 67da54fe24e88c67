abbrev rm_X7_thrown_0 : Room := { frames := 0, cells := 0, slots := 0, locals := 0 }
abbrev av_X7_thrown_0 (a t : Nat → Nat)  : List Value := [.ref (a 0)]
abbrev qc_X7_thrown_0 (dC : Nat → ClassId) (dI : Nat → Nat → Nat) (a : Nat → Nat) (kA : Nat → ClassId) (sz : Nat) (M : cM) (L : cL) (Z : Int32 → Prop) : Array Value → State → Outcome → State → Prop := va_Qi (fun r (u : cM × cL) => u.1 = M ∧ u.2 = L ∧ Z r) (rpAt dC dI a kA (rpA a sz)) (rpA a sz)
set_option maxHeartbeats 4000000 in
set_option maxRecDepth 100000 in
theorem met_X7_thrown_0 (l : Launch) (dC : Nat → ClassId) (dI : Nat → Nat → Nat) (a : Nat → Nat) (kA : Nat → ClassId) (t : Nat → Nat) (sz : Nat) (M : cM) (L : cL)  (Z : Int32 → Prop) (h : wp_X7_thrown_0 M L  Z) : Met l yX7_thrown (Cond.code yX7_thrown cX7_thrown 1 (some .int) :: uW) rm_X7_thrown_0 (va_Pc (av_X7_thrown_0 a t ) (rpPre dC dI a kA t M L sz)) (qc_X7_thrown_0 dC dI a kA sz M L Z) 0 0 (rpA a sz) := by
  refine rpenter (cc := cX7_thrown) (n := 1) (ret := (some .int)) (by decide) rfl (Nat.le_of_ble_eq_true rfl) ?_
  intro p e s m below meth c ls hx hb hml hr hlocks hown hts hK hE hsz hI hl hmn
  have hu : ∀ w ∈ uW, w.before (av_X7_thrown_0 a t ).toArray s = true := fun w h => hts w (List.mem_cons_of_mem _ h)
  have hown : s.vm.findClass RX7 = some m.cls := hown
  have hl : lv_has ls 1 [(0, .ref (a 0))] := hl
  unfold wp_X7_thrown_0 at h
  refine lv_aload_n hx hb dX7_thrown_0 rfl (lv_at hl 0 rfl) ?_
  refine va_get (D := (dC, dI)) (ci := 6) (v := .int (M 0 0)) (C := RX7) (T := TX7) (N := 44) hx hb hu uX7 hown hK hI.1 0 rfl rfl 0 (by decide) (hu _ uww_556) (fun _ h9 => h9) rfl dX7_thrown_1 ?_
  exact rpiret (Z := (fun r M' L' => M' = M ∧ L' = L ∧ Z r)) hx hb hr hlocks hK hI dX7_thrown_4 ⟨rfl, rfl, h⟩

abbrev rm_X7_four_0 : Room := { frames := 0, cells := 0, slots := 0, locals := 0 }
abbrev av_X7_four_0 (a t : Nat → Nat) (p1 : Int32) : List Value := [.ref (a 0), .int p1]
abbrev qc_X7_four_0 (dC : Nat → ClassId) (dI : Nat → Nat → Nat) (a : Nat → Nat) (kA : Nat → ClassId) (sz : Nat) (M : cM) (L : cL) (Z : cM → Prop) : Array Value → State → Outcome → State → Prop := va_Qv (fun (u : cM × cL) => u.2 = L ∧ Z u.1) (rpAt dC dI a kA (rpA a sz)) (rpA a sz)
set_option maxHeartbeats 4000000 in
set_option maxRecDepth 100000 in
theorem met_X7_four_0 (l : Launch) (dC : Nat → ClassId) (dI : Nat → Nat → Nat) (a : Nat → Nat) (kA : Nat → ClassId) (t : Nat → Nat) (sz : Nat) (M : cM) (L : cL) (p1 : Int32) (Z : cM → Prop) (h : wp_X7_four_0 M L p1 Z) : Met l yX7_four (Cond.code yX7_four cX7_four 3 none :: uW) rm_X7_four_0 (va_Pc (av_X7_four_0 a t p1) (rpPre dC dI a kA t M L sz)) (qc_X7_four_0 dC dI a kA sz M L Z) 0 0 (rpA a sz) := by
  refine rpenter (cc := cX7_four) (n := 3) (ret := none) (by decide) rfl (Nat.le_of_ble_eq_true rfl) ?_
  intro p e s m below meth c ls hx hb hml hr hlocks hown hts hK hE hsz hI hl hmn
  have hu : ∀ w ∈ uW, w.before (av_X7_four_0 a t p1).toArray s = true := fun w h => hts w (List.mem_cons_of_mem _ h)
  have hown : s.vm.findClass RX7 = some m.cls := hown
  have hl : lv_has ls 3 [(0, .ref (a 0)), (1, .int p1)] := hl
  unfold wp_X7_four_0 at h
  refine lv_bipush (v := (24 : Int32)) hx hb dX7_four_0 (by decide) ?_
  refine lv_istore_n (lv' := [(2, .int (24 : Int32)), (0, .ref (a 0)), (1, .int p1)]) hx hb dX7_four_2 rfl hl (by decide) rfl (fun ls hl => ?_)
  obtain ⟨I3, m3, h, hs3⟩ := h
  have P3 : ∀ (n3 : Nat) (x1 : Int32) (M2 : cM) (H : Heap) (locs : List Loc) (ls : Array Slot), I3 x1 M2 → m3 x1 M2 < n3 → rpI dC dI a kA (rpA a sz) s M2 L H locs → lv_has ls 3 [(0, .ref (a 0)), (1, .int p1), (2, .int x1)] → W p l e rm_X7_four_0 s m (av_X7_four_0 a t p1).toArray below meth c H locs 0 0 (MQ below (qc_X7_four_0 dC dI a kA sz M L Z) (av_X7_four_0 a t p1).toArray s 0 0 (rpA a sz)) (F0 m 3 ls []) := by
    intro n3
    induction n3 with
    | zero => intro x1 M2 H locs ls _ hn; exact absurd hn (Nat.not_lt_zero _)
    | succ n3 ih3 =>
      intro x1 M2 H locs ls h hn3 hI hl
      have h := hs3 x1 M2 h
      refine lv_iload_n hx hb dX7_four_3 rfl (lv_at hl 2 rfl) ?_
      refine lv_if_lt (tgt := 36) hx hb dX7_four_4 (by decide) (fun c3 => ?_) (fun c3 => ?_)
      · have h := h.1 c3
        exact rpvret (Z := (fun M' L' => L' = L ∧ Z M')) hx hb hr hlocks hK hI dX7_four_36 ⟨rfl, h⟩
      · have h := h.2 c3
        refine lv_aload_n hx hb dX7_four_7 rfl (lv_at hl 0 rfl) ?_
        refine va_get (D := (dC, dI)) (ci := 6) (v := .ref (a 1)) (C := RX7) (T := TX7) (N := 44) hx hb hu uX7 hown hK hI.1 0 rfl rfl 1 (by decide) (hu _ uww_538) (fun _ h9 => h9) rfl dX7_four_8 ?_
        refine lv_aload_n hx hb dX7_four_11 rfl (lv_at hl 0 rfl) ?_
        refine va_get (D := (dC, dI)) (ci := 6) (v := .int (M2 0 2)) (C := RX7) (T := TX7) (N := 44) hx hb hu uX7 hown hK hI.1 0 rfl rfl 2 (by decide) (hu _ uww_558) (fun _ h9 => h9) rfl dX7_four_12 ?_
        refine lv_iload_n hx hb dX7_four_15 rfl (lv_at hl 1 rfl) ?_
        refine lv_iload_n hx hb dX7_four_16 rfl (lv_at hl 2 rfl) ?_
        refine lv_ishr hx hb dX7_four_17 ?_
        refine lv_i2b hx hb dX7_four_18 rfl ?_
        refine rpbast hx hb hK hI 1 0 rfl rfl h.1 (rpset_1 _ _ _ _ _ _) dX7_four_19 (fun H locs M4 eM4 hI => ?_)
        have h := h.2 M4 eM4
        refine lv_aload_n hx hb dX7_four_20 rfl (lv_at hl 0 rfl) ?_
        refine lv_dup hx hb dX7_four_21 rfl ?_
        refine va_get (D := (dC, dI)) (ci := 6) (v := .int (M4 0 2)) (C := RX7) (T := TX7) (N := 44) hx hb hu uX7 hown hK hI.1 0 rfl rfl 2 (by decide) (hu _ uww_558) (fun _ h9 => h9) rfl dX7_four_22 ?_
        refine lv_iconst (v := (1 : Int32)) hx hb dX7_four_25 (by decide) ?_
        refine lv_iadd hx hb dX7_four_26 ?_
        refine rpput (ci := 6) (C := RX7) (T := TX7) (N := 44) (ty := .int) hx hb hu uX7 tyX7 tyX7_ok nmX7 hown hK hI 0 rfl rfl 2 (by decide) (hu _ uww_558) (fun _ h9 => h9) rfl (by decide +kernel) rfl rfl (Nat.le_of_ble_eq_true rfl) (rpset_0_2 _ _ _ _ _) dX7_four_27 (fun H locs M5 eM5 hI => ?_)
        have h := h M5 eM5
        obtain ⟨x6, ex6⟩ : ∃ y : Int32, y = (x1 + (-8 : Int32)) := ⟨_, rfl⟩
        have h := h x6 ex6
        refine lv_iinc (v := x6) (lv' := [(2, .int x6), (0, .ref (a 0)), (1, .int p1)]) hx hb dX7_four_30 hl (k := 2) rfl (by rw [ex6]; rfl) (by decide) rfl (fun ls hl => ?_)
        refine lv_goto (tgt := 3) hx hb dX7_four_33 (by decide) ?_
        exact ih3 x6 M5 _ _ _ h.1 (Nat.lt_of_lt_of_le h.2 (Nat.le_of_lt_succ hn3)) hI (lv_sub hl [1, 2, 0] rfl)
  exact P3 (m3 (24 : Int32) M + 1) (24 : Int32) M _ _ _ h (Nat.lt_succ_self _) hI (lv_sub hl [1, 2, 0] rfl)

abbrev rm_X7_feed_0 : Room := { frames := 1, cells := 0, slots := 0, locals := 22 }
abbrev av_X7_feed_0 (a t : Nat → Nat) (p1 : Int32) (p2 : Int32) (p3 : Int32) (p4 : Int32) (p5 : Int32) : List Value := [.ref (a 0), .int p1, .int p2, .int p3, .int p4, .int p5]
abbrev qc_X7_feed_0 (dC : Nat → ClassId) (dI : Nat → Nat → Nat) (a : Nat → Nat) (kA : Nat → ClassId) (sz : Nat) (M : cM) (L : cL) (Z : Int32 → cM → Prop) : Array Value → State → Outcome → State → Prop := va_Qi (fun r (u : cM × cL) => u.2 = L ∧ Z r u.1) (rpAt dC dI a kA (rpA a sz)) (rpA a sz)
set_option maxHeartbeats 4000000 in
set_option maxRecDepth 100000 in
theorem met_X7_feed_0 (l : Launch) (dC : Nat → ClassId) (dI : Nat → Nat → Nat) (a : Nat → Nat) (kA : Nat → ClassId) (t : Nat → Nat) (sz : Nat) (M : cM) (L : cL) (p1 : Int32) (p2 : Int32) (p3 : Int32) (p4 : Int32) (p5 : Int32) (Z : Int32 → cM → Prop) (h : wp_X7_feed_0 M L p1 p2 p3 p4 p5 Z) : Met l yX7_feed (Cond.code yX7_feed cX7_feed 6 (some .int) :: uW) rm_X7_feed_0 (va_Pc (av_X7_feed_0 a t p1 p2 p3 p4 p5) (rpPre dC dI a kA t M L sz)) (qc_X7_feed_0 dC dI a kA sz M L Z) 0 0 (rpA a sz) := by
  refine rpenter (cc := cX7_feed) (n := 6) (ret := (some .int)) (by decide) rfl (Nat.le_of_ble_eq_true rfl) ?_
  intro p e s m below meth c ls hx hb hml hr hlocks hown hts hK hE hsz hI hl hmn
  have hu : ∀ w ∈ uW, w.before (av_X7_feed_0 a t p1 p2 p3 p4 p5).toArray s = true := fun w h => hts w (List.mem_cons_of_mem _ h)
  have hown : s.vm.findClass RX7 = some m.cls := hown
  have hl : lv_has ls 6 [(0, .ref (a 0)), (1, .int p1), (2, .int p2), (3, .int p3), (4, .int p4), (5, .int p5)] := hl
  unfold wp_X7_feed_0 at h
  refine lv_aload_n hx hb dX7_feed_0 rfl (lv_at hl 0 rfl) ?_
  refine lv_aload_n hx hb dX7_feed_1 rfl (lv_at hl 0 rfl) ?_
  refine va_get (D := (dC, dI)) (ci := 6) (v := .int (M 0 2)) (C := RX7) (T := TX7) (N := 44) hx hb hu uX7 hown hK hI.1 0 rfl rfl 2 (by decide) (hu _ uww_558) (fun _ h9 => h9) rfl dX7_feed_2 ?_
  refine lv_bipush (v := (20 : Int32)) hx hb dX7_feed_5 (by decide) ?_
  refine lv_iadd hx hb dX7_feed_7 ?_
  refine lv_sipush (v := (2400 : Int32)) hx hb dX7_feed_8 (by decide) ?_
  obtain ⟨K19, hK19, h⟩ := h
  have J19 : ∀ (v1 : Int32) (H : Heap) (locs : List Loc) (ls : Array Slot), K19 v1 → rpI dC dI a kA (rpA a sz) s M L H locs → lv_has ls 6 [(0, .ref (a 0)), (1, .int p1), (2, .int p2), (3, .int p3), (4, .int p4), (5, .int p5)] → W p l e rm_X7_feed_0 s m (av_X7_feed_0 a t p1 p2 p3 p4 p5).toArray below meth c H locs 0 0 (MQ below (qc_X7_feed_0 dC dI a kA sz M L Z) (av_X7_feed_0 a t p1 p2 p3 p4 p5).toArray s 0 0 (rpA a sz)) (F0 m 19 ls [.int v1, .ref (a 0)]) := by
    intro v1 H locs ls h hI hl
    have h := hK19 v1 h
    refine rpput (ci := 6) (C := RX7) (T := TX7) (N := 44) (ty := .int) hx hb hu uX7 tyX7 tyX7_ok nmX7 hown hK hI 0 rfl rfl 0 (by decide) (hu _ uww_556) (fun _ h9 => h9) rfl (by decide +kernel) rfl rfl (Nat.le_of_ble_eq_true rfl) (rpset_0_0 _ _ _ _ _) dX7_feed_19 (fun H locs M2 eM2 hI => ?_)
    have h := h M2 eM2
    refine lv_aload_n hx hb dX7_feed_22 rfl (lv_at hl 0 rfl) ?_
    refine va_get (D := (dC, dI)) (ci := 6) (v := .int (M2 0 0)) (C := RX7) (T := TX7) (N := 44) hx hb hu uX7 hown hK hI.1 0 rfl rfl 0 (by decide) (hu _ uww_556) (fun _ h9 => h9) rfl dX7_feed_23 ?_
    refine lv_if_le (tgt := 31) hx hb dX7_feed_26 (by decide) (fun c3 => ?_) (fun c3 => ?_)
    · have h := h.1 c3
      refine lv_aload_n hx hb dX7_feed_31 rfl (lv_at hl 0 rfl) ?_
      refine lv_iload_n hx hb dX7_feed_32 rfl (lv_at hl 1 rfl) ?_
      refine rpcallv_m hsz hI (va_runV (As := [.int p1]) (rest := []) ⟨hx, hb, hml, hown, hu⟩ (met_X7_four_0 l dC dI a kA t _ M2 L p1 _ h) (cwl_X7_67_X7 hu ⟨by decide, by decide⟩) (rppre (ci := 6) hK hE hsz hI rfl rfl) rfl rfl hl.1 rfl (lv_room (Nat.le_of_ble_eq_true rfl)) dX7_feed_33 ⟨by decide, by decide⟩) (fun M4 H locs h hI => ?_)
      refine lv_aload_n hx hb dX7_feed_36 rfl (lv_at hl 0 rfl) ?_
      refine lv_iload_n hx hb dX7_feed_37 rfl (lv_at hl 2 rfl) ?_
      refine rpcallv_m hsz hI (va_runV (As := [.int p2]) (rest := []) ⟨hx, hb, hml, hown, hu⟩ (met_X7_four_0 l dC dI a kA t _ M4 L p2 _ h) (cwl_X7_67_X7 hu ⟨by decide, by decide⟩) (rppre (ci := 6) hK hE hsz hI rfl rfl) rfl rfl hl.1 rfl (lv_room (Nat.le_of_ble_eq_true rfl)) dX7_feed_38 ⟨by decide, by decide⟩) (fun M5 H locs h hI => ?_)
      refine lv_aload_n hx hb dX7_feed_41 rfl (lv_at hl 0 rfl) ?_
      refine lv_iload_n hx hb dX7_feed_42 rfl (lv_at hl 3 rfl) ?_
      refine rpcallv_m hsz hI (va_runV (As := [.int p3]) (rest := []) ⟨hx, hb, hml, hown, hu⟩ (met_X7_four_0 l dC dI a kA t _ M5 L p3 _ h) (cwl_X7_67_X7 hu ⟨by decide, by decide⟩) (rppre (ci := 6) hK hE hsz hI rfl rfl) rfl rfl hl.1 rfl (lv_room (Nat.le_of_ble_eq_true rfl)) dX7_feed_43 ⟨by decide, by decide⟩) (fun M6 H locs h hI => ?_)
      refine lv_aload_n hx hb dX7_feed_46 rfl (lv_at hl 0 rfl) ?_
      refine lv_iload hx hb dX7_feed_47 (lv_at hl 4 rfl) ?_
      refine rpcallv_m hsz hI (va_runV (As := [.int p4]) (rest := []) ⟨hx, hb, hml, hown, hu⟩ (met_X7_four_0 l dC dI a kA t _ M6 L p4 _ h) (cwl_X7_67_X7 hu ⟨by decide, by decide⟩) (rppre (ci := 6) hK hE hsz hI rfl rfl) rfl rfl hl.1 rfl (lv_room (Nat.le_of_ble_eq_true rfl)) dX7_feed_49 ⟨by decide, by decide⟩) (fun M7 H locs h hI => ?_)
      refine lv_aload_n hx hb dX7_feed_52 rfl (lv_at hl 0 rfl) ?_
      refine lv_iload hx hb dX7_feed_53 (lv_at hl 5 rfl) ?_
      refine rpcallv_m hsz hI (va_runV (As := [.int p5]) (rest := []) ⟨hx, hb, hml, hown, hu⟩ (met_X7_four_0 l dC dI a kA t _ M7 L p5 _ h) (cwl_X7_67_X7 hu ⟨by decide, by decide⟩) (rppre (ci := 6) hK hE hsz hI rfl rfl) rfl rfl hl.1 rfl (lv_room (Nat.le_of_ble_eq_true rfl)) dX7_feed_55 ⟨by decide, by decide⟩) (fun M8 H locs h hI => ?_)
      refine lv_aload_n hx hb dX7_feed_58 rfl (lv_at hl 0 rfl) ?_
      refine va_get (D := (dC, dI)) (ci := 6) (v := .int (M8 0 2)) (C := RX7) (T := TX7) (N := 44) hx hb hu uX7 hown hK hI.1 0 rfl rfl 2 (by decide) (hu _ uww_558) (fun _ h9 => h9) rfl dX7_feed_59 ?_
      exact rpiret (Z := (fun r M' L' => L' = L ∧ Z r M')) hx hb hr hlocks hK hI dX7_feed_62 ⟨rfl, h⟩
    · have h := h.2 c3
      refine lv_iconst (v := (0 : Int32)) hx hb dX7_feed_29 (by decide) ?_
      exact rpiret (Z := (fun r M' L' => L' = L ∧ Z r M')) hx hb hr hlocks hK hI dX7_feed_30 ⟨rfl, h⟩
  refine lv_icmp_le (tgt := 18) hx hb dX7_feed_11 (by decide) (fun c9 => ?_) (fun c9 => ?_)
  · have h := h.1 c9
    refine lv_iconst (v := (0 : Int32)) hx hb dX7_feed_18 (by decide) ?_
    exact J19 (0 : Int32) _ _ _ h hI (lv_sub hl [0, 1, 2, 3, 4, 5] rfl)
  · have h := h.2 c9
    refine lv_iconst (v := (1 : Int32)) hx hb dX7_feed_14 (by decide) ?_
    refine lv_goto (tgt := 19) hx hb dX7_feed_15 (by decide) ?_
    exact J19 (1 : Int32) _ _ _ h hI (lv_sub hl [0, 1, 2, 3, 4, 5] rfl)

abbrev rm_X7_end_0 : Room := { frames := 0, cells := 0, slots := 0, locals := 0 }
abbrev av_X7_end_0 (a t : Nat → Nat) (p1 : Int32) : List Value := [.ref (a 0), .int p1]
abbrev qc_X7_end_0 (dC : Nat → ClassId) (dI : Nat → Nat → Nat) (a : Nat → Nat) (kA : Nat → ClassId) (sz : Nat) (M : cM) (L : cL) (Z : Int32 → cM → Prop) : Array Value → State → Outcome → State → Prop := va_Qi (fun r (u : cM × cL) => u.2 = L ∧ Z r u.1) (rpAt dC dI a kA (rpA a sz)) (rpA a sz)
set_option maxHeartbeats 4000000 in
set_option maxRecDepth 100000 in
theorem met_X7_end_0 (l : Launch) (dC : Nat → ClassId) (dI : Nat → Nat → Nat) (a : Nat → Nat) (kA : Nat → ClassId) (t : Nat → Nat) (sz : Nat) (M : cM) (L : cL) (p1 : Int32) (Z : Int32 → cM → Prop) (h : wp_X7_end_0 M L p1 Z) : Met l yX7_end (Cond.code yX7_end cX7_end 2 (some .int) :: uW) rm_X7_end_0 (va_Pc (av_X7_end_0 a t p1) (rpPre dC dI a kA t M L sz)) (qc_X7_end_0 dC dI a kA sz M L Z) 0 0 (rpA a sz) := by
  refine rpenter (cc := cX7_end) (n := 2) (ret := (some .int)) (by decide) rfl (Nat.le_of_ble_eq_true rfl) ?_
  intro p e s m below meth c ls hx hb hml hr hlocks hown hts hK hE hsz hI hl hmn
  have hu : ∀ w ∈ uW, w.before (av_X7_end_0 a t p1).toArray s = true := fun w h => hts w (List.mem_cons_of_mem _ h)
  have hown : s.vm.findClass RX7 = some m.cls := hown
  have hl : lv_has ls 2 [(0, .ref (a 0)), (1, .int p1)] := hl
  unfold wp_X7_end_0 at h
  refine lv_aload_n hx hb dX7_end_0 rfl (lv_at hl 0 rfl) ?_
  refine lv_iload_n hx hb dX7_end_1 rfl (lv_at hl 1 rfl) ?_
  obtain ⟨K18, hK18, h⟩ := h
  have J18 : ∀ (v1 : Int32) (H : Heap) (locs : List Loc) (ls : Array Slot), K18 v1 → rpI dC dI a kA (rpA a sz) s M L H locs → lv_has ls 2 [(0, .ref (a 0)), (1, .int p1)] → W p l e rm_X7_end_0 s m (av_X7_end_0 a t p1).toArray below meth c H locs 0 0 (MQ below (qc_X7_end_0 dC dI a kA sz M L Z) (av_X7_end_0 a t p1).toArray s 0 0 (rpA a sz)) (F0 m 18 ls [.int v1, .ref (a 0)]) := by
    intro v1 H locs ls h hI hl
    have h := hK18 v1 h
    refine rpput (ci := 6) (C := RX7) (T := TX7) (N := 44) (ty := .int) hx hb hu uX7 tyX7 tyX7_ok nmX7 hown hK hI 0 rfl rfl 0 (by decide) (hu _ uww_556) (fun _ h9 => h9) rfl (by decide +kernel) rfl rfl (Nat.le_of_ble_eq_true rfl) (rpset_0_0 _ _ _ _ _) dX7_end_18 (fun H locs M2 eM2 hI => ?_)
    have h := h M2 eM2
    refine lv_aload_n hx hb dX7_end_21 rfl (lv_at hl 0 rfl) ?_
    refine va_get (D := (dC, dI)) (ci := 6) (v := .int (M2 0 0)) (C := RX7) (T := TX7) (N := 44) hx hb hu uX7 hown hK hI.1 0 rfl rfl 0 (by decide) (hu _ uww_556) (fun _ h9 => h9) rfl dX7_end_22 ?_
    refine lv_if_le (tgt := 30) hx hb dX7_end_25 (by decide) (fun c3 => ?_) (fun c3 => ?_)
    · have h := h.1 c3
      refine lv_aload_n hx hb dX7_end_30 rfl (lv_at hl 0 rfl) ?_
      refine lv_iload_n hx hb dX7_end_31 rfl (lv_at hl 1 rfl) ?_
      refine rpput (ci := 6) (C := RX7) (T := TX7) (N := 44) (ty := .int) hx hb hu uX7 tyX7 tyX7_ok nmX7 hown hK hI 0 rfl rfl 2 (by decide) (hu _ uww_558) (fun _ h9 => h9) rfl (by decide +kernel) rfl rfl (Nat.le_of_ble_eq_true rfl) (rpset_0_2 _ _ _ _ _) dX7_end_32 (fun H locs M4 eM4 hI => ?_)
      have h := h M4 eM4
      refine lv_iload_n hx hb dX7_end_35 rfl (lv_at hl 1 rfl) ?_
      exact rpiret (Z := (fun r M' L' => L' = L ∧ Z r M')) hx hb hr hlocks hK hI dX7_end_36 ⟨rfl, h⟩
    · have h := h.2 c3
      refine lv_iconst (v := (0 : Int32)) hx hb dX7_end_28 (by decide) ?_
      exact rpiret (Z := (fun r M' L' => L' = L ∧ Z r M')) hx hb hr hlocks hK hI dX7_end_29 ⟨rfl, h⟩
  obtain ⟨K13, hK13, h⟩ := h
  have J13 : ∀  (H : Heap) (locs : List Loc) (ls : Array Slot), K13  → rpI dC dI a kA (rpA a sz) s M L H locs → lv_has ls 2 [(0, .ref (a 0)), (1, .int p1)] → W p l e rm_X7_end_0 s m (av_X7_end_0 a t p1).toArray below meth c H locs 0 0 (MQ below (qc_X7_end_0 dC dI a kA sz M L Z) (av_X7_end_0 a t p1).toArray s 0 0 (rpA a sz)) (F0 m 13 ls [.ref (a 0)]) := by
    intro  H locs ls h hI hl
    have h := hK13  h
    refine lv_iconst (v := (1 : Int32)) hx hb dX7_end_13 (by decide) ?_
    refine lv_goto (tgt := 18) hx hb dX7_end_14 (by decide) ?_
    exact J18 (1 : Int32) _ _ _ h hI (lv_sub hl [0, 1] rfl)
  refine lv_if_lt (tgt := 13) hx hb dX7_end_2 (by decide) (fun c5 => ?_) (fun c5 => ?_)
  · have h := h.1 c5
    exact J13  _ _ _ h hI (lv_sub hl [0, 1] rfl)
  · have h := h.2 c5
    refine lv_iload_n hx hb dX7_end_5 rfl (lv_at hl 1 rfl) ?_
    refine lv_aload_n hx hb dX7_end_6 rfl (lv_at hl 0 rfl) ?_
    refine va_get (D := (dC, dI)) (ci := 6) (v := .int (M 0 2)) (C := RX7) (T := TX7) (N := 44) hx hb hu uX7 hown hK hI.1 0 rfl rfl 2 (by decide) (hu _ uww_558) (fun _ h9 => h9) rfl dX7_end_7 ?_
    refine lv_icmp_le (tgt := 17) hx hb dX7_end_10 (by decide) (fun c6 => ?_) (fun c6 => ?_)
    · have h := h.1 c6
      refine lv_iconst (v := (0 : Int32)) hx hb dX7_end_17 (by decide) ?_
      exact J18 (0 : Int32) _ _ _ h hI (lv_sub hl [0, 1] rfl)
    · have h := h.2 c6
      exact J13  _ _ _ h hI (lv_sub hl [0, 1] rfl)

abbrev rm_X7_bit : Room := { frames := 0, cells := 0, slots := 0, locals := 0 }
abbrev av_X7_bit (a t : Nat → Nat) (p0 : Int64) (p2 : Int64) (p4 : Int32) : List Value := [.long p0, .long p2, .int p4]
abbrev qc_X7_bit (dC : Nat → ClassId) (dI : Nat → Nat → Nat) (a : Nat → Nat) (kA : Nat → ClassId) (sz : Nat) (M : cM) (L : cL) (Z : Int32 → Prop) : Array Value → State → Outcome → State → Prop := va_Qi (fun r (u : cM × cL) => u.1 = M ∧ u.2 = L ∧ Z r) (rpAt dC dI a kA (rpA a sz)) (rpA a sz)
set_option maxHeartbeats 4000000 in
set_option maxRecDepth 100000 in
theorem met_X7_bit (l : Launch) (dC : Nat → ClassId) (dI : Nat → Nat → Nat) (a : Nat → Nat) (kA : Nat → ClassId) (t : Nat → Nat) (sz : Nat) (M : cM) (L : cL) (p0 : Int64) (p2 : Int64) (p4 : Int32) (Z : Int32 → Prop) (h : wp_X7_bit M L p0 p2 p4 Z) : Met l yX7_bit (Cond.code yX7_bit cX7_bit 5 (some .int) :: uW) rm_X7_bit (va_Pc (av_X7_bit a t p0 p2 p4) (rpPre dC dI a kA t M L sz)) (qc_X7_bit dC dI a kA sz M L Z) 0 0 (rpA a sz) := by
  refine rpenter (cc := cX7_bit) (n := 5) (ret := (some .int)) (by decide) rfl (Nat.le_of_ble_eq_true rfl) ?_
  intro p e s m below meth c ls hx hb hml hr hlocks hown hts hK hE hsz hI hl hmn
  have hu : ∀ w ∈ uW, w.before (av_X7_bit a t p0 p2 p4).toArray s = true := fun w h => hts w (List.mem_cons_of_mem _ h)
  have hown : s.vm.findClass RX7 = some m.cls := hown
  have hl : lv_has ls 5 [(0, .long p0), (2, .long p2), (4, .int p4)] := hl
  unfold wp_X7_bit at h
  refine lv_iload hx hb dX7_bit_0 (lv_at hl 2 rfl) ?_
  refine lv_bipush (v := (64 : Int32)) hx hb dX7_bit_2 (by decide) ?_
  refine lv_icmp_ge (tgt := 19) hx hb dX7_bit_4 (by decide) (fun c1 => ?_) (fun c1 => ?_)
  · have h := h.1 c1
    refine lv_lload_n hx hb dX7_bit_19 rfl (lv_at hl 1 rfl) ?_
    refine lv_bipush (v := (127 : Int32)) hx hb dX7_bit_20 (by decide) ?_
    refine lv_iload hx hb dX7_bit_22 (lv_at hl 2 rfl) ?_
    refine lv_isub hx hb dX7_bit_24 ?_
    refine lv_lushr hx hb dX7_bit_25 rfl ?_
    refine lv_lconst (v := (1 : Int64)) hx hb dX7_bit_26 (by decide) ?_
    refine lv_land hx hb dX7_bit_27 ?_
    refine lv_l2i hx hb dX7_bit_28 rfl ?_
    exact rpiret (Z := (fun r M' L' => M' = M ∧ L' = L ∧ Z r)) hx hb hr hlocks hK hI dX7_bit_29 ⟨rfl, rfl, h⟩
  · have h := h.2 c1
    refine lv_lload_n hx hb dX7_bit_7 rfl (lv_at hl 0 rfl) ?_
    refine lv_bipush (v := (63 : Int32)) hx hb dX7_bit_8 (by decide) ?_
    refine lv_iload hx hb dX7_bit_10 (lv_at hl 2 rfl) ?_
    refine lv_isub hx hb dX7_bit_12 ?_
    refine lv_lushr hx hb dX7_bit_13 rfl ?_
    refine lv_lconst (v := (1 : Int64)) hx hb dX7_bit_14 (by decide) ?_
    refine lv_land hx hb dX7_bit_15 ?_
    refine lv_goto (tgt := 28) hx hb dX7_bit_16 (by decide) ?_
    refine lv_l2i hx hb dX7_bit_28 rfl ?_
    exact rpiret (Z := (fun r M' L' => M' = M ∧ L' = L ∧ Z r)) hx hb hr hlocks hK hI dX7_bit_29 ⟨rfl, rfl, h⟩

abbrev rm_X7_prefix_0 : Room := { frames := 1, cells := 0, slots := 0, locals := 24 }
abbrev av_X7_prefix_0 (a t : Nat → Nat) (p1 : Int64) (p3 : Int64) (p5 : Int32) : List Value := [.ref (a 0), .long p1, .long p3, .int p5]
abbrev qc_X7_prefix_0 (dC : Nat → ClassId) (dI : Nat → Nat → Nat) (a : Nat → Nat) (kA : Nat → ClassId) (sz : Nat) (M : cM) (L : cL) (Z : cM → cL → Prop) : Array Value → State → Outcome → State → Prop := va_Qv (fun (u : cM × cL) => Z u.1 u.2) (rpAt dC dI a kA (rpA a sz)) (rpA a sz)
set_option maxHeartbeats 4000000 in
set_option maxRecDepth 100000 in
theorem met_X7_prefix_0 (l : Launch) (dC : Nat → ClassId) (dI : Nat → Nat → Nat) (a : Nat → Nat) (kA : Nat → ClassId) (t : Nat → Nat) (sz : Nat) (M : cM) (L : cL) (p1 : Int64) (p3 : Int64) (p5 : Int32) (Z : cM → cL → Prop) (h : wp_X7_prefix_0 M L p1 p3 p5 Z) : Met l yX7_prefix (Cond.code yX7_prefix cX7_prefix 8 none :: uW) rm_X7_prefix_0 (va_Pc (av_X7_prefix_0 a t p1 p3 p5) (rpPre dC dI a kA t M L sz)) (qc_X7_prefix_0 dC dI a kA sz M L Z) 0 0 (rpA a sz) := by
  refine rpenter (cc := cX7_prefix) (n := 8) (ret := none) (by decide) rfl (Nat.le_of_ble_eq_true rfl) ?_
  intro p e s m below meth c ls hx hb hml hr hlocks hown hts hK hE hsz hI hl hmn
  have hu : ∀ w ∈ uW, w.before (av_X7_prefix_0 a t p1 p3 p5).toArray s = true := fun w h => hts w (List.mem_cons_of_mem _ h)
  have hown : s.vm.findClass RX7 = some m.cls := hown
  have hl : lv_has ls 8 [(0, .ref (a 0)), (1, .long p1), (3, .long p3), (5, .int p5)] := hl
  unfold wp_X7_prefix_0 at h
  refine lv_iload hx hb dX7_prefix_0 (lv_at hl 3 rfl) ?_
  refine lv_bipush (v := (32 : Int32)) hx hb dX7_prefix_2 (by decide) ?_
  obtain ⟨K47, hK47, h⟩ := h
  have J47 : ∀ (v1 : Int32) (H : Heap) (locs : List Loc) (ls : Array Slot), K47 v1 → rpI dC dI a kA (rpA a sz) s M L H locs → lv_has ls 8 [(0, .ref (a 0)), (1, .long p1), (3, .long p3), (5, .int p5)] → W p l e rm_X7_prefix_0 s m (av_X7_prefix_0 a t p1 p3 p5).toArray below meth c H locs 0 0 (MQ below (qc_X7_prefix_0 dC dI a kA sz M L Z) (av_X7_prefix_0 a t p1 p3 p5).toArray s 0 0 (rpA a sz)) (F0 m 47 ls [.int v1]) := by
    intro v1 H locs ls h hI hl
    have h := hK47 v1 h
    refine lv_istore (lv' := [(6, .int v1), (0, .ref (a 0)), (1, .long p1), (3, .long p3), (5, .int p5)]) hx hb dX7_prefix_47 hl (by decide) rfl (fun ls hl => ?_)
    refine lv_iconst (v := (0 : Int32)) hx hb dX7_prefix_49 (by decide) ?_
    refine lv_istore (lv' := [(7, .int (0 : Int32)), (6, .int v1), (0, .ref (a 0)), (1, .long p1), (3, .long p3), (5, .int p5)]) hx hb dX7_prefix_50 hl (by decide) rfl (fun ls hl => ?_)
    obtain ⟨I52, m52, h, hs52⟩ := h
    have P52 : ∀ (n52 : Nat) (x2 : Int32) (x3 : Int32) (H : Heap) (locs : List Loc) (ls : Array Slot), I52 x2 x3 → m52 x2 x3 < n52 → rpI dC dI a kA (rpA a sz) s M L H locs → lv_has ls 8 [(0, .ref (a 0)), (1, .long p1), (3, .long p3), (5, .int p5), (6, .int x2), (7, .int x3)] → W p l e rm_X7_prefix_0 s m (av_X7_prefix_0 a t p1 p3 p5).toArray below meth c H locs 0 0 (MQ below (qc_X7_prefix_0 dC dI a kA sz M L Z) (av_X7_prefix_0 a t p1 p3 p5).toArray s 0 0 (rpA a sz)) (F0 m 52 ls []) := by
      intro n52
      induction n52 with
      | zero => intro x2 x3 H locs ls _ hn; exact absurd hn (Nat.not_lt_zero _)
      | succ n52 ih52 =>
        intro x2 x3 H locs ls h hn52 hI hl
        have h := hs52 x2 x3 h
        refine lv_iload hx hb dX7_prefix_52 (lv_at hl 4 rfl) ?_
        obtain ⟨K109, hK109, h⟩ := h
        have J109 : ∀  (H : Heap) (locs : List Loc) (ls : Array Slot), K109  → rpI dC dI a kA (rpA a sz) s M L H locs → lv_has ls 8 [(0, .ref (a 0)), (1, .long p1), (3, .long p3), (5, .int p5), (6, .int x2)] → W p l e rm_X7_prefix_0 s m (av_X7_prefix_0 a t p1 p3 p5).toArray below meth c H locs 0 0 (MQ below (qc_X7_prefix_0 dC dI a kA sz M L Z) (av_X7_prefix_0 a t p1 p3 p5).toArray s 0 0 (rpA a sz)) (F0 m 109 ls []) := by
          intro  H locs ls h hI hl
          have h := hK109  h
          refine lv_aload_n hx hb dX7_prefix_109 rfl (lv_at hl 0 rfl) ?_
          refine lv_iload hx hb dX7_prefix_110 (lv_at hl 4 rfl) ?_
          obtain ⟨K120, hK120, h⟩ := h
          have J120 : ∀ (v4 : Int32) (H : Heap) (locs : List Loc) (ls : Array Slot), K120 v4 → rpI dC dI a kA (rpA a sz) s M L H locs → lv_has ls 8 [(0, .ref (a 0)), (1, .long p1), (3, .long p3), (5, .int p5), (6, .int x2)] → W p l e rm_X7_prefix_0 s m (av_X7_prefix_0 a t p1 p3 p5).toArray below meth c H locs 0 0 (MQ below (qc_X7_prefix_0 dC dI a kA sz M L Z) (av_X7_prefix_0 a t p1 p3 p5).toArray s 0 0 (rpA a sz)) (F0 m 120 ls [.int v4, .ref (a 0)]) := by
            intro v4 H locs ls h hI hl
            have h := hK120 v4 h
            refine rpput (ci := 6) (C := RX7) (T := TX7) (N := 44) (ty := .int) hx hb hu uX7 tyX7 tyX7_ok nmX7 hown hK hI 0 rfl rfl 0 (by decide) (hu _ uww_556) (fun _ h9 => h9) rfl (by decide +kernel) rfl rfl (Nat.le_of_ble_eq_true rfl) (rpset_0_0 _ _ _ _ _) dX7_prefix_120 (fun H locs M5 eM5 hI => ?_)
            have h := h M5 eM5
            refine lv_iload hx hb dX7_prefix_123 (lv_at hl 4 rfl) ?_
            refine lv_if_ne (tgt := 129) hx hb dX7_prefix_125 (by decide) (fun c6 => ?_) (fun c6 => ?_)
            · have h := h.1 c6
              refine lv_aload_n hx hb dX7_prefix_129 rfl (lv_at hl 0 rfl) ?_
              refine lv_lload_n hx hb dX7_prefix_130 rfl (lv_at hl 1 rfl) ?_
              refine rpputl (ci := 6) (C := RX7) (T := TX7) (N := 44) (ty := .long) hx hb hu uX7 tyX7 tyX7_ok nmX7 hown hK hI 0 rfl rfl 3 (by decide) (hu _ uww_540) (fun _ h9 => h9) rfl (by decide +kernel) rfl rfl (Nat.le_of_ble_eq_true rfl) (rpset_0_3 _ _ _ _ _) dX7_prefix_131 (fun H locs L7 eL7 hI => ?_)
              have h := h L7 eL7
              refine lv_aload_n hx hb dX7_prefix_134 rfl (lv_at hl 0 rfl) ?_
              refine lv_lload_n hx hb dX7_prefix_135 rfl (lv_at hl 2 rfl) ?_
              refine rpputl (ci := 6) (C := RX7) (T := TX7) (N := 44) (ty := .long) hx hb hu uX7 tyX7 tyX7_ok nmX7 hown hK hI 0 rfl rfl 4 (by decide) (hu _ uww_567) (fun _ h9 => h9) rfl (by decide +kernel) rfl rfl (Nat.le_of_ble_eq_true rfl) (rpset_0_4 _ _ _ _ _) dX7_prefix_136 (fun H locs L8 eL8 hI => ?_)
              have h := h L8 eL8
              refine lv_aload_n hx hb dX7_prefix_139 rfl (lv_at hl 0 rfl) ?_
              refine lv_iload hx hb dX7_prefix_140 (lv_at hl 3 rfl) ?_
              refine rpput (ci := 6) (C := RX7) (T := TX7) (N := 44) (ty := .int) hx hb hu uX7 tyX7 tyX7_ok nmX7 hown hK hI 0 rfl rfl 5 (by decide) (hu _ uww_541) (fun _ h9 => h9) rfl (by decide +kernel) rfl rfl (Nat.le_of_ble_eq_true rfl) (rpset_0_5 _ _ _ _ _) dX7_prefix_142 (fun H locs M9 eM9 hI => ?_)
              have h := h M9 eM9
              exact rpvret (Z := (fun M' L' => Z M' L')) hx hb hr hlocks hK hI dX7_prefix_145 h
            · have h := h.2 c6
              exact rpvret (Z := (fun M' L' => Z M' L')) hx hb hr hlocks hK hI dX7_prefix_128 h
          refine lv_if_eq (tgt := 119) hx hb dX7_prefix_112 (by decide) (fun c10 => ?_) (fun c10 => ?_)
          · have h := h.1 c10
            refine lv_iconst (v := (1 : Int32)) hx hb dX7_prefix_119 (by decide) ?_
            exact J120 (1 : Int32) _ _ _ h hI (lv_sub hl [0, 1, 2, 3, 4] rfl)
          · have h := h.2 c10
            refine lv_iconst (v := (0 : Int32)) hx hb dX7_prefix_115 (by decide) ?_
            refine lv_goto (tgt := 120) hx hb dX7_prefix_116 (by decide) ?_
            exact J120 (0 : Int32) _ _ _ h hI (lv_sub hl [0, 1, 2, 3, 4] rfl)
        refine lv_if_eq (tgt := 109) hx hb dX7_prefix_54 (by decide) (fun c11 => ?_) (fun c11 => ?_)
        · have h := h.1 c11
          exact J109  _ _ _ h hI (lv_sub hl [0, 1, 2, 3, 4] rfl)
        · have h := h.2 c11
          refine lv_iload hx hb dX7_prefix_57 (lv_at hl 5 rfl) ?_
          refine lv_sipush (v := (128 : Int32)) hx hb dX7_prefix_59 (by decide) ?_
          refine lv_icmp_ge (tgt := 109) hx hb dX7_prefix_62 (by decide) (fun c12 => ?_) (fun c12 => ?_)
          · have h := h.1 c12
            exact J109  _ _ _ h hI (lv_sub hl [0, 1, 2, 3, 4] rfl)
          · have h := h.2 c12
            refine lv_lload_n hx hb dX7_prefix_65 rfl (lv_at hl 1 rfl) ?_
            refine lv_lload_n hx hb dX7_prefix_66 rfl (lv_at hl 2 rfl) ?_
            refine lv_iload hx hb dX7_prefix_67 (lv_at hl 5 rfl) ?_
            refine rpcalli_p hsz hI (va_runS (As := [.long p1, .long p3, .int x3]) (rest := []) ⟨hx, hb, hml, hown, hu⟩ (met_X7_bit l dC dI a kA t _ M L p1 p3 x3 _ h) (cwl_X7_71_S hu ⟨by decide, by decide⟩) (rppreS hK hE hsz hI) rfl rfl hl.1 rfl (lv_room (Nat.le_of_ble_eq_true rfl)) dX7_prefix_69 ⟨by decide, by decide⟩) (fun r13 H locs h hI => ?_)
            obtain ⟨K101, hK101, h⟩ := h
            have J101 : ∀ (v14 : Int32) (H : Heap) (locs : List Loc) (ls : Array Slot), K101 v14 → rpI dC dI a kA (rpA a sz) s M L H locs → lv_has ls 8 [(0, .ref (a 0)), (1, .long p1), (3, .long p3), (5, .int p5), (7, .int x3)] → W p l e rm_X7_prefix_0 s m (av_X7_prefix_0 a t p1 p3 p5).toArray below meth c H locs 0 0 (MQ below (qc_X7_prefix_0 dC dI a kA sz M L Z) (av_X7_prefix_0 a t p1 p3 p5).toArray s 0 0 (rpA a sz)) (F0 m 101 ls [.int v14]) := by
              intro v14 H locs ls h hI hl
              have h := hK101 v14 h
              refine lv_istore (lv' := [(6, .int v14), (0, .ref (a 0)), (1, .long p1), (3, .long p3), (5, .int p5), (7, .int x3)]) hx hb dX7_prefix_101 hl (by decide) rfl (fun ls hl => ?_)
              obtain ⟨x15, ex15⟩ : ∃ y : Int32, y = (x3 + (1 : Int32)) := ⟨_, rfl⟩
              have h := h x15 ex15
              refine lv_iinc (v := x15) (lv' := [(7, .int x15), (6, .int v14), (0, .ref (a 0)), (1, .long p1), (3, .long p3), (5, .int p5)]) hx hb dX7_prefix_103 hl (k := 5) rfl (by rw [ex15]; rfl) (by decide) rfl (fun ls hl => ?_)
              refine lv_goto (tgt := 52) hx hb dX7_prefix_106 (by decide) ?_
              exact ih52 v14 x15 _ _ _ h.1 (Nat.lt_of_lt_of_le h.2 (Nat.le_of_lt_succ hn52)) hI (lv_sub hl [2, 3, 4, 5, 1, 0] rfl)
            obtain ⟨K96, hK96, h⟩ := h
            have J96 : ∀  (H : Heap) (locs : List Loc) (ls : Array Slot), K96  → rpI dC dI a kA (rpA a sz) s M L H locs → lv_has ls 8 [(0, .ref (a 0)), (1, .long p1), (3, .long p3), (5, .int p5), (7, .int x3)] → W p l e rm_X7_prefix_0 s m (av_X7_prefix_0 a t p1 p3 p5).toArray below meth c H locs 0 0 (MQ below (qc_X7_prefix_0 dC dI a kA sz M L Z) (av_X7_prefix_0 a t p1 p3 p5).toArray s 0 0 (rpA a sz)) (F0 m 96 ls []) := by
              intro  H locs ls h hI hl
              have h := hK96  h
              refine lv_iconst (v := (1 : Int32)) hx hb dX7_prefix_96 (by decide) ?_
              refine lv_goto (tgt := 101) hx hb dX7_prefix_97 (by decide) ?_
              exact J101 (1 : Int32) _ _ _ h hI (lv_sub hl [0, 1, 2, 3, 4] rfl)
            refine lv_if_eq (tgt := 96) hx hb dX7_prefix_72 (by decide) (fun c16 => ?_) (fun c16 => ?_)
            · have h := h.1 c16
              exact J96  _ _ _ h hI (lv_sub hl [0, 1, 2, 3, 5] rfl)
            · have h := h.2 c16
              refine lv_iload hx hb dX7_prefix_75 (lv_at hl 5 rfl) ?_
              refine lv_iload hx hb dX7_prefix_77 (lv_at hl 3 rfl) ?_
              obtain ⟨K100, hK100, h⟩ := h
              have J100 : ∀  (H : Heap) (locs : List Loc) (ls : Array Slot), K100  → rpI dC dI a kA (rpA a sz) s M L H locs → lv_has ls 8 [(0, .ref (a 0)), (1, .long p1), (3, .long p3), (5, .int p5), (7, .int x3)] → W p l e rm_X7_prefix_0 s m (av_X7_prefix_0 a t p1 p3 p5).toArray below meth c H locs 0 0 (MQ below (qc_X7_prefix_0 dC dI a kA sz M L Z) (av_X7_prefix_0 a t p1 p3 p5).toArray s 0 0 (rpA a sz)) (F0 m 100 ls []) := by
                intro  H locs ls h hI hl
                have h := hK100  h
                refine lv_iconst (v := (0 : Int32)) hx hb dX7_prefix_100 (by decide) ?_
                exact J101 (0 : Int32) _ _ _ h hI (lv_sub hl [0, 1, 2, 3, 4] rfl)
              refine lv_icmp_ge (tgt := 100) hx hb dX7_prefix_79 (by decide) (fun c17 => ?_) (fun c17 => ?_)
              · have h := h.1 c17
                exact J100  _ _ _ h hI (lv_sub hl [0, 1, 2, 3, 5] rfl)
              · have h := h.2 c17
                refine lv_iload hx hb dX7_prefix_82 (lv_at hl 5 rfl) ?_
                refine lv_bipush (v := (64 : Int32)) hx hb dX7_prefix_84 (by decide) ?_
                refine lv_icmp_lt (tgt := 96) hx hb dX7_prefix_86 (by decide) (fun c18 => ?_) (fun c18 => ?_)
                · have h := h.1 c18
                  exact J96  _ _ _ h hI (lv_sub hl [0, 1, 2, 3, 5] rfl)
                · have h := h.2 c18
                  refine lv_iload hx hb dX7_prefix_89 (lv_at hl 5 rfl) ?_
                  refine lv_bipush (v := (71 : Int32)) hx hb dX7_prefix_91 (by decide) ?_
                  refine lv_icmp_le (tgt := 100) hx hb dX7_prefix_93 (by decide) (fun c19 => ?_) (fun c19 => ?_)
                  · have h := h.1 c19
                    exact J100  _ _ _ h hI (lv_sub hl [0, 1, 2, 3, 5] rfl)
                  · have h := h.2 c19
                    exact J96  _ _ _ h hI (lv_sub hl [0, 1, 2, 3, 5] rfl)
    exact P52 (m52 v1 (0 : Int32) + 1) v1 (0 : Int32) _ _ _ h (Nat.lt_succ_self _) hI (lv_sub hl [2, 3, 4, 5, 1, 0] rfl)
  obtain ⟨K42, hK42, h⟩ := h
  have J42 : ∀  (H : Heap) (locs : List Loc) (ls : Array Slot), K42  → rpI dC dI a kA (rpA a sz) s M L H locs → lv_has ls 8 [(0, .ref (a 0)), (1, .long p1), (3, .long p3), (5, .int p5)] → W p l e rm_X7_prefix_0 s m (av_X7_prefix_0 a t p1 p3 p5).toArray below meth c H locs 0 0 (MQ below (qc_X7_prefix_0 dC dI a kA sz M L Z) (av_X7_prefix_0 a t p1 p3 p5).toArray s 0 0 (rpA a sz)) (F0 m 42 ls []) := by
    intro  H locs ls h hI hl
    have h := hK42  h
    refine lv_iconst (v := (1 : Int32)) hx hb dX7_prefix_42 (by decide) ?_
    refine lv_goto (tgt := 47) hx hb dX7_prefix_43 (by decide) ?_
    exact J47 (1 : Int32) _ _ _ h hI (lv_sub hl [0, 1, 2, 3] rfl)
  refine lv_icmp_eq (tgt := 42) hx hb dX7_prefix_4 (by decide) (fun c20 => ?_) (fun c20 => ?_)
  · have h := h.1 c20
    exact J42  _ _ _ h hI (lv_sub hl [0, 1, 2, 3] rfl)
  · have h := h.2 c20
    refine lv_iload hx hb dX7_prefix_7 (lv_at hl 3 rfl) ?_
    refine lv_bipush (v := (40 : Int32)) hx hb dX7_prefix_9 (by decide) ?_
    refine lv_icmp_eq (tgt := 42) hx hb dX7_prefix_11 (by decide) (fun c21 => ?_) (fun c21 => ?_)
    · have h := h.1 c21
      exact J42  _ _ _ h hI (lv_sub hl [0, 1, 2, 3] rfl)
    · have h := h.2 c21
      refine lv_iload hx hb dX7_prefix_14 (lv_at hl 3 rfl) ?_
      refine lv_bipush (v := (48 : Int32)) hx hb dX7_prefix_16 (by decide) ?_
      refine lv_icmp_eq (tgt := 42) hx hb dX7_prefix_18 (by decide) (fun c22 => ?_) (fun c22 => ?_)
      · have h := h.1 c22
        exact J42  _ _ _ h hI (lv_sub hl [0, 1, 2, 3] rfl)
      · have h := h.2 c22
        refine lv_iload hx hb dX7_prefix_21 (lv_at hl 3 rfl) ?_
        refine lv_bipush (v := (56 : Int32)) hx hb dX7_prefix_23 (by decide) ?_
        refine lv_icmp_eq (tgt := 42) hx hb dX7_prefix_25 (by decide) (fun c23 => ?_) (fun c23 => ?_)
        · have h := h.1 c23
          exact J42  _ _ _ h hI (lv_sub hl [0, 1, 2, 3] rfl)
        · have h := h.2 c23
          refine lv_iload hx hb dX7_prefix_28 (lv_at hl 3 rfl) ?_
          refine lv_bipush (v := (64 : Int32)) hx hb dX7_prefix_30 (by decide) ?_
          refine lv_icmp_eq (tgt := 42) hx hb dX7_prefix_32 (by decide) (fun c24 => ?_) (fun c24 => ?_)
          · have h := h.1 c24
            exact J42  _ _ _ h hI (lv_sub hl [0, 1, 2, 3] rfl)
          · have h := h.2 c24
            refine lv_iload hx hb dX7_prefix_35 (lv_at hl 3 rfl) ?_
            refine lv_bipush (v := (96 : Int32)) hx hb dX7_prefix_37 (by decide) ?_
            refine lv_icmp_ne (tgt := 46) hx hb dX7_prefix_39 (by decide) (fun c25 => ?_) (fun c25 => ?_)
            · have h := h.1 c25
              refine lv_iconst (v := (0 : Int32)) hx hb dX7_prefix_46 (by decide) ?_
              exact J47 (0 : Int32) _ _ _ h hI (lv_sub hl [0, 1, 2, 3] rfl)
            · have h := h.2 c25
              exact J42  _ _ _ h hI (lv_sub hl [0, 1, 2, 3] rfl)

abbrev rm_X7_own_0 : Room := { frames := 0, cells := 0, slots := 0, locals := 0 }
abbrev av_X7_own_0 (a t : Nat → Nat) (p1 : Int32) (p2 : Int64) (p4 : Int64) : List Value := [.ref (a 0), .int p1, .long p2, .long p4]
abbrev qc_X7_own_0 (dC : Nat → ClassId) (dI : Nat → Nat → Nat) (a : Nat → Nat) (kA : Nat → ClassId) (sz : Nat) (M : cM) (L : cL) (Z : cM → cL → Prop) : Array Value → State → Outcome → State → Prop := va_Qv (fun (u : cM × cL) => Z u.1 u.2) (rpAt dC dI a kA (rpA a sz)) (rpA a sz)
set_option maxHeartbeats 4000000 in
set_option maxRecDepth 100000 in
theorem met_X7_own_0 (l : Launch) (dC : Nat → ClassId) (dI : Nat → Nat → Nat) (a : Nat → Nat) (kA : Nat → ClassId) (t : Nat → Nat) (sz : Nat) (M : cM) (L : cL) (p1 : Int32) (p2 : Int64) (p4 : Int64) (Z : cM → cL → Prop) (h : wp_X7_own_0 M L p1 p2 p4 Z) : Met l yX7_own (Cond.code yX7_own cX7_own 6 none :: uW) rm_X7_own_0 (va_Pc (av_X7_own_0 a t p1 p2 p4) (rpPre dC dI a kA t M L sz)) (qc_X7_own_0 dC dI a kA sz M L Z) 0 0 (rpA a sz) := by
  refine rpenter (cc := cX7_own) (n := 6) (ret := none) (by decide) rfl (Nat.le_of_ble_eq_true rfl) ?_
  intro p e s m below meth c ls hx hb hml hr hlocks hown hts hK hE hsz hI hl hmn
  have hu : ∀ w ∈ uW, w.before (av_X7_own_0 a t p1 p2 p4).toArray s = true := fun w h => hts w (List.mem_cons_of_mem _ h)
  have hown : s.vm.findClass RX7 = some m.cls := hown
  have hl : lv_has ls 6 [(0, .ref (a 0)), (1, .int p1), (2, .long p2), (4, .long p4)] := hl
  unfold wp_X7_own_0 at h
  refine lv_aload_n hx hb dX7_own_0 rfl (lv_at hl 0 rfl) ?_
  refine lv_iconst (v := (0 : Int32)) hx hb dX7_own_1 (by decide) ?_
  refine rpput (ci := 6) (C := RX7) (T := TX7) (N := 44) (ty := .int) hx hb hu uX7 tyX7 tyX7_ok nmX7 hown hK hI 0 rfl rfl 0 (by decide) (hu _ uww_556) (fun _ h9 => h9) rfl (by decide +kernel) rfl rfl (Nat.le_of_ble_eq_true rfl) (rpset_0_0 _ _ _ _ _) dX7_own_2 (fun H locs M1 eM1 hI => ?_)
  have h := h M1 eM1
  refine lv_aload_n hx hb dX7_own_5 rfl (lv_at hl 0 rfl) ?_
  refine lv_iload_n hx hb dX7_own_6 rfl (lv_at hl 1 rfl) ?_
  refine rpput (ci := 6) (C := RX7) (T := TX7) (N := 44) (ty := .int) hx hb hu uX7 tyX7 tyX7_ok nmX7 hown hK hI 0 rfl rfl 6 (by decide) (hu _ uww_543) (fun _ h9 => h9) rfl (by decide +kernel) rfl rfl (Nat.le_of_ble_eq_true rfl) (rpset_0_6 _ _ _ _ _) dX7_own_7 (fun H locs M2 eM2 hI => ?_)
  have h := h M2 eM2
  refine lv_aload_n hx hb dX7_own_10 rfl (lv_at hl 0 rfl) ?_
  refine lv_lload_n hx hb dX7_own_11 rfl (lv_at hl 2 rfl) ?_
  refine rpputl (ci := 6) (C := RX7) (T := TX7) (N := 44) (ty := .long) hx hb hu uX7 tyX7 tyX7_ok nmX7 hown hK hI 0 rfl rfl 7 (by decide) (hu _ uww_545) (fun _ h9 => h9) rfl (by decide +kernel) rfl rfl (Nat.le_of_ble_eq_true rfl) (rpset_0_7 _ _ _ _ _) dX7_own_12 (fun H locs L3 eL3 hI => ?_)
  have h := h L3 eL3
  refine lv_aload_n hx hb dX7_own_15 rfl (lv_at hl 0 rfl) ?_
  refine lv_lload hx hb dX7_own_16 (lv_at hl 3 rfl) ?_
  refine rpputl (ci := 6) (C := RX7) (T := TX7) (N := 44) (ty := .long) hx hb hu uX7 tyX7 tyX7_ok nmX7 hown hK hI 0 rfl rfl 8 (by decide) (hu _ uww_546) (fun _ h9 => h9) rfl (by decide +kernel) rfl rfl (Nat.le_of_ble_eq_true rfl) (rpset_0_8 _ _ _ _ _) dX7_own_18 (fun H locs L4 eL4 hI => ?_)
  have h := h L4 eL4
  exact rpvret (Z := (fun M' L' => Z M' L')) hx hb hr hlocks hK hI dX7_own_21 h

abbrev rm_X7_limits_0 : Room := { frames := 0, cells := 0, slots := 0, locals := 0 }
abbrev av_X7_limits_0 (a t : Nat → Nat) (p1 : Int32) (p2 : Int32) : List Value := [.ref (a 0), .int p1, .int p2]
abbrev qc_X7_limits_0 (dC : Nat → ClassId) (dI : Nat → Nat → Nat) (a : Nat → Nat) (kA : Nat → ClassId) (sz : Nat) (M : cM) (L : cL) (Z : cM → Prop) : Array Value → State → Outcome → State → Prop := va_Qv (fun (u : cM × cL) => u.2 = L ∧ Z u.1) (rpAt dC dI a kA (rpA a sz)) (rpA a sz)
set_option maxHeartbeats 4000000 in
set_option maxRecDepth 100000 in
theorem met_X7_limits_0 (l : Launch) (dC : Nat → ClassId) (dI : Nat → Nat → Nat) (a : Nat → Nat) (kA : Nat → ClassId) (t : Nat → Nat) (sz : Nat) (M : cM) (L : cL) (p1 : Int32) (p2 : Int32) (Z : cM → Prop) (h : wp_X7_limits_0 M L p1 p2 Z) : Met l yX7_limits (Cond.code yX7_limits cX7_limits 3 none :: uW) rm_X7_limits_0 (va_Pc (av_X7_limits_0 a t p1 p2) (rpPre dC dI a kA t M L sz)) (qc_X7_limits_0 dC dI a kA sz M L Z) 0 0 (rpA a sz) := by
  refine rpenter (cc := cX7_limits) (n := 3) (ret := none) (by decide) rfl (Nat.le_of_ble_eq_true rfl) ?_
  intro p e s m below meth c ls hx hb hml hr hlocks hown hts hK hE hsz hI hl hmn
  have hu : ∀ w ∈ uW, w.before (av_X7_limits_0 a t p1 p2).toArray s = true := fun w h => hts w (List.mem_cons_of_mem _ h)
  have hown : s.vm.findClass RX7 = some m.cls := hown
  have hl : lv_has ls 3 [(0, .ref (a 0)), (1, .int p1), (2, .int p2)] := hl
  unfold wp_X7_limits_0 at h
  refine lv_aload_n hx hb dX7_limits_0 rfl (lv_at hl 0 rfl) ?_
  refine lv_iload_n hx hb dX7_limits_1 rfl (lv_at hl 1 rfl) ?_
  refine lv_bipush (v := (68 : Int32)) hx hb dX7_limits_2 (by decide) ?_
  obtain ⟨K33, hK33, h⟩ := h
  have J33 : ∀ (v1 : Int32) (H : Heap) (locs : List Loc) (ls : Array Slot), K33 v1 → rpI dC dI a kA (rpA a sz) s M L H locs → lv_has ls 3 [(0, .ref (a 0)), (1, .int p1), (2, .int p2)] → W p l e rm_X7_limits_0 s m (av_X7_limits_0 a t p1 p2).toArray below meth c H locs 0 0 (MQ below (qc_X7_limits_0 dC dI a kA sz M L Z) (av_X7_limits_0 a t p1 p2).toArray s 0 0 (rpA a sz)) (F0 m 33 ls [.int v1, .ref (a 0)]) := by
    intro v1 H locs ls h hI hl
    have h := hK33 v1 h
    refine rpput (ci := 6) (C := RX7) (T := TX7) (N := 44) (ty := .int) hx hb hu uX7 tyX7 tyX7_ok nmX7 hown hK hI 0 rfl rfl 0 (by decide) (hu _ uww_556) (fun _ h9 => h9) rfl (by decide +kernel) rfl rfl (Nat.le_of_ble_eq_true rfl) (rpset_0_0 _ _ _ _ _) dX7_limits_33 (fun H locs M2 eM2 hI => ?_)
    have h := h M2 eM2
    refine lv_aload_n hx hb dX7_limits_36 rfl (lv_at hl 0 rfl) ?_
    refine va_get (D := (dC, dI)) (ci := 6) (v := .int (M2 0 0)) (C := RX7) (T := TX7) (N := 44) hx hb hu uX7 hown hK hI.1 0 rfl rfl 0 (by decide) (hu _ uww_556) (fun _ h9 => h9) rfl dX7_limits_37 ?_
    refine lv_if_le (tgt := 44) hx hb dX7_limits_40 (by decide) (fun c3 => ?_) (fun c3 => ?_)
    · have h := h.1 c3
      refine lv_aload_n hx hb dX7_limits_44 rfl (lv_at hl 0 rfl) ?_
      refine lv_iload_n hx hb dX7_limits_45 rfl (lv_at hl 1 rfl) ?_
      refine rpput (ci := 6) (C := RX7) (T := TX7) (N := 44) (ty := .int) hx hb hu uX7 tyX7 tyX7_ok nmX7 hown hK hI 0 rfl rfl 9 (by decide) (hu _ uww_547) (fun _ h9 => h9) rfl (by decide +kernel) rfl rfl (Nat.le_of_ble_eq_true rfl) (rpset_0_9 _ _ _ _ _) dX7_limits_46 (fun H locs M4 eM4 hI => ?_)
      have h := h M4 eM4
      refine lv_aload_n hx hb dX7_limits_49 rfl (lv_at hl 0 rfl) ?_
      refine lv_iload_n hx hb dX7_limits_50 rfl (lv_at hl 2 rfl) ?_
      refine rpput (ci := 6) (C := RX7) (T := TX7) (N := 44) (ty := .int) hx hb hu uX7 tyX7 tyX7_ok nmX7 hown hK hI 0 rfl rfl 10 (by decide) (hu _ uww_548) (fun _ h9 => h9) rfl (by decide +kernel) rfl rfl (Nat.le_of_ble_eq_true rfl) (rpset_0_10 _ _ _ _ _) dX7_limits_51 (fun H locs M5 eM5 hI => ?_)
      have h := h M5 eM5
      exact rpvret (Z := (fun M' L' => L' = L ∧ Z M')) hx hb hr hlocks hK hI dX7_limits_54 ⟨rfl, h⟩
    · have h := h.2 c3
      exact rpvret (Z := (fun M' L' => L' = L ∧ Z M')) hx hb hr hlocks hK hI dX7_limits_43 ⟨rfl, h⟩
  obtain ⟨K28, hK28, h⟩ := h
  have J28 : ∀  (H : Heap) (locs : List Loc) (ls : Array Slot), K28  → rpI dC dI a kA (rpA a sz) s M L H locs → lv_has ls 3 [(0, .ref (a 0)), (1, .int p1), (2, .int p2)] → W p l e rm_X7_limits_0 s m (av_X7_limits_0 a t p1 p2).toArray below meth c H locs 0 0 (MQ below (qc_X7_limits_0 dC dI a kA sz M L Z) (av_X7_limits_0 a t p1 p2).toArray s 0 0 (rpA a sz)) (F0 m 28 ls [.ref (a 0)]) := by
    intro  H locs ls h hI hl
    have h := hK28  h
    refine lv_iconst (v := (1 : Int32)) hx hb dX7_limits_28 (by decide) ?_
    refine lv_goto (tgt := 33) hx hb dX7_limits_29 (by decide) ?_
    exact J33 (1 : Int32) _ _ _ h hI (lv_sub hl [0, 1, 2] rfl)
  refine lv_icmp_lt (tgt := 28) hx hb dX7_limits_4 (by decide) (fun c6 => ?_) (fun c6 => ?_)
  · have h := h.1 c6
    exact J28  _ _ _ h hI (lv_sub hl [0, 1, 2] rfl)
  · have h := h.2 c6
    refine lv_iload_n hx hb dX7_limits_7 rfl (lv_at hl 1 rfl) ?_
    refine lv_sipush (v := (2000 : Int32)) hx hb dX7_limits_8 (by decide) ?_
    refine lv_icmp_gt (tgt := 28) hx hb dX7_limits_11 (by decide) (fun c7 => ?_) (fun c7 => ?_)
    · have h := h.1 c7
      exact J28  _ _ _ h hI (lv_sub hl [0, 1, 2] rfl)
    · have h := h.2 c7
      refine lv_iload_n hx hb dX7_limits_14 rfl (lv_at hl 2 rfl) ?_
      refine lv_sipush (v := (1280 : Int32)) hx hb dX7_limits_15 (by decide) ?_
      refine lv_icmp_lt (tgt := 28) hx hb dX7_limits_18 (by decide) (fun c8 => ?_) (fun c8 => ?_)
      · have h := h.1 c8
        exact J28  _ _ _ h hI (lv_sub hl [0, 1, 2] rfl)
      · have h := h.2 c8
        refine lv_iload_n hx hb dX7_limits_21 rfl (lv_at hl 2 rfl) ?_
        refine lv_sipush (v := (2000 : Int32)) hx hb dX7_limits_22 (by decide) ?_
        refine lv_icmp_le (tgt := 32) hx hb dX7_limits_25 (by decide) (fun c9 => ?_) (fun c9 => ?_)
        · have h := h.1 c9
          refine lv_iconst (v := (0 : Int32)) hx hb dX7_limits_32 (by decide) ?_
          exact J33 (0 : Int32) _ _ _ h hI (lv_sub hl [0, 1, 2] rfl)
        · have h := h.2 c9
          exact J28  _ _ _ h hI (lv_sub hl [0, 1, 2] rfl)

abbrev rm_X7_ways_0 : Room := { frames := 0, cells := 0, slots := 0, locals := 0 }
abbrev av_X7_ways_0 (a t : Nat → Nat) (p1 : Int32) (p2 : Int32) : List Value := [.ref (a 0), .int p1, .int p2]
abbrev qc_X7_ways_0 (dC : Nat → ClassId) (dI : Nat → Nat → Nat) (a : Nat → Nat) (kA : Nat → ClassId) (sz : Nat) (M : cM) (L : cL) (Z : cM → Prop) : Array Value → State → Outcome → State → Prop := va_Qv (fun (u : cM × cL) => u.2 = L ∧ Z u.1) (rpAt dC dI a kA (rpA a sz)) (rpA a sz)
set_option maxHeartbeats 4000000 in
set_option maxRecDepth 100000 in
theorem met_X7_ways_0 (l : Launch) (dC : Nat → ClassId) (dI : Nat → Nat → Nat) (a : Nat → Nat) (kA : Nat → ClassId) (t : Nat → Nat) (sz : Nat) (M : cM) (L : cL) (p1 : Int32) (p2 : Int32) (Z : cM → Prop) (h : wp_X7_ways_0 M L p1 p2 Z) : Met l yX7_ways (Cond.code yX7_ways cX7_ways 3 none :: uW) rm_X7_ways_0 (va_Pc (av_X7_ways_0 a t p1 p2) (rpPre dC dI a kA t M L sz)) (qc_X7_ways_0 dC dI a kA sz M L Z) 0 0 (rpA a sz) := by
  refine rpenter (cc := cX7_ways) (n := 3) (ret := none) (by decide) rfl (Nat.le_of_ble_eq_true rfl) ?_
  intro p e s m below meth c ls hx hb hml hr hlocks hown hts hK hE hsz hI hl hmn
  have hu : ∀ w ∈ uW, w.before (av_X7_ways_0 a t p1 p2).toArray s = true := fun w h => hts w (List.mem_cons_of_mem _ h)
  have hown : s.vm.findClass RX7 = some m.cls := hown
  have hl : lv_has ls 3 [(0, .ref (a 0)), (1, .int p1), (2, .int p2)] := hl
  unfold wp_X7_ways_0 at h
  refine lv_aload_n hx hb dX7_ways_0 rfl (lv_at hl 0 rfl) ?_
  refine lv_iconst (v := (0 : Int32)) hx hb dX7_ways_1 (by decide) ?_
  refine rpput (ci := 6) (C := RX7) (T := TX7) (N := 44) (ty := .int) hx hb hu uX7 tyX7 tyX7_ok nmX7 hown hK hI 0 rfl rfl 0 (by decide) (hu _ uww_556) (fun _ h9 => h9) rfl (by decide +kernel) rfl rfl (Nat.le_of_ble_eq_true rfl) (rpset_0_0 _ _ _ _ _) dX7_ways_2 (fun H locs M1 eM1 hI => ?_)
  have h := h M1 eM1
  refine lv_aload_n hx hb dX7_ways_5 rfl (lv_at hl 0 rfl) ?_
  refine lv_iload_n hx hb dX7_ways_6 rfl (lv_at hl 1 rfl) ?_
  refine rpput (ci := 6) (C := RX7) (T := TX7) (N := 44) (ty := .boolean) hx hb hu uX7 tyX7 tyX7_ok nmX7 hown hK hI 0 rfl rfl 11 (by decide) (hu _ uww_549) (fun _ h9 => h9) rfl (by decide +kernel) h.1.1 h.1.2 (Nat.le_of_ble_eq_true rfl) (rpset_0_11 _ _ _ _ _) dX7_ways_7 (fun H locs M2 eM2 hI => ?_)
  have h := h.2 M2 eM2
  refine lv_aload_n hx hb dX7_ways_10 rfl (lv_at hl 0 rfl) ?_
  refine lv_iload_n hx hb dX7_ways_11 rfl (lv_at hl 2 rfl) ?_
  refine rpput (ci := 6) (C := RX7) (T := TX7) (N := 44) (ty := .boolean) hx hb hu uX7 tyX7 tyX7_ok nmX7 hown hK hI 0 rfl rfl 12 (by decide) (hu _ uww_550) (fun _ h9 => h9) rfl (by decide +kernel) h.1.1 h.1.2 (Nat.le_of_ble_eq_true rfl) (rpset_0_12 _ _ _ _ _) dX7_ways_12 (fun H locs M3 eM3 hI => ?_)
  have h := h.2 M3 eM3
  exact rpvret (Z := (fun M' L' => L' = L ∧ Z M')) hx hb hr hlocks hK hI dX7_ways_15 ⟨rfl, h⟩

abbrev rm_X7_isMappable_0 : Room := { frames := 0, cells := 0, slots := 0, locals := 0 }
abbrev av_X7_isMappable_0 (a t : Nat → Nat) (p1 : Int32) : List Value := [.ref (a 0), .int p1]
abbrev qc_X7_isMappable_0 (dC : Nat → ClassId) (dI : Nat → Nat → Nat) (a : Nat → Nat) (kA : Nat → ClassId) (sz : Nat) (M : cM) (L : cL) (Z : Int32 → Prop) : Array Value → State → Outcome → State → Prop := va_Qi (fun r (u : cM × cL) => u.1 = M ∧ u.2 = L ∧ Z r) (rpAt dC dI a kA (rpA a sz)) (rpA a sz)
set_option maxHeartbeats 4000000 in
set_option maxRecDepth 100000 in
theorem met_X7_isMappable_0 (l : Launch) (dC : Nat → ClassId) (dI : Nat → Nat → Nat) (a : Nat → Nat) (kA : Nat → ClassId) (t : Nat → Nat) (sz : Nat) (M : cM) (L : cL) (p1 : Int32) (Z : Int32 → Prop) (h : wp_X7_isMappable_0 M L p1 Z) : Met l yX7_isMappable (Cond.code yX7_isMappable cX7_isMappable 5 (some .boolean) :: uW) rm_X7_isMappable_0 (va_Pc (av_X7_isMappable_0 a t p1) (rpPre dC dI a kA t M L sz)) (qc_X7_isMappable_0 dC dI a kA sz M L Z) 0 0 (rpA a sz) := by
  refine rpenter (cc := cX7_isMappable) (n := 5) (ret := (some .boolean)) (by decide) rfl (Nat.le_of_ble_eq_true rfl) ?_
  intro p e s m below meth c ls hx hb hml hr hlocks hown hts hK hE hsz hI hl hmn
  have hu : ∀ w ∈ uW, w.before (av_X7_isMappable_0 a t p1).toArray s = true := fun w h => hts w (List.mem_cons_of_mem _ h)
  have hown : s.vm.findClass RX7 = some m.cls := hown
  have hl : lv_has ls 5 [(0, .ref (a 0)), (1, .int p1)] := hl
  unfold wp_X7_isMappable_0 at h
  refine lv_iload_n hx hb dX7_isMappable_0 rfl (lv_at hl 1 rfl) ?_
  refine lv_bipush (v := (24 : Int32)) hx hb dX7_isMappable_1 (by decide) ?_
  refine lv_iushr hx hb dX7_isMappable_3 rfl ?_
  refine lv_topi (fun x1 ex1 => ?_)
  have h := h x1 ex1
  refine lv_istore_n (lv' := [(2, .int x1), (0, .ref (a 0)), (1, .int p1)]) hx hb dX7_isMappable_4 rfl hl (by decide) rfl (fun ls hl => ?_)
  refine lv_iload_n hx hb dX7_isMappable_5 rfl (lv_at hl 2 rfl) ?_
  refine lv_bipush (v := (16 : Int32)) hx hb dX7_isMappable_6 (by decide) ?_
  refine lv_iushr hx hb dX7_isMappable_8 rfl ?_
  refine lv_sipush (v := (255 : Int32)) hx hb dX7_isMappable_9 (by decide) ?_
  refine lv_iand hx hb dX7_isMappable_12 ?_
  refine lv_topi (fun x2 ex2 => ?_)
  have h := h x2 ex2
  refine lv_istore_n (lv' := [(3, .int x2), (2, .int x1), (0, .ref (a 0)), (1, .int p1)]) hx hb dX7_isMappable_13 rfl hl (by decide) rfl (fun ls hl => ?_)
  refine lv_iload_n hx hb dX7_isMappable_14 rfl (lv_at hl 1 rfl) ?_
  refine lv_if_eq (tgt := 45) hx hb dX7_isMappable_15 (by decide) (fun c3 => ?_) (fun c3 => ?_)
  · have h := h.1 c3
    refine lv_iconst (v := (0 : Int32)) hx hb dX7_isMappable_45 (by decide) ?_
    exact rpzret (Z := (fun r M' L' => M' = M ∧ L' = L ∧ Z r)) hx hb hr hlocks hK hI dX7_isMappable_46 ⟨isB_0, ⟨rfl, rfl, h⟩⟩
  · have h := h.2 c3
    refine lv_iload_n hx hb dX7_isMappable_18 rfl (lv_at hl 1 rfl) ?_
    refine lv_bipush (v := (127 : Int32)) hx hb dX7_isMappable_19 (by decide) ?_
    refine lv_icmp_eq (tgt := 45) hx hb dX7_isMappable_21 (by decide) (fun c4 => ?_) (fun c4 => ?_)
    · have h := h.1 c4
      refine lv_iconst (v := (0 : Int32)) hx hb dX7_isMappable_45 (by decide) ?_
      exact rpzret (Z := (fun r M' L' => M' = M ∧ L' = L ∧ Z r)) hx hb hr hlocks hK hI dX7_isMappable_46 ⟨isB_0, ⟨rfl, rfl, h⟩⟩
    · have h := h.2 c4
      refine lv_iload_n hx hb dX7_isMappable_24 rfl (lv_at hl 1 rfl) ?_
      refine lv_sipush (v := (169 : Int32)) hx hb dX7_isMappable_25 (by decide) ?_
      obtain ⟨K38, hK38, h⟩ := h
      have J38 : ∀  (H : Heap) (locs : List Loc) (ls : Array Slot), K38  → rpI dC dI a kA (rpA a sz) s M L H locs → lv_has ls 5 [(0, .ref (a 0)), (2, .int x1), (3, .int x2)] → W p l e rm_X7_isMappable_0 s m (av_X7_isMappable_0 a t p1).toArray below meth c H locs 0 0 (MQ below (qc_X7_isMappable_0 dC dI a kA sz M L Z) (av_X7_isMappable_0 a t p1).toArray s 0 0 (rpA a sz)) (F0 m 38 ls []) := by
        intro  H locs ls h hI hl
        have h := hK38  h
        refine lv_iload_n hx hb dX7_isMappable_38 rfl (lv_at hl 1 rfl) ?_
        refine lv_sipush (v := (224 : Int32)) hx hb dX7_isMappable_39 (by decide) ?_
        refine lv_icmp_lt (tgt := 47) hx hb dX7_isMappable_42 (by decide) (fun c5 => ?_) (fun c5 => ?_)
        · have h := h.1 c5
          refine lv_aload_n hx hb dX7_isMappable_47 rfl (lv_at hl 0 rfl) ?_
          refine va_get (D := (dC, dI)) (ci := 6) (v := .int (M 0 5)) (C := RX7) (T := TX7) (N := 44) hx hb hu uX7 hown hK hI.1 0 rfl rfl 5 (by decide) (hu _ uww_541) (fun _ h9 => h9) rfl dX7_isMappable_48 ?_
          refine lv_bipush (v := (96 : Int32)) hx hb dX7_isMappable_51 (by decide) ?_
          obtain ⟨K81, hK81, h⟩ := h
          have J81 : ∀ (v6 : Int32) (H : Heap) (locs : List Loc) (ls : Array Slot), K81 v6 → rpI dC dI a kA (rpA a sz) s M L H locs → lv_has ls 5 [(2, .int x1), (3, .int x2)] → W p l e rm_X7_isMappable_0 s m (av_X7_isMappable_0 a t p1).toArray below meth c H locs 0 0 (MQ below (qc_X7_isMappable_0 dC dI a kA sz M L Z) (av_X7_isMappable_0 a t p1).toArray s 0 0 (rpA a sz)) (F0 m 81 ls [.int v6]) := by
            intro v6 H locs ls h hI hl
            have h := hK81 v6 h
            refine lv_istore (lv' := [(4, .int v6), (2, .int x1), (3, .int x2)]) hx hb dX7_isMappable_81 hl (by decide) rfl (fun ls hl => ?_)
            refine lv_iload hx hb dX7_isMappable_83 (lv_at hl 0 rfl) ?_
            refine lv_if_eq (tgt := 127) hx hb dX7_isMappable_85 (by decide) (fun c7 => ?_) (fun c7 => ?_)
            · have h := h.1 c7
              refine lv_iconst (v := (1 : Int32)) hx hb dX7_isMappable_127 (by decide) ?_
              refine lv_goto (tgt := 132) hx hb dX7_isMappable_128 (by decide) ?_
              exact rpzret (Z := (fun r M' L' => M' = M ∧ L' = L ∧ Z r)) hx hb hr hlocks hK hI dX7_isMappable_132 ⟨isB_1, ⟨rfl, rfl, h⟩⟩
            · have h := h.2 c7
              refine lv_iload_n hx hb dX7_isMappable_88 rfl (lv_at hl 1 rfl) ?_
              refine lv_bipush (v := (10 : Int32)) hx hb dX7_isMappable_89 (by decide) ?_
              refine lv_icmp_eq (tgt := 131) hx hb dX7_isMappable_91 (by decide) (fun c8 => ?_) (fun c8 => ?_)
              · have h := h.1 c8
                refine lv_iconst (v := (0 : Int32)) hx hb dX7_isMappable_131 (by decide) ?_
                exact rpzret (Z := (fun r M' L' => M' = M ∧ L' = L ∧ Z r)) hx hb hr hlocks hK hI dX7_isMappable_132 ⟨isB_0, ⟨rfl, rfl, h⟩⟩
              · have h := h.2 c8
                refine lv_iload_n hx hb dX7_isMappable_94 rfl (lv_at hl 1 rfl) ?_
                refine lv_sipush (v := (172 : Int32)) hx hb dX7_isMappable_95 (by decide) ?_
                obtain ⟨K113, hK113, h⟩ := h
                have J113 : ∀  (H : Heap) (locs : List Loc) (ls : Array Slot), K113  → rpI dC dI a kA (rpA a sz) s M L H locs → lv_has ls 5 [(2, .int x1), (3, .int x2)] → W p l e rm_X7_isMappable_0 s m (av_X7_isMappable_0 a t p1).toArray below meth c H locs 0 0 (MQ below (qc_X7_isMappable_0 dC dI a kA sz M L Z) (av_X7_isMappable_0 a t p1).toArray s 0 0 (rpA a sz)) (F0 m 113 ls []) := by
                  intro  H locs ls h hI hl
                  have h := hK113  h
                  refine lv_iload_n hx hb dX7_isMappable_113 rfl (lv_at hl 0 rfl) ?_
                  refine lv_sipush (v := (192 : Int32)) hx hb dX7_isMappable_114 (by decide) ?_
                  refine lv_icmp_ne (tgt := 127) hx hb dX7_isMappable_117 (by decide) (fun c9 => ?_) (fun c9 => ?_)
                  · have h := h.1 c9
                    refine lv_iconst (v := (1 : Int32)) hx hb dX7_isMappable_127 (by decide) ?_
                    refine lv_goto (tgt := 132) hx hb dX7_isMappable_128 (by decide) ?_
                    exact rpzret (Z := (fun r M' L' => M' = M ∧ L' = L ∧ Z r)) hx hb hr hlocks hK hI dX7_isMappable_132 ⟨isB_1, ⟨rfl, rfl, h⟩⟩
                  · have h := h.2 c9
                    refine lv_iload_n hx hb dX7_isMappable_120 rfl (lv_at hl 1 rfl) ?_
                    refine lv_sipush (v := (168 : Int32)) hx hb dX7_isMappable_121 (by decide) ?_
                    refine lv_icmp_eq (tgt := 131) hx hb dX7_isMappable_124 (by decide) (fun c10 => ?_) (fun c10 => ?_)
                    · have h := h.1 c10
                      refine lv_iconst (v := (0 : Int32)) hx hb dX7_isMappable_131 (by decide) ?_
                      exact rpzret (Z := (fun r M' L' => M' = M ∧ L' = L ∧ Z r)) hx hb hr hlocks hK hI dX7_isMappable_132 ⟨isB_0, ⟨rfl, rfl, h⟩⟩
                    · have h := h.2 c10
                      refine lv_iconst (v := (1 : Int32)) hx hb dX7_isMappable_127 (by decide) ?_
                      refine lv_goto (tgt := 132) hx hb dX7_isMappable_128 (by decide) ?_
                      exact rpzret (Z := (fun r M' L' => M' = M ∧ L' = L ∧ Z r)) hx hb hr hlocks hK hI dX7_isMappable_132 ⟨isB_1, ⟨rfl, rfl, h⟩⟩
                refine lv_icmp_ne (tgt := 113) hx hb dX7_isMappable_98 (by decide) (fun c11 => ?_) (fun c11 => ?_)
                · have h := h.1 c11
                  exact J113  _ _ _ h hI (lv_sub hl [1, 2] rfl)
                · have h := h.2 c11
                  refine lv_iload_n hx hb dX7_isMappable_101 rfl (lv_at hl 2 rfl) ?_
                  refine lv_bipush (v := (16 : Int32)) hx hb dX7_isMappable_102 (by decide) ?_
                  refine lv_icmp_lt (tgt := 113) hx hb dX7_isMappable_104 (by decide) (fun c12 => ?_) (fun c12 => ?_)
                  · have h := h.1 c12
                    exact J113  _ _ _ h hI (lv_sub hl [1, 2] rfl)
                  · have h := h.2 c12
                    refine lv_iload_n hx hb dX7_isMappable_107 rfl (lv_at hl 2 rfl) ?_
                    refine lv_bipush (v := (31 : Int32)) hx hb dX7_isMappable_108 (by decide) ?_
                    refine lv_icmp_le (tgt := 131) hx hb dX7_isMappable_110 (by decide) (fun c13 => ?_) (fun c13 => ?_)
                    · have h := h.1 c13
                      refine lv_iconst (v := (0 : Int32)) hx hb dX7_isMappable_131 (by decide) ?_
                      exact rpzret (Z := (fun r M' L' => M' = M ∧ L' = L ∧ Z r)) hx hb hr hlocks hK hI dX7_isMappable_132 ⟨isB_0, ⟨rfl, rfl, h⟩⟩
                    · have h := h.2 c13
                      exact J113  _ _ _ h hI (lv_sub hl [1, 2] rfl)
          obtain ⟨K80, hK80, h⟩ := h
          have J80 : ∀  (H : Heap) (locs : List Loc) (ls : Array Slot), K80  → rpI dC dI a kA (rpA a sz) s M L H locs → lv_has ls 5 [(2, .int x1), (3, .int x2)] → W p l e rm_X7_isMappable_0 s m (av_X7_isMappable_0 a t p1).toArray below meth c H locs 0 0 (MQ below (qc_X7_isMappable_0 dC dI a kA sz M L Z) (av_X7_isMappable_0 a t p1).toArray s 0 0 (rpA a sz)) (F0 m 80 ls []) := by
            intro  H locs ls h hI hl
            have h := hK80  h
            refine lv_iconst (v := (0 : Int32)) hx hb dX7_isMappable_80 (by decide) ?_
            exact J81 (0 : Int32) _ _ _ h hI (lv_sub hl [0, 1] rfl)
          refine lv_icmp_ne (tgt := 80) hx hb dX7_isMappable_53 (by decide) (fun c14 => ?_) (fun c14 => ?_)
          · have h := h.1 c14
            exact J80  _ _ _ h hI (lv_sub hl [1, 2] rfl)
          · have h := h.2 c14
            refine lv_aload_n hx hb dX7_isMappable_56 rfl (lv_at hl 0 rfl) ?_
            refine va_get (D := (dC, dI)) (ci := 6) (v := .long (L 0 3)) (C := RX7) (T := TX7) (N := 44) hx hb hu uX7 hown hK hI.1 0 rfl rfl 3 (by decide) (hu _ uww_540) (fun _ h9 => h9) rfl dX7_isMappable_57 ?_
            refine lv_ldc2 (own := RX7) (v := (28428538856079360 : Int64)) hx hb hown (hu _ uww_539) dX7_isMappable_60 ?_
            refine W.lcmp hx hb dX7_isMappable_63 ?_
            refine lv_if_ne (tgt := 80) hx hb dX7_isMappable_64 (by decide) (fun c15 => ?_) (fun c15 => ?_)
            · have h := h.1 c15
              exact J80  _ _ _ h hI (lv_sub hl [1, 2] rfl)
            · have h := h.2 c15
              refine lv_aload_n hx hb dX7_isMappable_67 rfl (lv_at hl 0 rfl) ?_
              refine va_get (D := (dC, dI)) (ci := 6) (v := .long (L 0 4)) (C := RX7) (T := TX7) (N := 44) hx hb hu uX7 hown hK hI.1 0 rfl rfl 4 (by decide) (hu _ uww_567) (fun _ h9 => h9) rfl dX7_isMappable_68 ?_
              refine lv_lconst (v := (0 : Int64)) hx hb dX7_isMappable_71 (by decide) ?_
              refine W.lcmp hx hb dX7_isMappable_72 ?_
              refine lv_if_ne (tgt := 80) hx hb dX7_isMappable_73 (by decide) (fun c16 => ?_) (fun c16 => ?_)
              · have h := h.1 c16
                exact J80  _ _ _ h hI (lv_sub hl [1, 2] rfl)
              · have h := h.2 c16
                refine lv_iconst (v := (1 : Int32)) hx hb dX7_isMappable_76 (by decide) ?_
                refine lv_goto (tgt := 81) hx hb dX7_isMappable_77 (by decide) ?_
                exact J81 (1 : Int32) _ _ _ h hI (lv_sub hl [1, 2] rfl)
        · have h := h.2 c5
          refine lv_iconst (v := (0 : Int32)) hx hb dX7_isMappable_45 (by decide) ?_
          exact rpzret (Z := (fun r M' L' => M' = M ∧ L' = L ∧ Z r)) hx hb hr hlocks hK hI dX7_isMappable_46 ⟨isB_0, ⟨rfl, rfl, h⟩⟩
      refine lv_icmp_ne (tgt := 38) hx hb dX7_isMappable_28 (by decide) (fun c17 => ?_) (fun c17 => ?_)
      · have h := h.1 c17
        exact J38  _ _ _ h hI (lv_sub hl [2, 1, 0] rfl)
      · have h := h.2 c17
        refine lv_iload_n hx hb dX7_isMappable_31 rfl (lv_at hl 0 rfl) ?_
        refine lv_sipush (v := (254 : Int32)) hx hb dX7_isMappable_32 (by decide) ?_
        refine lv_icmp_eq (tgt := 45) hx hb dX7_isMappable_35 (by decide) (fun c18 => ?_) (fun c18 => ?_)
        · have h := h.1 c18
          refine lv_iconst (v := (0 : Int32)) hx hb dX7_isMappable_45 (by decide) ?_
          exact rpzret (Z := (fun r M' L' => M' = M ∧ L' = L ∧ Z r)) hx hb hr hlocks hK hI dX7_isMappable_46 ⟨isB_0, ⟨rfl, rfl, h⟩⟩
        · have h := h.2 c18
          exact J38  _ _ _ h hI (lv_sub hl [2, 1, 0] rfl)

abbrev rm_X7_makeImage_0 : Room := { frames := 0, cells := 0, slots := 0, locals := 0 }
abbrev av_X7_makeImage_0 (a t : Nat → Nat) (p1 : Int32) : List Value := [.ref (a 0), .int p1]
abbrev qc_X7_makeImage_0 (dC : Nat → ClassId) (dI : Nat → Nat → Nat) (a : Nat → Nat) (kA : Nat → ClassId) (sz : Nat) (M : cM) (L : cL) (Z : cL → Prop) : Array Value → State → Outcome → State → Prop := va_Qv (fun (u : cM × cL) => u.1 = M ∧ Z u.2) (rpAt dC dI a kA (rpA a sz)) (rpA a sz)
set_option maxHeartbeats 4000000 in
set_option maxRecDepth 100000 in
theorem met_X7_makeImage_0 (l : Launch) (dC : Nat → ClassId) (dI : Nat → Nat → Nat) (a : Nat → Nat) (kA : Nat → ClassId) (t : Nat → Nat) (sz : Nat) (M : cM) (L : cL) (p1 : Int32) (Z : cL → Prop) (h : wp_X7_makeImage_0 M L p1 Z) : Met l yX7_makeImage (Cond.code yX7_makeImage cX7_makeImage 6 none :: uW) rm_X7_makeImage_0 (va_Pc (av_X7_makeImage_0 a t p1) (rpPre dC dI a kA t M L sz)) (qc_X7_makeImage_0 dC dI a kA sz M L Z) 0 0 (rpA a sz) := by
  refine rpenter (cc := cX7_makeImage) (n := 6) (ret := none) (by decide) rfl (Nat.le_of_ble_eq_true rfl) ?_
  intro p e s m below meth c ls hx hb hml hr hlocks hown hts hK hE hsz hI hl hmn
  have hu : ∀ w ∈ uW, w.before (av_X7_makeImage_0 a t p1).toArray s = true := fun w h => hts w (List.mem_cons_of_mem _ h)
  have hown : s.vm.findClass RX7 = some m.cls := hown
  have hl : lv_has ls 6 [(0, .ref (a 0)), (1, .int p1)] := hl
  unfold wp_X7_makeImage_0 at h
  refine lv_aload_n hx hb dX7_makeImage_0 rfl (lv_at hl 0 rfl) ?_
  refine lv_aload_n hx hb dX7_makeImage_1 rfl (lv_at hl 0 rfl) ?_
  refine va_get (D := (dC, dI)) (ci := 6) (v := .long (L 0 3)) (C := RX7) (T := TX7) (N := 44) hx hb hu uX7 hown hK hI.1 0 rfl rfl 3 (by decide) (hu _ uww_540) (fun _ h9 => h9) rfl dX7_makeImage_2 ?_
  refine rpputl (ci := 6) (C := RX7) (T := TX7) (N := 44) (ty := .long) hx hb hu uX7 tyX7 tyX7_ok nmX7 hown hK hI 0 rfl rfl 15 (by decide) (hu _ uww_575) (fun _ h9 => h9) rfl (by decide +kernel) rfl rfl (Nat.le_of_ble_eq_true rfl) (rpset_0_15 _ _ _ _ _) dX7_makeImage_5 (fun H locs L1 eL1 hI => ?_)
  have h := h L1 eL1
  refine lv_aload_n hx hb dX7_makeImage_8 rfl (lv_at hl 0 rfl) ?_
  refine lv_aload_n hx hb dX7_makeImage_9 rfl (lv_at hl 0 rfl) ?_
  refine va_get (D := (dC, dI)) (ci := 6) (v := .long (L1 0 4)) (C := RX7) (T := TX7) (N := 44) hx hb hu uX7 hown hK hI.1 0 rfl rfl 4 (by decide) (hu _ uww_567) (fun _ h9 => h9) rfl dX7_makeImage_10 ?_
  refine rpputl (ci := 6) (C := RX7) (T := TX7) (N := 44) (ty := .long) hx hb hu uX7 tyX7 tyX7_ok nmX7 hown hK hI 0 rfl rfl 16 (by decide) (hu _ uww_576) (fun _ h9 => h9) rfl (by decide +kernel) rfl rfl (Nat.le_of_ble_eq_true rfl) (rpset_0_16 _ _ _ _ _) dX7_makeImage_13 (fun H locs L2 eL2 hI => ?_)
  have h := h L2 eL2
  refine lv_aload_n hx hb dX7_makeImage_16 rfl (lv_at hl 0 rfl) ?_
  refine va_get (D := (dC, dI)) (ci := 6) (v := .int (M 0 5)) (C := RX7) (T := TX7) (N := 44) hx hb hu uX7 hown hK hI.1 0 rfl rfl 5 (by decide) (hu _ uww_541) (fun _ h9 => h9) rfl dX7_makeImage_17 ?_
  refine lv_topi (fun x3 ex3 => ?_)
  have h := h x3 ex3
  refine lv_istore_n (lv' := [(2, .int x3), (0, .ref (a 0)), (1, .int p1)]) hx hb dX7_makeImage_20 rfl hl (by decide) rfl (fun ls hl => ?_)
  refine lv_bipush (v := (31 : Int32)) hx hb dX7_makeImage_21 (by decide) ?_
  refine lv_istore_n (lv' := [(3, .int (31 : Int32)), (2, .int x3), (0, .ref (a 0)), (1, .int p1)]) hx hb dX7_makeImage_23 rfl hl (by decide) rfl (fun ls hl => ?_)
  obtain ⟨I24, m24, h, hs24⟩ := h
  have P24 : ∀ (n24 : Nat) (x4 : Int32) (x5 : Int32) (L6 : cL) (H : Heap) (locs : List Loc) (ls : Array Slot), I24 x4 x5 L6 → m24 x4 x5 L6 < n24 → rpI dC dI a kA (rpA a sz) s M L6 H locs → lv_has ls 6 [(0, .ref (a 0)), (1, .int p1), (2, .int x4), (3, .int x5)] → W p l e rm_X7_makeImage_0 s m (av_X7_makeImage_0 a t p1).toArray below meth c H locs 0 0 (MQ below (qc_X7_makeImage_0 dC dI a kA sz M L Z) (av_X7_makeImage_0 a t p1).toArray s 0 0 (rpA a sz)) (F0 m 24 ls []) := by
    intro n24
    induction n24 with
    | zero => intro x4 x5 L6 H locs ls _ hn; exact absurd hn (Nat.not_lt_zero _)
    | succ n24 ih24 =>
      intro x4 x5 L6 H locs ls h hn24 hI hl
      have h := hs24 x4 x5 L6 h
      refine lv_iload_n hx hb dX7_makeImage_24 rfl (lv_at hl 3 rfl) ?_
      refine lv_if_lt (tgt := 95) hx hb dX7_makeImage_25 (by decide) (fun c7 => ?_) (fun c7 => ?_)
      · have h := h.1 c7
        exact rpvret (Z := (fun M' L' => M' = M ∧ Z L')) hx hb hr hlocks hK hI dX7_makeImage_95 ⟨rfl, h⟩
      · have h := h.2 c7
        refine lv_iload_n hx hb dX7_makeImage_28 rfl (lv_at hl 2 rfl) ?_
        refine lv_bipush (v := (64 : Int32)) hx hb dX7_makeImage_29 (by decide) ?_
        obtain ⟨K37, hK37, h⟩ := h
        have J37 : ∀ (x8 : Int32) (H : Heap) (locs : List Loc) (ls : Array Slot), K37 x8 → rpI dC dI a kA (rpA a sz) s M L6 H locs → lv_has ls 6 [(0, .ref (a 0)), (1, .int p1), (2, .int x8), (3, .int x5)] → W p l e rm_X7_makeImage_0 s m (av_X7_makeImage_0 a t p1).toArray below meth c H locs 0 0 (MQ below (qc_X7_makeImage_0 dC dI a kA sz M L Z) (av_X7_makeImage_0 a t p1).toArray s 0 0 (rpA a sz)) (F0 m 37 ls []) := by
          intro x8 H locs ls h hI hl
          have h := hK37 x8 h
          refine lv_iload_n hx hb dX7_makeImage_37 rfl (lv_at hl 1 rfl) ?_
          refine lv_iload_n hx hb dX7_makeImage_38 rfl (lv_at hl 3 rfl) ?_
          refine lv_iushr hx hb dX7_makeImage_39 rfl ?_
          refine lv_iconst (v := (1 : Int32)) hx hb dX7_makeImage_40 (by decide) ?_
          refine lv_iand hx hb dX7_makeImage_41 ?_
          refine lv_i2l hx hb dX7_makeImage_42 rfl ?_
          refine lv_topl (fun x9 ex9 => ?_)
          have h := h x9 ex9
          refine lv_lstore (lv' := [(4, .long x9), (0, .ref (a 0)), (1, .int p1), (2, .int x8), (3, .int x5)]) hx hb dX7_makeImage_43 hl (by decide) rfl (fun ls hl => ?_)
          refine lv_iload_n hx hb dX7_makeImage_45 rfl (lv_at hl 3 rfl) ?_
          refine lv_bipush (v := (64 : Int32)) hx hb dX7_makeImage_46 (by decide) ?_
          obtain ⟨K86, hK86, h⟩ := h
          have J86 : ∀ (L10 : cL) (H : Heap) (locs : List Loc) (ls : Array Slot), K86 L10 → rpI dC dI a kA (rpA a sz) s M L10 H locs → lv_has ls 6 [(0, .ref (a 0)), (1, .int p1), (2, .int x8), (3, .int x5)] → W p l e rm_X7_makeImage_0 s m (av_X7_makeImage_0 a t p1).toArray below meth c H locs 0 0 (MQ below (qc_X7_makeImage_0 dC dI a kA sz M L Z) (av_X7_makeImage_0 a t p1).toArray s 0 0 (rpA a sz)) (F0 m 86 ls []) := by
            intro L10 H locs ls h hI hl
            have h := hK86 L10 h
            obtain ⟨x11, ex11⟩ : ∃ y : Int32, y = (x8 + (1 : Int32)) := ⟨_, rfl⟩
            have h := h x11 ex11
            refine lv_iinc (v := x11) (lv' := [(2, .int x11), (0, .ref (a 0)), (1, .int p1), (3, .int x5)]) hx hb dX7_makeImage_86 hl (k := 2) rfl (by rw [ex11]; rfl) (by decide) rfl (fun ls hl => ?_)
            obtain ⟨x12, ex12⟩ : ∃ y : Int32, y = (x5 + (-1 : Int32)) := ⟨_, rfl⟩
            have h := h x12 ex12
            refine lv_iinc (v := x12) (lv' := [(3, .int x12), (2, .int x11), (0, .ref (a 0)), (1, .int p1)]) hx hb dX7_makeImage_89 hl (k := 3) rfl (by rw [ex12]; rfl) (by decide) rfl (fun ls hl => ?_)
            refine lv_goto (tgt := 24) hx hb dX7_makeImage_92 (by decide) ?_
            exact ih24 x11 x12 L10 _ _ _ h.1 (Nat.lt_of_lt_of_le h.2 (Nat.le_of_lt_succ hn24)) hI (lv_sub hl [2, 3, 1, 0] rfl)
          refine lv_icmp_ge (tgt := 70) hx hb dX7_makeImage_48 (by decide) (fun c13 => ?_) (fun c13 => ?_)
          · have h := h.1 c13
            refine lv_aload_n hx hb dX7_makeImage_70 rfl (lv_at hl 1 rfl) ?_
            refine lv_dup hx hb dX7_makeImage_71 rfl ?_
            refine va_get (D := (dC, dI)) (ci := 6) (v := .long (L6 0 16)) (C := RX7) (T := TX7) (N := 44) hx hb hu uX7 hown hK hI.1 0 rfl rfl 16 (by decide) (hu _ uww_576) (fun _ h9 => h9) rfl dX7_makeImage_72 ?_
            refine lv_lload hx hb dX7_makeImage_75 (lv_at hl 0 rfl) ?_
            refine lv_bipush (v := (127 : Int32)) hx hb dX7_makeImage_77 (by decide) ?_
            refine lv_iload_n hx hb dX7_makeImage_79 rfl (lv_at hl 3 rfl) ?_
            refine lv_isub hx hb dX7_makeImage_80 ?_
            refine lv_lshl hx hb dX7_makeImage_81 rfl ?_
            refine lv_lor hx hb dX7_makeImage_82 ?_
            refine rpputl (ci := 6) (C := RX7) (T := TX7) (N := 44) (ty := .long) hx hb hu uX7 tyX7 tyX7_ok nmX7 hown hK hI 0 rfl rfl 16 (by decide) (hu _ uww_576) (fun _ h9 => h9) rfl (by decide +kernel) rfl rfl (Nat.le_of_ble_eq_true rfl) (rpset_0_16 _ _ _ _ _) dX7_makeImage_83 (fun H locs L14 eL14 hI => ?_)
            have h := h L14 eL14
            exact J86 L14 _ _ _ h hI (lv_sub hl [1, 2, 3, 4] rfl)
          · have h := h.2 c13
            refine lv_aload_n hx hb dX7_makeImage_51 rfl (lv_at hl 1 rfl) ?_
            refine lv_dup hx hb dX7_makeImage_52 rfl ?_
            refine va_get (D := (dC, dI)) (ci := 6) (v := .long (L6 0 15)) (C := RX7) (T := TX7) (N := 44) hx hb hu uX7 hown hK hI.1 0 rfl rfl 15 (by decide) (hu _ uww_575) (fun _ h9 => h9) rfl dX7_makeImage_53 ?_
            refine lv_lload hx hb dX7_makeImage_56 (lv_at hl 0 rfl) ?_
            refine lv_bipush (v := (63 : Int32)) hx hb dX7_makeImage_58 (by decide) ?_
            refine lv_iload_n hx hb dX7_makeImage_60 rfl (lv_at hl 3 rfl) ?_
            refine lv_isub hx hb dX7_makeImage_61 ?_
            refine lv_lshl hx hb dX7_makeImage_62 rfl ?_
            refine lv_lor hx hb dX7_makeImage_63 ?_
            refine rpputl (ci := 6) (C := RX7) (T := TX7) (N := 44) (ty := .long) hx hb hu uX7 tyX7 tyX7_ok nmX7 hown hK hI 0 rfl rfl 15 (by decide) (hu _ uww_575) (fun _ h9 => h9) rfl (by decide +kernel) rfl rfl (Nat.le_of_ble_eq_true rfl) (rpset_0_15 _ _ _ _ _) dX7_makeImage_64 (fun H locs L15 eL15 hI => ?_)
            have h := h L15 eL15
            refine lv_goto (tgt := 86) hx hb dX7_makeImage_67 (by decide) ?_
            exact J86 L15 _ _ _ h hI (lv_sub hl [1, 2, 3, 4] rfl)
        refine lv_icmp_ne (tgt := 37) hx hb dX7_makeImage_31 (by decide) (fun c16 => ?_) (fun c16 => ?_)
        · have h := h.1 c16
          exact J37 x4 _ _ _ h hI (lv_sub hl [0, 1, 2, 3] rfl)
        · have h := h.2 c16
          refine lv_bipush (v := (72 : Int32)) hx hb dX7_makeImage_34 (by decide) ?_
          refine lv_istore_n (lv' := [(2, .int (72 : Int32)), (0, .ref (a 0)), (1, .int p1), (3, .int x5)]) hx hb dX7_makeImage_36 rfl hl (by decide) rfl (fun ls hl => ?_)
          exact J37 (72 : Int32) _ _ _ h hI (lv_sub hl [1, 2, 0, 3] rfl)
  exact P24 (m24 x3 (31 : Int32) L2 + 1) x3 (31 : Int32) L2 _ _ _ h (Nat.lt_succ_self _) hI (lv_sub hl [2, 3, 1, 0] rfl)

abbrev rm_X7_image_0 : Room := { frames := 1, cells := 0, slots := 0, locals := 25 }
abbrev av_X7_image_0 (a t : Nat → Nat) (p1 : Int32) (p2 : Int32) : List Value := [.ref (a 0), .int p1, .int p2]
abbrev qc_X7_image_0 (dC : Nat → ClassId) (dI : Nat → Nat → Nat) (a : Nat → Nat) (kA : Nat → ClassId) (sz : Nat) (M : cM) (L : cL) (Z : Int64 → cM → cL → Prop) : Array Value → State → Outcome → State → Prop := va_Ql (fun r (u : cM × cL) => Z r u.1 u.2) (rpAt dC dI a kA (rpA a sz)) (rpA a sz)
set_option maxHeartbeats 4000000 in
set_option maxRecDepth 100000 in
theorem met_X7_image_0 (l : Launch) (dC : Nat → ClassId) (dI : Nat → Nat → Nat) (a : Nat → Nat) (kA : Nat → ClassId) (t : Nat → Nat) (sz : Nat) (M : cM) (L : cL) (p1 : Int32) (p2 : Int32) (Z : Int64 → cM → cL → Prop) (h : wp_X7_image_0 M L p1 p2 Z) : Met l yX7_image (Cond.code yX7_image cX7_image 3 (some .long) :: uW) rm_X7_image_0 (va_Pc (av_X7_image_0 a t p1 p2) (rpPre dC dI a kA t M L sz)) (qc_X7_image_0 dC dI a kA sz M L Z) 0 0 (rpA a sz) := by
  refine rpenter (cc := cX7_image) (n := 3) (ret := (some .long)) (by decide) rfl (Nat.le_of_ble_eq_true rfl) ?_
  intro p e s m below meth c ls hx hb hml hr hlocks hown hts hK hE hsz hI hl hmn
  have hu : ∀ w ∈ uW, w.before (av_X7_image_0 a t p1 p2).toArray s = true := fun w h => hts w (List.mem_cons_of_mem _ h)
  have hown : s.vm.findClass RX7 = some m.cls := hown
  have hl : lv_has ls 3 [(0, .ref (a 0)), (1, .int p1), (2, .int p2)] := hl
  unfold wp_X7_image_0 at h
  refine lv_aload_n hx hb dX7_image_0 rfl (lv_at hl 0 rfl) ?_
  refine lv_iconst (v := (0 : Int32)) hx hb dX7_image_1 (by decide) ?_
  refine rpput (ci := 6) (C := RX7) (T := TX7) (N := 44) (ty := .int) hx hb hu uX7 tyX7 tyX7_ok nmX7 hown hK hI 0 rfl rfl 0 (by decide) (hu _ uww_556) (fun _ h9 => h9) rfl (by decide +kernel) rfl rfl (Nat.le_of_ble_eq_true rfl) (rpset_0_0 _ _ _ _ _) dX7_image_2 (fun H locs M1 eM1 hI => ?_)
  have h := h M1 eM1
  refine lv_aload_n hx hb dX7_image_5 rfl (lv_at hl 0 rfl) ?_
  refine lv_iload_n hx hb dX7_image_6 rfl (lv_at hl 1 rfl) ?_
  refine rpcalli_p hsz hI (va_runV (As := [.int p1]) (rest := []) ⟨hx, hb, hml, hown, hu⟩ (met_X7_isMappable_0 l dC dI a kA t _ M1 L p1 _ h) (cwl_X7_90_X7 hu ⟨by decide, by decide⟩) (rppre (ci := 6) hK hE hsz hI rfl rfl) rfl rfl hl.1 rfl (lv_room (Nat.le_of_ble_eq_true rfl)) dX7_image_7 ⟨by decide, by decide⟩) (fun r2 H locs h hI => ?_)
  refine lv_if_ne (tgt := 15) hx hb dX7_image_10 (by decide) (fun c3 => ?_) (fun c3 => ?_)
  · have h := h.1 c3
    refine lv_aload_n hx hb dX7_image_15 rfl (lv_at hl 0 rfl) ?_
    refine lv_iload_n hx hb dX7_image_16 rfl (lv_at hl 1 rfl) ?_
    refine rpcallv_l hsz hI (va_runV (As := [.int p1]) (rest := []) ⟨hx, hb, hml, hown, hu⟩ (met_X7_makeImage_0 l dC dI a kA t _ M1 L p1 _ h) (cwl_X7_87_X7 hu ⟨by decide, by decide⟩) (rppre (ci := 6) hK hE hsz hI rfl rfl) rfl rfl hl.1 rfl (lv_room (Nat.le_of_ble_eq_true rfl)) dX7_image_17 ⟨by decide, by decide⟩) (fun L4 H locs h hI => ?_)
    refine lv_iload_n hx hb dX7_image_20 rfl (lv_at hl 2 rfl) ?_
    refine lv_if_eq (tgt := 31) hx hb dX7_image_21 (by decide) (fun c5 => ?_) (fun c5 => ?_)
    · have h := h.1 c5
      refine lv_aload_n hx hb dX7_image_31 rfl (lv_at hl 0 rfl) ?_
      refine va_get (D := (dC, dI)) (ci := 6) (v := .long (L4 0 15)) (C := RX7) (T := TX7) (N := 44) hx hb hu uX7 hown hK hI.1 0 rfl rfl 15 (by decide) (hu _ uww_575) (fun _ h9 => h9) rfl dX7_image_32 ?_
      exact rplret (Z := (fun r M' L' => Z r M' L')) hx hb hr hlocks hK hI dX7_image_35 h
    · have h := h.2 c5
      refine lv_aload_n hx hb dX7_image_24 rfl (lv_at hl 0 rfl) ?_
      refine va_get (D := (dC, dI)) (ci := 6) (v := .long (L4 0 16)) (C := RX7) (T := TX7) (N := 44) hx hb hu uX7 hown hK hI.1 0 rfl rfl 16 (by decide) (hu _ uww_576) (fun _ h9 => h9) rfl dX7_image_25 ?_
      refine lv_goto (tgt := 35) hx hb dX7_image_28 (by decide) ?_
      exact rplret (Z := (fun r M' L' => Z r M' L')) hx hb hr hlocks hK hI dX7_image_35 h
  · have h := h.2 c3
    refine lv_lconst (v := (0 : Int64)) hx hb dX7_image_13 (by decide) ?_
    exact rplret (Z := (fun r M' L' => Z r M' L')) hx hb hr hlocks hK hI dX7_image_14 h

abbrev rm_X7_isImage_0 : Room := { frames := 1, cells := 0, slots := 0, locals := 25 }
abbrev av_X7_isImage_0 (a t : Nat → Nat) (p1 : Int64) (p3 : Int64) : List Value := [.ref (a 0), .long p1, .long p3]
abbrev qc_X7_isImage_0 (dC : Nat → ClassId) (dI : Nat → Nat → Nat) (a : Nat → Nat) (kA : Nat → ClassId) (sz : Nat) (M : cM) (L : cL) (Z : Int32 → cM → cL → Prop) : Array Value → State → Outcome → State → Prop := va_Qi (fun r (u : cM × cL) => Z r u.1 u.2) (rpAt dC dI a kA (rpA a sz)) (rpA a sz)
set_option maxHeartbeats 4000000 in
set_option maxRecDepth 100000 in
theorem met_X7_isImage_0 (l : Launch) (dC : Nat → ClassId) (dI : Nat → Nat → Nat) (a : Nat → Nat) (kA : Nat → ClassId) (t : Nat → Nat) (sz : Nat) (M : cM) (L : cL) (p1 : Int64) (p3 : Int64) (Z : Int32 → cM → cL → Prop) (h : wp_X7_isImage_0 M L p1 p3 Z) : Met l yX7_isImage (Cond.code yX7_isImage cX7_isImage 8 (some .boolean) :: uW) rm_X7_isImage_0 (va_Pc (av_X7_isImage_0 a t p1 p3) (rpPre dC dI a kA t M L sz)) (qc_X7_isImage_0 dC dI a kA sz M L Z) 0 0 (rpA a sz) := by
  refine rpenter (cc := cX7_isImage) (n := 8) (ret := (some .boolean)) (by decide) rfl (Nat.le_of_ble_eq_true rfl) ?_
  intro p e s m below meth c ls hx hb hml hr hlocks hown hts hK hE hsz hI hl hmn
  have hu : ∀ w ∈ uW, w.before (av_X7_isImage_0 a t p1 p3).toArray s = true := fun w h => hts w (List.mem_cons_of_mem _ h)
  have hown : s.vm.findClass RX7 = some m.cls := hown
  have hl : lv_has ls 8 [(0, .ref (a 0)), (1, .long p1), (3, .long p3)] := hl
  unfold wp_X7_isImage_0 at h
  refine lv_iconst (v := (0 : Int32)) hx hb dX7_isImage_0 (by decide) ?_
  refine lv_istore (lv' := [(5, .int (0 : Int32)), (0, .ref (a 0)), (1, .long p1), (3, .long p3)]) hx hb dX7_isImage_1 hl (by decide) rfl (fun ls hl => ?_)
  refine lv_aload_n hx hb dX7_isImage_3 rfl (lv_at hl 1 rfl) ?_
  refine va_get (D := (dC, dI)) (ci := 6) (v := .int (M 0 5)) (C := RX7) (T := TX7) (N := 44) hx hb hu uX7 hown hK hI.1 0 rfl rfl 5 (by decide) (hu _ uww_541) (fun _ h9 => h9) rfl dX7_isImage_4 ?_
  refine lv_topi (fun x1 ex1 => ?_)
  have h := h x1 ex1
  refine lv_istore (lv' := [(6, .int x1), (5, .int (0 : Int32)), (0, .ref (a 0)), (1, .long p1), (3, .long p3)]) hx hb dX7_isImage_7 hl (by decide) rfl (fun ls hl => ?_)
  refine lv_bipush (v := (31 : Int32)) hx hb dX7_isImage_9 (by decide) ?_
  refine lv_istore (lv' := [(7, .int (31 : Int32)), (6, .int x1), (5, .int (0 : Int32)), (0, .ref (a 0)), (1, .long p1), (3, .long p3)]) hx hb dX7_isImage_11 hl (by decide) rfl (fun ls hl => ?_)
  obtain ⟨I13, m13, h, hs13⟩ := h
  have P13 : ∀ (n13 : Nat) (x2 : Int32) (x3 : Int32) (x4 : Int32) (H : Heap) (locs : List Loc) (ls : Array Slot), I13 x2 x3 x4 → m13 x2 x3 x4 < n13 → rpI dC dI a kA (rpA a sz) s M L H locs → lv_has ls 8 [(0, .ref (a 0)), (1, .long p1), (3, .long p3), (5, .int x2), (6, .int x3), (7, .int x4)] → W p l e rm_X7_isImage_0 s m (av_X7_isImage_0 a t p1 p3).toArray below meth c H locs 0 0 (MQ below (qc_X7_isImage_0 dC dI a kA sz M L Z) (av_X7_isImage_0 a t p1 p3).toArray s 0 0 (rpA a sz)) (F0 m 13 ls []) := by
    intro n13
    induction n13 with
    | zero => intro x2 x3 x4 H locs ls _ hn; exact absurd hn (Nat.not_lt_zero _)
    | succ n13 ih13 =>
      intro x2 x3 x4 H locs ls h hn13 hI hl
      have h := hs13 x2 x3 x4 h
      refine lv_iload hx hb dX7_isImage_13 (lv_at hl 5 rfl) ?_
      refine lv_if_lt (tgt := 53) hx hb dX7_isImage_15 (by decide) (fun c5 => ?_) (fun c5 => ?_)
      · have h := h.1 c5
        refine lv_aload_n hx hb dX7_isImage_53 rfl (lv_at hl 0 rfl) ?_
        refine lv_iload hx hb dX7_isImage_54 (lv_at hl 3 rfl) ?_
        refine rpput (ci := 6) (C := RX7) (T := TX7) (N := 44) (ty := .int) hx hb hu uX7 tyX7 tyX7_ok nmX7 hown hK hI 0 rfl rfl 17 (by decide) (hu _ uww_578) (fun _ h9 => h9) rfl (by decide +kernel) rfl rfl (Nat.le_of_ble_eq_true rfl) (rpset_0_17 _ _ _ _ _) dX7_isImage_56 (fun H locs M6 eM6 hI => ?_)
        have h := h M6 eM6
        refine lv_aload_n hx hb dX7_isImage_59 rfl (lv_at hl 0 rfl) ?_
        refine lv_iload hx hb dX7_isImage_60 (lv_at hl 3 rfl) ?_
        refine rpcallv_l hsz hI (va_runV (As := [.int x2]) (rest := []) ⟨hx, hb, hml, hown, hu⟩ (met_X7_makeImage_0 l dC dI a kA t _ M6 L x2 _ h) (cwl_X7_87_X7 hu ⟨by decide, by decide⟩) (rppre (ci := 6) hK hE hsz hI rfl rfl) rfl rfl hl.1 rfl (lv_room (Nat.le_of_ble_eq_true rfl)) dX7_isImage_62 ⟨by decide, by decide⟩) (fun L7 H locs h hI => ?_)
        refine lv_aload_n hx hb dX7_isImage_65 rfl (lv_at hl 0 rfl) ?_
        refine va_get (D := (dC, dI)) (ci := 6) (v := .long (L7 0 15)) (C := RX7) (T := TX7) (N := 44) hx hb hu uX7 hown hK hI.1 0 rfl rfl 15 (by decide) (hu _ uww_575) (fun _ h9 => h9) rfl dX7_isImage_66 ?_
        refine lv_lload_n hx hb dX7_isImage_69 rfl (lv_at hl 1 rfl) ?_
        refine W.lcmp hx hb dX7_isImage_70 ?_
        refine lv_if_ne (tgt := 96) hx hb dX7_isImage_71 (by decide) (fun c8 => ?_) (fun c8 => ?_)
        · have h := h.1 c8
          refine lv_iconst (v := (0 : Int32)) hx hb dX7_isImage_96 (by decide) ?_
          exact rpzret (Z := (fun r M' L' => Z r M' L')) hx hb hr hlocks hK hI dX7_isImage_97 ⟨isB_0, h⟩
        · have h := h.2 c8
          refine lv_aload_n hx hb dX7_isImage_74 rfl (lv_at hl 0 rfl) ?_
          refine va_get (D := (dC, dI)) (ci := 6) (v := .long (L7 0 16)) (C := RX7) (T := TX7) (N := 44) hx hb hu uX7 hown hK hI.1 0 rfl rfl 16 (by decide) (hu _ uww_576) (fun _ h9 => h9) rfl dX7_isImage_75 ?_
          refine lv_lload_n hx hb dX7_isImage_78 rfl (lv_at hl 2 rfl) ?_
          refine W.lcmp hx hb dX7_isImage_79 ?_
          refine lv_if_ne (tgt := 96) hx hb dX7_isImage_80 (by decide) (fun c9 => ?_) (fun c9 => ?_)
          · have h := h.1 c9
            refine lv_iconst (v := (0 : Int32)) hx hb dX7_isImage_96 (by decide) ?_
            exact rpzret (Z := (fun r M' L' => Z r M' L')) hx hb hr hlocks hK hI dX7_isImage_97 ⟨isB_0, h⟩
          · have h := h.2 c9
            refine lv_aload_n hx hb dX7_isImage_83 rfl (lv_at hl 0 rfl) ?_
            refine lv_iload hx hb dX7_isImage_84 (lv_at hl 3 rfl) ?_
            refine rpcalli_p hsz hI (va_runV (As := [.int x2]) (rest := []) ⟨hx, hb, hml, hown, hu⟩ (met_X7_isMappable_0 l dC dI a kA t _ M6 L7 x2 _ h) (cwl_X7_90_X7 hu ⟨by decide, by decide⟩) (rppre (ci := 6) hK hE hsz hI rfl rfl) rfl rfl hl.1 rfl (lv_room (Nat.le_of_ble_eq_true rfl)) dX7_isImage_86 ⟨by decide, by decide⟩) (fun r10 H locs h hI => ?_)
            refine lv_if_eq (tgt := 96) hx hb dX7_isImage_89 (by decide) (fun c11 => ?_) (fun c11 => ?_)
            · have h := h.1 c11
              refine lv_iconst (v := (0 : Int32)) hx hb dX7_isImage_96 (by decide) ?_
              exact rpzret (Z := (fun r M' L' => Z r M' L')) hx hb hr hlocks hK hI dX7_isImage_97 ⟨isB_0, h⟩
            · have h := h.2 c11
              refine lv_iconst (v := (1 : Int32)) hx hb dX7_isImage_92 (by decide) ?_
              refine lv_goto (tgt := 97) hx hb dX7_isImage_93 (by decide) ?_
              exact rpzret (Z := (fun r M' L' => Z r M' L')) hx hb hr hlocks hK hI dX7_isImage_97 ⟨isB_1, h⟩
      · have h := h.2 c5
        refine lv_iload hx hb dX7_isImage_18 (lv_at hl 4 rfl) ?_
        refine lv_bipush (v := (64 : Int32)) hx hb dX7_isImage_20 (by decide) ?_
        obtain ⟨K29, hK29, h⟩ := h
        have J29 : ∀ (x12 : Int32) (H : Heap) (locs : List Loc) (ls : Array Slot), K29 x12 → rpI dC dI a kA (rpA a sz) s M L H locs → lv_has ls 8 [(0, .ref (a 0)), (1, .long p1), (3, .long p3), (5, .int x2), (6, .int x12), (7, .int x4)] → W p l e rm_X7_isImage_0 s m (av_X7_isImage_0 a t p1 p3).toArray below meth c H locs 0 0 (MQ below (qc_X7_isImage_0 dC dI a kA sz M L Z) (av_X7_isImage_0 a t p1 p3).toArray s 0 0 (rpA a sz)) (F0 m 29 ls []) := by
          intro x12 H locs ls h hI hl
          have h := hK29 x12 h
          refine lv_iload hx hb dX7_isImage_29 (lv_at hl 3 rfl) ?_
          refine lv_lload_n hx hb dX7_isImage_31 rfl (lv_at hl 1 rfl) ?_
          refine lv_lload_n hx hb dX7_isImage_32 rfl (lv_at hl 2 rfl) ?_
          refine lv_iload hx hb dX7_isImage_33 (lv_at hl 4 rfl) ?_
          refine rpcalli_p hsz hI (va_runS (As := [.long p1, .long p3, .int x12]) (rest := [.int x2]) ⟨hx, hb, hml, hown, hu⟩ (met_X7_bit l dC dI a kA t _ M L p1 p3 x12 _ h) (cwl_X7_71_S hu ⟨by decide, by decide⟩) (rppreS hK hE hsz hI) rfl rfl hl.1 rfl (lv_room (Nat.le_of_ble_eq_true rfl)) dX7_isImage_35 ⟨by decide, by decide⟩) (fun r13 H locs h hI => ?_)
          refine lv_iload hx hb dX7_isImage_38 (lv_at hl 5 rfl) ?_
          refine lv_ishl hx hb dX7_isImage_40 ?_
          refine lv_ior hx hb dX7_isImage_41 ?_
          refine lv_topi (fun x14 ex14 => ?_)
          have h := h x14 ex14
          refine lv_istore (lv' := [(5, .int x14), (0, .ref (a 0)), (1, .long p1), (3, .long p3), (6, .int x12), (7, .int x4)]) hx hb dX7_isImage_42 hl (by decide) rfl (fun ls hl => ?_)
          obtain ⟨x15, ex15⟩ : ∃ y : Int32, y = (x12 + (1 : Int32)) := ⟨_, rfl⟩
          have h := h x15 ex15
          refine lv_iinc (v := x15) (lv' := [(6, .int x15), (5, .int x14), (0, .ref (a 0)), (1, .long p1), (3, .long p3), (7, .int x4)]) hx hb dX7_isImage_44 hl (k := 4) rfl (by rw [ex15]; rfl) (by decide) rfl (fun ls hl => ?_)
          obtain ⟨x16, ex16⟩ : ∃ y : Int32, y = (x4 + (-1 : Int32)) := ⟨_, rfl⟩
          have h := h x16 ex16
          refine lv_iinc (v := x16) (lv' := [(7, .int x16), (6, .int x15), (5, .int x14), (0, .ref (a 0)), (1, .long p1), (3, .long p3)]) hx hb dX7_isImage_47 hl (k := 5) rfl (by rw [ex16]; rfl) (by decide) rfl (fun ls hl => ?_)
          refine lv_goto (tgt := 13) hx hb dX7_isImage_50 (by decide) ?_
          exact ih13 x14 x15 x16 _ _ _ h.1 (Nat.lt_of_lt_of_le h.2 (Nat.le_of_lt_succ hn13)) hI (lv_sub hl [3, 4, 5, 2, 1, 0] rfl)
        refine lv_icmp_ne (tgt := 29) hx hb dX7_isImage_22 (by decide) (fun c17 => ?_) (fun c17 => ?_)
        · have h := h.1 c17
          exact J29 x3 _ _ _ h hI (lv_sub hl [0, 1, 2, 3, 4, 5] rfl)
        · have h := h.2 c17
          refine lv_bipush (v := (72 : Int32)) hx hb dX7_isImage_25 (by decide) ?_
          refine lv_istore (lv' := [(6, .int (72 : Int32)), (0, .ref (a 0)), (1, .long p1), (3, .long p3), (5, .int x2), (7, .int x4)]) hx hb dX7_isImage_27 hl (by decide) rfl (fun ls hl => ?_)
          exact J29 (72 : Int32) _ _ _ h hI (lv_sub hl [1, 2, 3, 4, 0, 5] rfl)
  exact P13 (m13 (0 : Int32) x1 (31 : Int32) + 1) (0 : Int32) x1 (31 : Int32) _ _ _ h (Nat.lt_succ_self _) hI (lv_sub hl [3, 4, 5, 2, 1, 0] rfl)

abbrev rm_X7_address_0 : Room := { frames := 2, cells := 0, slots := 0, locals := 52 }
abbrev av_X7_address_0 (a t : Nat → Nat) (p1 : Int64) (p3 : Int64) : List Value := [.ref (a 0), .long p1, .long p3]
abbrev qc_X7_address_0 (dC : Nat → ClassId) (dI : Nat → Nat → Nat) (a : Nat → Nat) (kA : Nat → ClassId) (sz : Nat) (M : cM) (L : cL) (Z : Int64 → cM → cL → Prop) : Array Value → State → Outcome → State → Prop := va_Ql (fun r (u : cM × cL) => Z r u.1 u.2) (rpAt dC dI a kA (rpA a sz)) (rpA a sz)
set_option maxHeartbeats 4000000 in
set_option maxRecDepth 100000 in
theorem met_X7_address_0 (l : Launch) (dC : Nat → ClassId) (dI : Nat → Nat → Nat) (a : Nat → Nat) (kA : Nat → ClassId) (t : Nat → Nat) (sz : Nat) (M : cM) (L : cL) (p1 : Int64) (p3 : Int64) (Z : Int64 → cM → cL → Prop) (h : wp_X7_address_0 M L p1 p3 Z) : Met l yX7_address (Cond.code yX7_address cX7_address 5 (some .long) :: uW) rm_X7_address_0 (va_Pc (av_X7_address_0 a t p1 p3) (rpPre dC dI a kA t M L sz)) (qc_X7_address_0 dC dI a kA sz M L Z) 0 0 (rpA a sz) := by
  refine rpenter (cc := cX7_address) (n := 5) (ret := (some .long)) (by decide) rfl (Nat.le_of_ble_eq_true rfl) ?_
  intro p e s m below meth c ls hx hb hml hr hlocks hown hts hK hE hsz hI hl hmn
  have hu : ∀ w ∈ uW, w.before (av_X7_address_0 a t p1 p3).toArray s = true := fun w h => hts w (List.mem_cons_of_mem _ h)
  have hown : s.vm.findClass RX7 = some m.cls := hown
  have hl : lv_has ls 5 [(0, .ref (a 0)), (1, .long p1), (3, .long p3)] := hl
  unfold wp_X7_address_0 at h
  refine lv_aload_n hx hb dX7_address_0 rfl (lv_at hl 0 rfl) ?_
  refine lv_iconst (v := (0 : Int32)) hx hb dX7_address_1 (by decide) ?_
  refine rpput (ci := 6) (C := RX7) (T := TX7) (N := 44) (ty := .int) hx hb hu uX7 tyX7 tyX7_ok nmX7 hown hK hI 0 rfl rfl 0 (by decide) (hu _ uww_556) (fun _ h9 => h9) rfl (by decide +kernel) rfl rfl (Nat.le_of_ble_eq_true rfl) (rpset_0_0 _ _ _ _ _) dX7_address_2 (fun H locs M1 eM1 hI => ?_)
  have h := h M1 eM1
  refine lv_aload_n hx hb dX7_address_5 rfl (lv_at hl 0 rfl) ?_
  refine lv_lload_n hx hb dX7_address_6 rfl (lv_at hl 1 rfl) ?_
  refine lv_lload_n hx hb dX7_address_7 rfl (lv_at hl 2 rfl) ?_
  refine rpcalli hsz hI (va_runV (As := [.long p1, .long p3]) (rest := []) ⟨hx, hb, hml, hown, hu⟩ (met_X7_isImage_0 l dC dI a kA t _ M1 L p1 p3 _ h) (cwl_X7_94_X7 hu ⟨by decide, by decide⟩) (rppre (ci := 6) hK hE hsz hI rfl rfl) rfl rfl hl.1 rfl (lv_room (Nat.le_of_ble_eq_true rfl)) dX7_address_8 ⟨by decide, by decide⟩) (fun r2 M3 L4 H locs h hI => ?_)
  refine lv_if_eq (tgt := 26) hx hb dX7_address_11 (by decide) (fun c5 => ?_) (fun c5 => ?_)
  · have h := h.1 c5
    refine lv_ldc2 (own := RX7) (v := (-1 : Int64)) hx hb hown (hu _ uww_588) dX7_address_26 ?_
    exact rplret (Z := (fun r M' L' => Z r M' L')) hx hb hr hlocks hK hI dX7_address_29 h
  · have h := h.2 c5
    refine lv_aload_n hx hb dX7_address_14 rfl (lv_at hl 0 rfl) ?_
    refine va_get (D := (dC, dI)) (ci := 6) (v := .int (M3 0 17)) (C := RX7) (T := TX7) (N := 44) hx hb hu uX7 hown hK hI.1 0 rfl rfl 17 (by decide) (hu _ uww_578) (fun _ h9 => h9) rfl dX7_address_15 ?_
    refine lv_i2l hx hb dX7_address_18 rfl ?_
    refine lv_ldc2 (own := RX7) (v := (4294967295 : Int64)) hx hb hown (hu _ uww_587) dX7_address_19 ?_
    refine lv_land hx hb dX7_address_22 ?_
    refine lv_goto (tgt := 29) hx hb dX7_address_23 (by decide) ?_
    exact rplret (Z := (fun r M' L' => Z r M' L')) hx hb hr hlocks hK hI dX7_address_29 h

abbrev rm_X7_begin_0 : Room := { frames := 0, cells := 0, slots := 0, locals := 0 }
abbrev av_X7_begin_0 (a t : Nat → Nat)  : List Value := [.ref (a 0)]
abbrev qc_X7_begin_0 (dC : Nat → ClassId) (dI : Nat → Nat → Nat) (a : Nat → Nat) (kA : Nat → ClassId) (sz : Nat) (M : cM) (L : cL) (Z : cM → Prop) : Array Value → State → Outcome → State → Prop := va_Qv (fun (u : cM × cL) => u.2 = L ∧ Z u.1) (rpAt dC dI a kA (rpA a sz)) (rpA a sz)
set_option maxHeartbeats 4000000 in
set_option maxRecDepth 100000 in
theorem met_X7_begin_0 (l : Launch) (dC : Nat → ClassId) (dI : Nat → Nat → Nat) (a : Nat → Nat) (kA : Nat → ClassId) (t : Nat → Nat) (sz : Nat) (M : cM) (L : cL)  (Z : cM → Prop) (h : wp_X7_begin_0 M L  Z) : Met l yX7_begin (Cond.code yX7_begin cX7_begin 1 none :: uW) rm_X7_begin_0 (va_Pc (av_X7_begin_0 a t ) (rpPre dC dI a kA t M L sz)) (qc_X7_begin_0 dC dI a kA sz M L Z) 0 0 (rpA a sz) := by
  refine rpenter (cc := cX7_begin) (n := 1) (ret := none) (by decide) rfl (Nat.le_of_ble_eq_true rfl) ?_
  intro p e s m below meth c ls hx hb hml hr hlocks hown hts hK hE hsz hI hl hmn
  have hu : ∀ w ∈ uW, w.before (av_X7_begin_0 a t ).toArray s = true := fun w h => hts w (List.mem_cons_of_mem _ h)
  have hown : s.vm.findClass RX7 = some m.cls := hown
  have hl : lv_has ls 1 [(0, .ref (a 0))] := hl
  unfold wp_X7_begin_0 at h
  refine lv_aload_n hx hb dX7_begin_0 rfl (lv_at hl 0 rfl) ?_
  refine lv_iconst (v := (0 : Int32)) hx hb dX7_begin_1 (by decide) ?_
  refine rpput (ci := 6) (C := RX7) (T := TX7) (N := 44) (ty := .int) hx hb hu uX7 tyX7 tyX7_ok nmX7 hown hK hI 0 rfl rfl 0 (by decide) (hu _ uww_556) (fun _ h9 => h9) rfl (by decide +kernel) rfl rfl (Nat.le_of_ble_eq_true rfl) (rpset_0_0 _ _ _ _ _) dX7_begin_2 (fun H locs M1 eM1 hI => ?_)
  have h := h M1 eM1
  refine lv_aload_n hx hb dX7_begin_5 rfl (lv_at hl 0 rfl) ?_
  refine lv_iconst (v := (0 : Int32)) hx hb dX7_begin_6 (by decide) ?_
  refine rpput (ci := 6) (C := RX7) (T := TX7) (N := 44) (ty := .int) hx hb hu uX7 tyX7 tyX7_ok nmX7 hown hK hI 0 rfl rfl 22 (by decide) (hu _ uww_624) (fun _ h9 => h9) rfl (by decide +kernel) rfl rfl (Nat.le_of_ble_eq_true rfl) (rpset_0_22 _ _ _ _ _) dX7_begin_7 (fun H locs M2 eM2 hI => ?_)
  have h := h M2 eM2
  refine lv_aload_n hx hb dX7_begin_10 rfl (lv_at hl 0 rfl) ?_
  refine lv_iconst (v := (0 : Int32)) hx hb dX7_begin_11 (by decide) ?_
  refine rpput (ci := 6) (C := RX7) (T := TX7) (N := 44) (ty := .int) hx hb hu uX7 tyX7 tyX7_ok nmX7 hown hK hI 0 rfl rfl 20 (by decide) (hu _ uww_622) (fun _ h9 => h9) rfl (by decide +kernel) rfl rfl (Nat.le_of_ble_eq_true rfl) (rpset_0_20 _ _ _ _ _) dX7_begin_12 (fun H locs M3 eM3 hI => ?_)
  have h := h M3 eM3
  refine lv_aload_n hx hb dX7_begin_15 rfl (lv_at hl 0 rfl) ?_
  refine va_get (D := (dC, dI)) (ci := 6) (v := .ref (a 4)) (C := RX7) (T := TX7) (N := 44) hx hb hu uX7 hown hK hI.1 0 rfl rfl 21 (by decide) (hu _ uww_553) (fun _ h9 => h9) rfl dX7_begin_16 ?_
  refine lv_iconst (v := (0 : Int32)) hx hb dX7_begin_19 (by decide) ?_
  refine lv_iconst (v := (0 : Int32)) hx hb dX7_begin_20 (by decide) ?_
  refine rpiast hx hb hK hI 4 3 rfl rfl h.1 (rpset_4 _ _ _ _ _ _) dX7_begin_21 (fun H locs M4 eM4 hI => ?_)
  have h := h.2 M4 eM4
  exact rpvret (Z := (fun M' L' => L' = L ∧ Z M')) hx hb hr hlocks hK hI dX7_begin_22 ⟨rfl, h⟩

abbrev rm_X7_octetAt_1 : Room := { frames := 0, cells := 0, slots := 0, locals := 0 }
abbrev av_X7_octetAt_1 (a t : Nat → Nat) (p1 : Int32) : List Value := [.ref (a 1), .int p1]
abbrev qc_X7_octetAt_1 (dC : Nat → ClassId) (dI : Nat → Nat → Nat) (a : Nat → Nat) (kA : Nat → ClassId) (sz : Nat) (M : cM) (L : cL) (Z : Int32 → Prop) : Array Value → State → Outcome → State → Prop := va_Qi (fun r (u : cM × cL) => u.1 = M ∧ u.2 = L ∧ Z r) (rpAt dC dI a kA (rpA a sz)) (rpA a sz)
set_option maxHeartbeats 4000000 in
set_option maxRecDepth 100000 in
theorem met_X7_octetAt_1 (l : Launch) (dC : Nat → ClassId) (dI : Nat → Nat → Nat) (a : Nat → Nat) (kA : Nat → ClassId) (t : Nat → Nat) (sz : Nat) (M : cM) (L : cL) (p1 : Int32) (Z : Int32 → Prop) (h : wp_X7_octetAt_1 M L p1 Z) : Met l yX7_octetAt (Cond.code yX7_octetAt cX7_octetAt 2 (some .int) :: uW) rm_X7_octetAt_1 (va_Pc (av_X7_octetAt_1 a t p1) (rpPre dC dI a kA t M L sz)) (qc_X7_octetAt_1 dC dI a kA sz M L Z) 0 0 (rpA a sz) := by
  refine rpenter (cc := cX7_octetAt) (n := 2) (ret := (some .int)) (by decide) rfl (Nat.le_of_ble_eq_true rfl) ?_
  intro p e s m below meth c ls hx hb hml hr hlocks hown hts hK hE hsz hI hl hmn
  have hu : ∀ w ∈ uW, w.before (av_X7_octetAt_1 a t p1).toArray s = true := fun w h => hts w (List.mem_cons_of_mem _ h)
  have hown : s.vm.findClass RX7 = some m.cls := hown
  have hl : lv_has ls 2 [(0, .ref (a 1)), (1, .int p1)] := hl
  unfold wp_X7_octetAt_1 at h
  refine lv_aload_n hx hb dX7_octetAt_0 rfl (lv_at hl 0 rfl) ?_
  refine lv_iload_n hx hb dX7_octetAt_1 rfl (lv_at hl 1 rfl) ?_
  refine va_bald hx hb hK hI.1 1 0 rfl rfl h.1 dX7_octetAt_2 ?_
  have h := h.2
  refine lv_sipush (v := (255 : Int32)) hx hb dX7_octetAt_3 (by decide) ?_
  refine lv_iand hx hb dX7_octetAt_6 ?_
  exact rpiret (Z := (fun r M' L' => M' = M ∧ L' = L ∧ Z r)) hx hb hr hlocks hK hI dX7_octetAt_7 ⟨rfl, rfl, h⟩

abbrev rm_X7_twoAt_1 : Room := { frames := 1, cells := 0, slots := 0, locals := 21 }
abbrev av_X7_twoAt_1 (a t : Nat → Nat) (p1 : Int32) : List Value := [.ref (a 1), .int p1]
abbrev qc_X7_twoAt_1 (dC : Nat → ClassId) (dI : Nat → Nat → Nat) (a : Nat → Nat) (kA : Nat → ClassId) (sz : Nat) (M : cM) (L : cL) (Z : Int32 → Prop) : Array Value → State → Outcome → State → Prop := va_Qi (fun r (u : cM × cL) => u.1 = M ∧ u.2 = L ∧ Z r) (rpAt dC dI a kA (rpA a sz)) (rpA a sz)
set_option maxHeartbeats 4000000 in
set_option maxRecDepth 100000 in
theorem met_X7_twoAt_1 (l : Launch) (dC : Nat → ClassId) (dI : Nat → Nat → Nat) (a : Nat → Nat) (kA : Nat → ClassId) (t : Nat → Nat) (sz : Nat) (M : cM) (L : cL) (p1 : Int32) (Z : Int32 → Prop) (h : wp_X7_twoAt_1 M L p1 Z) : Met l yX7_twoAt (Cond.code yX7_twoAt cX7_twoAt 2 (some .int) :: uW) rm_X7_twoAt_1 (va_Pc (av_X7_twoAt_1 a t p1) (rpPre dC dI a kA t M L sz)) (qc_X7_twoAt_1 dC dI a kA sz M L Z) 0 0 (rpA a sz) := by
  refine rpenter (cc := cX7_twoAt) (n := 2) (ret := (some .int)) (by decide) rfl (Nat.le_of_ble_eq_true rfl) ?_
  intro p e s m below meth c ls hx hb hml hr hlocks hown hts hK hE hsz hI hl hmn
  have hu : ∀ w ∈ uW, w.before (av_X7_twoAt_1 a t p1).toArray s = true := fun w h => hts w (List.mem_cons_of_mem _ h)
  have hown : s.vm.findClass RX7 = some m.cls := hown
  have hl : lv_has ls 2 [(0, .ref (a 1)), (1, .int p1)] := hl
  unfold wp_X7_twoAt_1 at h
  refine lv_aload_n hx hb dX7_twoAt_0 rfl (lv_at hl 0 rfl) ?_
  refine lv_iload_n hx hb dX7_twoAt_1 rfl (lv_at hl 1 rfl) ?_
  refine rpcalli_p hsz hI (va_runS (As := [.ref (a 1), .int p1]) (rest := []) ⟨hx, hb, hml, hown, hu⟩ (met_X7_octetAt_1 l dC dI a kA t _ M L p1 _ h) (cwl_X7_111_S hu ⟨by decide, by decide⟩) (rppreS hK hE hsz hI) rfl rfl hl.1 rfl (lv_room (Nat.le_of_ble_eq_true rfl)) dX7_twoAt_2 ⟨by decide, by decide⟩) (fun r1 H locs h hI => ?_)
  refine lv_bipush (v := (8 : Int32)) hx hb dX7_twoAt_5 (by decide) ?_
  refine lv_ishl hx hb dX7_twoAt_7 ?_
  refine lv_aload_n hx hb dX7_twoAt_8 rfl (lv_at hl 0 rfl) ?_
  refine lv_iload_n hx hb dX7_twoAt_9 rfl (lv_at hl 1 rfl) ?_
  refine lv_iconst (v := (1 : Int32)) hx hb dX7_twoAt_10 (by decide) ?_
  refine lv_iadd hx hb dX7_twoAt_11 ?_
  refine rpcalli_p hsz hI (va_runS (As := [.ref (a 1), .int (p1 + (1 : Int32))]) (rest := [.int (r1 <<< ((8 : Int32) &&& 31))]) ⟨hx, hb, hml, hown, hu⟩ (met_X7_octetAt_1 l dC dI a kA t _ M L (p1 + (1 : Int32)) _ h) (cwl_X7_111_S hu ⟨by decide, by decide⟩) (rppreS hK hE hsz hI) rfl rfl hl.1 rfl (lv_room (Nat.le_of_ble_eq_true rfl)) dX7_twoAt_12 ⟨by decide, by decide⟩) (fun r2 H locs h hI => ?_)
  refine lv_ior hx hb dX7_twoAt_15 ?_
  exact rpiret (Z := (fun r M' L' => M' = M ∧ L' = L ∧ Z r)) hx hb hr hlocks hK hI dX7_twoAt_16 ⟨rfl, rfl, h⟩

abbrev rm_X7_header4_0 : Room := { frames := 2, cells := 0, slots := 0, locals := 42 }
abbrev av_X7_header4_0 (a t : Nat → Nat) (p1 : Int32) : List Value := [.ref (a 0), .int p1]
abbrev qc_X7_header4_0 (dC : Nat → ClassId) (dI : Nat → Nat → Nat) (a : Nat → Nat) (kA : Nat → ClassId) (sz : Nat) (M : cM) (L : cL) (Z : cM → Prop) : Array Value → State → Outcome → State → Prop := va_Qv (fun (u : cM × cL) => u.2 = L ∧ Z u.1) (rpAt dC dI a kA (rpA a sz)) (rpA a sz)
set_option maxHeartbeats 4000000 in
set_option maxRecDepth 100000 in
theorem met_X7_header4_0 (l : Launch) (dC : Nat → ClassId) (dI : Nat → Nat → Nat) (a : Nat → Nat) (kA : Nat → ClassId) (t : Nat → Nat) (sz : Nat) (M : cM) (L : cL) (p1 : Int32) (Z : cM → Prop) (h : wp_X7_header4_0 M L p1 Z) : Met l yX7_header4 (Cond.code yX7_header4 cX7_header4 2 none :: uW) rm_X7_header4_0 (va_Pc (av_X7_header4_0 a t p1) (rpPre dC dI a kA t M L sz)) (qc_X7_header4_0 dC dI a kA sz M L Z) 0 0 (rpA a sz) := by
  refine rpenter (cc := cX7_header4) (n := 2) (ret := none) (by decide) rfl (Nat.le_of_ble_eq_true rfl) ?_
  intro p e s m below meth c ls hx hb hml hr hlocks hown hts hK hE hsz hI hl hmn
  have hu : ∀ w ∈ uW, w.before (av_X7_header4_0 a t p1).toArray s = true := fun w h => hts w (List.mem_cons_of_mem _ h)
  have hown : s.vm.findClass RX7 = some m.cls := hown
  have hl : lv_has ls 2 [(0, .ref (a 0)), (1, .int p1)] := hl
  unfold wp_X7_header4_0 at h
  refine lv_aload_n hx hb dX7_header4_0 rfl (lv_at hl 0 rfl) ?_
  refine lv_iconst (v := (4 : Int32)) hx hb dX7_header4_1 (by decide) ?_
  refine lv_aload_n hx hb dX7_header4_2 rfl (lv_at hl 0 rfl) ?_
  refine va_get (D := (dC, dI)) (ci := 6) (v := .ref (a 1)) (C := RX7) (T := TX7) (N := 44) hx hb hu uX7 hown hK hI.1 0 rfl rfl 1 (by decide) (hu _ uww_538) (fun _ h9 => h9) rfl dX7_header4_3 ?_
  refine lv_iload_n hx hb dX7_header4_6 rfl (lv_at hl 1 rfl) ?_
  refine va_bald hx hb hK hI.1 1 0 rfl rfl h.1 dX7_header4_7 ?_
  have h := h.2
  refine lv_bipush (v := (15 : Int32)) hx hb dX7_header4_8 (by decide) ?_
  refine lv_iand hx hb dX7_header4_10 ?_
  refine lv_imul hx hb dX7_header4_11 ?_
  refine rpput (ci := 6) (C := RX7) (T := TX7) (N := 44) (ty := .int) hx hb hu uX7 tyX7 tyX7_ok nmX7 hown hK hI 0 rfl rfl 31 (by decide) (hu _ uww_667) (fun _ h9 => h9) rfl (by decide +kernel) rfl rfl (Nat.le_of_ble_eq_true rfl) (rpset_0_31 _ _ _ _ _) dX7_header4_12 (fun H locs M1 eM1 hI => ?_)
  have h := h M1 eM1
  refine lv_aload_n hx hb dX7_header4_15 rfl (lv_at hl 0 rfl) ?_
  refine lv_aload_n hx hb dX7_header4_16 rfl (lv_at hl 0 rfl) ?_
  refine va_get (D := (dC, dI)) (ci := 6) (v := .ref (a 1)) (C := RX7) (T := TX7) (N := 44) hx hb hu uX7 hown hK hI.1 0 rfl rfl 1 (by decide) (hu _ uww_538) (fun _ h9 => h9) rfl dX7_header4_17 ?_
  refine lv_iload_n hx hb dX7_header4_20 rfl (lv_at hl 1 rfl) ?_
  refine lv_iconst (v := (2 : Int32)) hx hb dX7_header4_21 (by decide) ?_
  refine lv_iadd hx hb dX7_header4_22 ?_
  refine rpcalli_p hsz hI (va_runS (As := [.ref (a 1), .int (p1 + (2 : Int32))]) (rest := [.ref (a 0)]) ⟨hx, hb, hml, hown, hu⟩ (met_X7_twoAt_1 l dC dI a kA t _ M1 L (p1 + (2 : Int32)) _ h) (cwl_X7_115_S hu ⟨by decide, by decide⟩) (rppreS hK hE hsz hI) rfl rfl hl.1 rfl (lv_room (Nat.le_of_ble_eq_true rfl)) dX7_header4_23 ⟨by decide, by decide⟩) (fun r2 H locs h hI => ?_)
  refine rpput (ci := 6) (C := RX7) (T := TX7) (N := 44) (ty := .int) hx hb hu uX7 tyX7 tyX7_ok nmX7 hown hK hI 0 rfl rfl 32 (by decide) (hu _ uww_668) (fun _ h9 => h9) rfl (by decide +kernel) rfl rfl (Nat.le_of_ble_eq_true rfl) (rpset_0_32 _ _ _ _ _) dX7_header4_26 (fun H locs M3 eM3 hI => ?_)
  have h := h M3 eM3
  refine lv_aload_n hx hb dX7_header4_29 rfl (lv_at hl 0 rfl) ?_
  refine lv_bipush (v := (8 : Int32)) hx hb dX7_header4_30 (by decide) ?_
  refine lv_aload_n hx hb dX7_header4_32 rfl (lv_at hl 0 rfl) ?_
  refine va_get (D := (dC, dI)) (ci := 6) (v := .ref (a 1)) (C := RX7) (T := TX7) (N := 44) hx hb hu uX7 hown hK hI.1 0 rfl rfl 1 (by decide) (hu _ uww_538) (fun _ h9 => h9) rfl dX7_header4_33 ?_
  refine lv_iload_n hx hb dX7_header4_36 rfl (lv_at hl 1 rfl) ?_
  refine lv_bipush (v := (6 : Int32)) hx hb dX7_header4_37 (by decide) ?_
  refine lv_iadd hx hb dX7_header4_39 ?_
  refine rpcalli_p hsz hI (va_runS (As := [.ref (a 1), .int (p1 + (6 : Int32))]) (rest := [.int (8 : Int32), .ref (a 0)]) ⟨hx, hb, hml, hown, hu⟩ (met_X7_twoAt_1 l dC dI a kA t _ M3 L (p1 + (6 : Int32)) _ h) (cwl_X7_115_S hu ⟨by decide, by decide⟩) (rppreS hK hE hsz hI) rfl rfl hl.1 rfl (lv_room (Nat.le_of_ble_eq_true rfl)) dX7_header4_40 ⟨by decide, by decide⟩) (fun r4 H locs h hI => ?_)
  refine lv_sipush (v := (8191 : Int32)) hx hb dX7_header4_43 (by decide) ?_
  refine lv_iand hx hb dX7_header4_46 ?_
  refine lv_imul hx hb dX7_header4_47 ?_
  refine rpput (ci := 6) (C := RX7) (T := TX7) (N := 44) (ty := .int) hx hb hu uX7 tyX7 tyX7_ok nmX7 hown hK hI 0 rfl rfl 33 (by decide) (hu _ uww_669) (fun _ h9 => h9) rfl (by decide +kernel) rfl rfl (Nat.le_of_ble_eq_true rfl) (rpset_0_33 _ _ _ _ _) dX7_header4_48 (fun H locs M5 eM5 hI => ?_)
  have h := h M5 eM5
  refine lv_aload_n hx hb dX7_header4_51 rfl (lv_at hl 0 rfl) ?_
  refine lv_aload_n hx hb dX7_header4_52 rfl (lv_at hl 0 rfl) ?_
  refine va_get (D := (dC, dI)) (ci := 6) (v := .ref (a 1)) (C := RX7) (T := TX7) (N := 44) hx hb hu uX7 hown hK hI.1 0 rfl rfl 1 (by decide) (hu _ uww_538) (fun _ h9 => h9) rfl dX7_header4_53 ?_
  refine lv_iload_n hx hb dX7_header4_56 rfl (lv_at hl 1 rfl) ?_
  refine lv_bipush (v := (6 : Int32)) hx hb dX7_header4_57 (by decide) ?_
  refine lv_iadd hx hb dX7_header4_59 ?_
  refine va_bald hx hb hK hI.1 1 0 rfl rfl h.1 dX7_header4_60 ?_
  have h := h.2
  refine lv_bipush (v := (32 : Int32)) hx hb dX7_header4_61 (by decide) ?_
  refine lv_iand hx hb dX7_header4_63 ?_
  obtain ⟨K72, hK72, h⟩ := h
  have J72 : ∀ (v6 : Int32) (H : Heap) (locs : List Loc) (ls : Array Slot), K72 v6 → rpI dC dI a kA (rpA a sz) s M5 L H locs → lv_has ls 2 [(0, .ref (a 0)), (1, .int p1)] → W p l e rm_X7_header4_0 s m (av_X7_header4_0 a t p1).toArray below meth c H locs 0 0 (MQ below (qc_X7_header4_0 dC dI a kA sz M L Z) (av_X7_header4_0 a t p1).toArray s 0 0 (rpA a sz)) (F0 m 72 ls [.int v6, .ref (a 0)]) := by
    intro v6 H locs ls h hI hl
    have h := hK72 v6 h
    refine rpput (ci := 6) (C := RX7) (T := TX7) (N := 44) (ty := .boolean) hx hb hu uX7 tyX7 tyX7_ok nmX7 hown hK hI 0 rfl rfl 34 (by decide) (hu _ uww_670) (fun _ h9 => h9) rfl (by decide +kernel) h.1.1 h.1.2 (Nat.le_of_ble_eq_true rfl) (rpset_0_34 _ _ _ _ _) dX7_header4_72 (fun H locs M7 eM7 hI => ?_)
    have h := h.2 M7 eM7
    refine lv_aload_n hx hb dX7_header4_75 rfl (lv_at hl 0 rfl) ?_
    refine lv_aload_n hx hb dX7_header4_76 rfl (lv_at hl 0 rfl) ?_
    refine va_get (D := (dC, dI)) (ci := 6) (v := .ref (a 1)) (C := RX7) (T := TX7) (N := 44) hx hb hu uX7 hown hK hI.1 0 rfl rfl 1 (by decide) (hu _ uww_538) (fun _ h9 => h9) rfl dX7_header4_77 ?_
    refine lv_iload_n hx hb dX7_header4_80 rfl (lv_at hl 1 rfl) ?_
    refine lv_bipush (v := (9 : Int32)) hx hb dX7_header4_81 (by decide) ?_
    refine lv_iadd hx hb dX7_header4_83 ?_
    refine rpcalli_p hsz hI (va_runS (As := [.ref (a 1), .int (p1 + (9 : Int32))]) (rest := [.ref (a 0)]) ⟨hx, hb, hml, hown, hu⟩ (met_X7_octetAt_1 l dC dI a kA t _ M7 L (p1 + (9 : Int32)) _ h) (cwl_X7_111_S hu ⟨by decide, by decide⟩) (rppreS hK hE hsz hI) rfl rfl hl.1 rfl (lv_room (Nat.le_of_ble_eq_true rfl)) dX7_header4_84 ⟨by decide, by decide⟩) (fun r8 H locs h hI => ?_)
    refine rpput (ci := 6) (C := RX7) (T := TX7) (N := 44) (ty := .int) hx hb hu uX7 tyX7 tyX7_ok nmX7 hown hK hI 0 rfl rfl 35 (by decide) (hu _ uww_671) (fun _ h9 => h9) rfl (by decide +kernel) rfl rfl (Nat.le_of_ble_eq_true rfl) (rpset_0_35 _ _ _ _ _) dX7_header4_87 (fun H locs M9 eM9 hI => ?_)
    have h := h M9 eM9
    exact rpvret (Z := (fun M' L' => L' = L ∧ Z M')) hx hb hr hlocks hK hI dX7_header4_90 ⟨rfl, h⟩
  refine lv_if_eq (tgt := 71) hx hb dX7_header4_64 (by decide) (fun c10 => ?_) (fun c10 => ?_)
  · have h := h.1 c10
    refine lv_iconst (v := (0 : Int32)) hx hb dX7_header4_71 (by decide) ?_
    exact J72 (0 : Int32) _ _ _ h hI (lv_sub hl [0, 1] rfl)
  · have h := h.2 c10
    refine lv_iconst (v := (1 : Int32)) hx hb dX7_header4_67 (by decide) ?_
    refine lv_goto (tgt := 72) hx hb dX7_header4_68 (by decide) ?_
    exact J72 (1 : Int32) _ _ _ h hI (lv_sub hl [0, 1] rfl)

abbrev rm_X7_word_0 : Room := { frames := 0, cells := 0, slots := 0, locals := 0 }
abbrev av_X7_word_0 (a t : Nat → Nat) (p1 : Int32) : List Value := [.ref (a 0), .int p1]
abbrev qc_X7_word_0 (dC : Nat → ClassId) (dI : Nat → Nat → Nat) (a : Nat → Nat) (kA : Nat → ClassId) (sz : Nat) (M : cM) (L : cL) (Z : cL → Prop) : Array Value → State → Outcome → State → Prop := va_Qv (fun (u : cM × cL) => u.1 = M ∧ Z u.2) (rpAt dC dI a kA (rpA a sz)) (rpA a sz)
set_option maxHeartbeats 4000000 in
set_option maxRecDepth 100000 in
theorem met_X7_word_0 (l : Launch) (dC : Nat → ClassId) (dI : Nat → Nat → Nat) (a : Nat → Nat) (kA : Nat → ClassId) (t : Nat → Nat) (sz : Nat) (M : cM) (L : cL) (p1 : Int32) (Z : cL → Prop) (h : wp_X7_word_0 M L p1 Z) : Met l yX7_word (Cond.code yX7_word cX7_word 2 none :: uW) rm_X7_word_0 (va_Pc (av_X7_word_0 a t p1) (rpPre dC dI a kA t M L sz)) (qc_X7_word_0 dC dI a kA sz M L Z) 0 0 (rpA a sz) := by
  refine rpenter (cc := cX7_word) (n := 2) (ret := none) (by decide) rfl (Nat.le_of_ble_eq_true rfl) ?_
  intro p e s m below meth c ls hx hb hml hr hlocks hown hts hK hE hsz hI hl hmn
  have hu : ∀ w ∈ uW, w.before (av_X7_word_0 a t p1).toArray s = true := fun w h => hts w (List.mem_cons_of_mem _ h)
  have hown : s.vm.findClass RX7 = some m.cls := hown
  have hl : lv_has ls 2 [(0, .ref (a 0)), (1, .int p1)] := hl
  unfold wp_X7_word_0 at h
  refine lv_aload_n hx hb dX7_word_0 rfl (lv_at hl 0 rfl) ?_
  refine lv_dup hx hb dX7_word_1 rfl ?_
  refine va_get (D := (dC, dI)) (ci := 6) (v := .long (L 0 18)) (C := RX7) (T := TX7) (N := 44) hx hb hu uX7 hown hK hI.1 0 rfl rfl 18 (by decide) (hu _ uww_593) (fun _ h9 => h9) rfl dX7_word_2 ?_
  refine lv_iload_n hx hb dX7_word_5 rfl (lv_at hl 1 rfl) ?_
  refine lv_i2l hx hb dX7_word_6 rfl ?_
  refine lv_ladd hx hb dX7_word_7 ?_
  refine rpputl (ci := 6) (C := RX7) (T := TX7) (N := 44) (ty := .long) hx hb hu uX7 tyX7 tyX7_ok nmX7 hown hK hI 0 rfl rfl 18 (by decide) (hu _ uww_593) (fun _ h9 => h9) rfl (by decide +kernel) rfl rfl (Nat.le_of_ble_eq_true rfl) (rpset_0_18 _ _ _ _ _) dX7_word_8 (fun H locs L1 eL1 hI => ?_)
  have h := h L1 eL1
  obtain ⟨I11, m11, h, hs11⟩ := h
  have P11 : ∀ (n11 : Nat) (L2 : cL) (H : Heap) (locs : List Loc) (ls : Array Slot), I11 L2 → m11 L2 < n11 → rpI dC dI a kA (rpA a sz) s M L2 H locs → lv_has ls 2 [(0, .ref (a 0))] → W p l e rm_X7_word_0 s m (av_X7_word_0 a t p1).toArray below meth c H locs 0 0 (MQ below (qc_X7_word_0 dC dI a kA sz M L Z) (av_X7_word_0 a t p1).toArray s 0 0 (rpA a sz)) (F0 m 11 ls []) := by
    intro n11
    induction n11 with
    | zero => intro L2 H locs ls _ hn; exact absurd hn (Nat.not_lt_zero _)
    | succ n11 ih11 =>
      intro L2 H locs ls h hn11 hI hl
      have h := hs11 L2 h
      refine lv_aload_n hx hb dX7_word_11 rfl (lv_at hl 0 rfl) ?_
      refine va_get (D := (dC, dI)) (ci := 6) (v := .long (L2 0 18)) (C := RX7) (T := TX7) (N := 44) hx hb hu uX7 hown hK hI.1 0 rfl rfl 18 (by decide) (hu _ uww_593) (fun _ h9 => h9) rfl dX7_word_12 ?_
      refine lv_ldc2 (own := RX7) (v := (65535 : Int64)) hx hb hown (hu _ uww_594) dX7_word_15 ?_
      refine W.lcmp hx hb dX7_word_18 ?_
      refine lv_if_le (tgt := 45) hx hb dX7_word_19 (by decide) (fun c3 => ?_) (fun c3 => ?_)
      · have h := h.1 c3
        exact rpvret (Z := (fun M' L' => M' = M ∧ Z L')) hx hb hr hlocks hK hI dX7_word_45 ⟨rfl, h⟩
      · have h := h.2 c3
        refine lv_aload_n hx hb dX7_word_22 rfl (lv_at hl 0 rfl) ?_
        refine lv_aload_n hx hb dX7_word_23 rfl (lv_at hl 0 rfl) ?_
        refine va_get (D := (dC, dI)) (ci := 6) (v := .long (L2 0 18)) (C := RX7) (T := TX7) (N := 44) hx hb hu uX7 hown hK hI.1 0 rfl rfl 18 (by decide) (hu _ uww_593) (fun _ h9 => h9) rfl dX7_word_24 ?_
        refine lv_ldc2 (own := RX7) (v := (65535 : Int64)) hx hb hown (hu _ uww_594) dX7_word_27 ?_
        refine lv_land hx hb dX7_word_30 ?_
        refine lv_aload_n hx hb dX7_word_31 rfl (lv_at hl 0 rfl) ?_
        refine va_get (D := (dC, dI)) (ci := 6) (v := .long (L2 0 18)) (C := RX7) (T := TX7) (N := 44) hx hb hu uX7 hown hK hI.1 0 rfl rfl 18 (by decide) (hu _ uww_593) (fun _ h9 => h9) rfl dX7_word_32 ?_
        refine lv_bipush (v := (16 : Int32)) hx hb dX7_word_35 (by decide) ?_
        refine lv_lshr hx hb dX7_word_37 rfl ?_
        refine lv_ladd hx hb dX7_word_38 ?_
        refine rpputl (ci := 6) (C := RX7) (T := TX7) (N := 44) (ty := .long) hx hb hu uX7 tyX7 tyX7_ok nmX7 hown hK hI 0 rfl rfl 18 (by decide) (hu _ uww_593) (fun _ h9 => h9) rfl (by decide +kernel) rfl rfl (Nat.le_of_ble_eq_true rfl) (rpset_0_18 _ _ _ _ _) dX7_word_39 (fun H locs L4 eL4 hI => ?_)
        have h := h L4 eL4
        refine lv_goto (tgt := 11) hx hb dX7_word_42 (by decide) ?_
        exact ih11 L4 _ _ _ h.1 (Nat.lt_of_lt_of_le h.2 (Nat.le_of_lt_succ hn11)) hI (lv_sub hl [0] rfl)
  exact P11 (m11 L1 + 1) L1 _ _ _ h (Nat.lt_succ_self _) hI (lv_sub hl [0] rfl)

abbrev rm_X7_words_0_1 : Room := { frames := 1, cells := 0, slots := 0, locals := 21 }
abbrev av_X7_words_0_1 (a t : Nat → Nat) (p2 : Int32) (p3 : Int32) : List Value := [.ref (a 0), .ref (a 1), .int p2, .int p3]
abbrev qc_X7_words_0_1 (dC : Nat → ClassId) (dI : Nat → Nat → Nat) (a : Nat → Nat) (kA : Nat → ClassId) (sz : Nat) (M : cM) (L : cL) (Z : cL → Prop) : Array Value → State → Outcome → State → Prop := va_Qv (fun (u : cM × cL) => u.1 = M ∧ Z u.2) (rpAt dC dI a kA (rpA a sz)) (rpA a sz)
set_option maxHeartbeats 4000000 in
set_option maxRecDepth 100000 in
theorem met_X7_words_0_1 (l : Launch) (dC : Nat → ClassId) (dI : Nat → Nat → Nat) (a : Nat → Nat) (kA : Nat → ClassId) (t : Nat → Nat) (sz : Nat) (M : cM) (L : cL) (p2 : Int32) (p3 : Int32) (Z : cL → Prop) (h : wp_X7_words_0_1 M L p2 p3 Z) : Met l yX7_words (Cond.code yX7_words cX7_words 5 none :: uW) rm_X7_words_0_1 (va_Pc (av_X7_words_0_1 a t p2 p3) (rpPre dC dI a kA t M L sz)) (qc_X7_words_0_1 dC dI a kA sz M L Z) 0 0 (rpA a sz) := by
  refine rpenter (cc := cX7_words) (n := 5) (ret := none) (by decide) rfl (Nat.le_of_ble_eq_true rfl) ?_
  intro p e s m below meth c ls hx hb hml hr hlocks hown hts hK hE hsz hI hl hmn
  have hu : ∀ w ∈ uW, w.before (av_X7_words_0_1 a t p2 p3).toArray s = true := fun w h => hts w (List.mem_cons_of_mem _ h)
  have hown : s.vm.findClass RX7 = some m.cls := hown
  have hl : lv_has ls 5 [(0, .ref (a 0)), (1, .ref (a 1)), (2, .int p2), (3, .int p3)] := hl
  unfold wp_X7_words_0_1 at h
  refine lv_iload_n hx hb dX7_words_0 rfl (lv_at hl 2 rfl) ?_
  refine lv_istore (lv' := [(4, .int p2), (0, .ref (a 0)), (1, .ref (a 1)), (2, .int p2), (3, .int p3)]) hx hb dX7_words_1 hl (by decide) rfl (fun ls hl => ?_)
  obtain ⟨I3, m3, h, hs3⟩ := h
  have P3 : ∀ (n3 : Nat) (x1 : Int32) (L2 : cL) (H : Heap) (locs : List Loc) (ls : Array Slot), I3 x1 L2 → m3 x1 L2 < n3 → rpI dC dI a kA (rpA a sz) s M L2 H locs → lv_has ls 5 [(0, .ref (a 0)), (1, .ref (a 1)), (3, .int p3), (4, .int x1)] → W p l e rm_X7_words_0_1 s m (av_X7_words_0_1 a t p2 p3).toArray below meth c H locs 0 0 (MQ below (qc_X7_words_0_1 dC dI a kA sz M L Z) (av_X7_words_0_1 a t p2 p3).toArray s 0 0 (rpA a sz)) (F0 m 3 ls []) := by
    intro n3
    induction n3 with
    | zero => intro x1 L2 H locs ls _ hn; exact absurd hn (Nat.not_lt_zero _)
    | succ n3 ih3 =>
      intro x1 L2 H locs ls h hn3 hI hl
      have h := hs3 x1 L2 h
      refine lv_iload hx hb dX7_words_3 (lv_at hl 3 rfl) ?_
      refine lv_iload_n hx hb dX7_words_5 rfl (lv_at hl 2 rfl) ?_
      refine lv_icmp_ge (tgt := 53) hx hb dX7_words_6 (by decide) (fun c3 => ?_) (fun c3 => ?_)
      · have h := h.1 c3
        exact rpvret (Z := (fun M' L' => M' = M ∧ Z L')) hx hb hr hlocks hK hI dX7_words_53 ⟨rfl, h⟩
      · have h := h.2 c3
        refine lv_aload_n hx hb dX7_words_9 rfl (lv_at hl 0 rfl) ?_
        refine lv_aload_n hx hb dX7_words_10 rfl (lv_at hl 1 rfl) ?_
        refine lv_iload hx hb dX7_words_11 (lv_at hl 3 rfl) ?_
        refine va_bald hx hb hK hI.1 1 0 rfl rfl h.1 dX7_words_13 ?_
        have h := h.2
        refine lv_sipush (v := (255 : Int32)) hx hb dX7_words_14 (by decide) ?_
        refine lv_iand hx hb dX7_words_17 ?_
        refine lv_bipush (v := (8 : Int32)) hx hb dX7_words_18 (by decide) ?_
        refine lv_ishl hx hb dX7_words_20 ?_
        refine lv_iload hx hb dX7_words_21 (lv_at hl 3 rfl) ?_
        refine lv_iconst (v := (1 : Int32)) hx hb dX7_words_23 (by decide) ?_
        refine lv_iadd hx hb dX7_words_24 ?_
        refine lv_iload_n hx hb dX7_words_25 rfl (lv_at hl 2 rfl) ?_
        obtain ⟨K43, hK43, h⟩ := h
        have J43 : ∀ (v4 : Int32) (H : Heap) (locs : List Loc) (ls : Array Slot), K43 v4 → rpI dC dI a kA (rpA a sz) s M L2 H locs → lv_has ls 5 [(0, .ref (a 0)), (1, .ref (a 1)), (3, .int p3), (4, .int x1)] → W p l e rm_X7_words_0_1 s m (av_X7_words_0_1 a t p2 p3).toArray below meth c H locs 0 0 (MQ below (qc_X7_words_0_1 dC dI a kA sz M L Z) (av_X7_words_0_1 a t p2 p3).toArray s 0 0 (rpA a sz)) (F0 m 43 ls [.int v4, .int (((M 1 x1.toNatClampNeg) &&& (255 : Int32)) <<< ((8 : Int32) &&& 31)), .ref (a 0)]) := by
          intro v4 H locs ls h hI hl
          have h := hK43 v4 h
          refine lv_ior hx hb dX7_words_43 ?_
          refine rpcallv_l hsz hI (va_runV (As := [.int ((((M 1 x1.toNatClampNeg) &&& (255 : Int32)) <<< ((8 : Int32) &&& 31)) ||| v4)]) (rest := []) ⟨hx, hb, hml, hown, hu⟩ (met_X7_word_0 l dC dI a kA t _ M L2 ((((M 1 x1.toNatClampNeg) &&& (255 : Int32)) <<< ((8 : Int32) &&& 31)) ||| v4) _ h) (cwl_X7_108_X7 hu ⟨by decide, by decide⟩) (rppre (ci := 6) hK hE hsz hI rfl rfl) rfl rfl hl.1 rfl (lv_room (Nat.le_of_ble_eq_true rfl)) dX7_words_44 ⟨by decide, by decide⟩) (fun L5 H locs h hI => ?_)
          obtain ⟨x6, ex6⟩ : ∃ y : Int32, y = (x1 + (2 : Int32)) := ⟨_, rfl⟩
          have h := h x6 ex6
          refine lv_iinc (v := x6) (lv' := [(4, .int x6), (0, .ref (a 0)), (1, .ref (a 1)), (3, .int p3)]) hx hb dX7_words_47 hl (k := 3) rfl (by rw [ex6]; rfl) (by decide) rfl (fun ls hl => ?_)
          refine lv_goto (tgt := 3) hx hb dX7_words_50 (by decide) ?_
          exact ih3 x6 L5 _ _ _ h.1 (Nat.lt_of_lt_of_le h.2 (Nat.le_of_lt_succ hn3)) hI (lv_sub hl [1, 2, 3, 0] rfl)
        refine lv_icmp_ge (tgt := 42) hx hb dX7_words_26 (by decide) (fun c7 => ?_) (fun c7 => ?_)
        · have h := h.1 c7
          refine lv_iconst (v := (0 : Int32)) hx hb dX7_words_42 (by decide) ?_
          exact J43 (0 : Int32) _ _ _ h hI (lv_sub hl [0, 1, 2, 3] rfl)
        · have h := h.2 c7
          refine lv_aload_n hx hb dX7_words_29 rfl (lv_at hl 1 rfl) ?_
          refine lv_iload hx hb dX7_words_30 (lv_at hl 3 rfl) ?_
          refine lv_iconst (v := (1 : Int32)) hx hb dX7_words_32 (by decide) ?_
          refine lv_iadd hx hb dX7_words_33 ?_
          refine va_bald hx hb hK hI.1 1 0 rfl rfl h.1 dX7_words_34 ?_
          have h := h.2
          refine lv_sipush (v := (255 : Int32)) hx hb dX7_words_35 (by decide) ?_
          refine lv_iand hx hb dX7_words_38 ?_
          refine lv_goto (tgt := 43) hx hb dX7_words_39 (by decide) ?_
          exact J43 ((M 1 (x1 + (1 : Int32)).toNatClampNeg) &&& (255 : Int32)) _ _ _ h hI (lv_sub hl [0, 1, 2, 3] rfl)
  exact P3 (m3 p2 L + 1) p2 L _ _ _ h (Nat.lt_succ_self _) hI (lv_sub hl [1, 2, 4, 0] rfl)

abbrev rm_X7_optionsAreGood_0 : Room := { frames := 1, cells := 0, slots := 0, locals := 21 }
abbrev av_X7_optionsAreGood_0 (a t : Nat → Nat)  : List Value := [.ref (a 0)]
abbrev qc_X7_optionsAreGood_0 (dC : Nat → ClassId) (dI : Nat → Nat → Nat) (a : Nat → Nat) (kA : Nat → ClassId) (sz : Nat) (M : cM) (L : cL) (Z : Int32 → cM → Prop) : Array Value → State → Outcome → State → Prop := va_Qi (fun r (u : cM × cL) => u.2 = L ∧ Z r u.1) (rpAt dC dI a kA (rpA a sz)) (rpA a sz)
set_option maxHeartbeats 4000000 in
set_option maxRecDepth 100000 in
theorem met_X7_optionsAreGood_0 (l : Launch) (dC : Nat → ClassId) (dI : Nat → Nat → Nat) (a : Nat → Nat) (kA : Nat → ClassId) (t : Nat → Nat) (sz : Nat) (M : cM) (L : cL)  (Z : Int32 → cM → Prop) (h : wp_X7_optionsAreGood_0 M L  Z) : Met l yX7_optionsAreGood (Cond.code yX7_optionsAreGood cX7_optionsAreGood 4 (some .boolean) :: uW) rm_X7_optionsAreGood_0 (va_Pc (av_X7_optionsAreGood_0 a t ) (rpPre dC dI a kA t M L sz)) (qc_X7_optionsAreGood_0 dC dI a kA sz M L Z) 0 0 (rpA a sz) := by
  refine rpenter (cc := cX7_optionsAreGood) (n := 4) (ret := (some .boolean)) (by decide) rfl (Nat.le_of_ble_eq_true rfl) ?_
  intro p e s m below meth c ls hx hb hml hr hlocks hown hts hK hE hsz hI hl hmn
  have hu : ∀ w ∈ uW, w.before (av_X7_optionsAreGood_0 a t ).toArray s = true := fun w h => hts w (List.mem_cons_of_mem _ h)
  have hown : s.vm.findClass RX7 = some m.cls := hown
  have hl : lv_has ls 4 [(0, .ref (a 0))] := hl
  unfold wp_X7_optionsAreGood_0 at h
  refine lv_aload_n hx hb dX7_optionsAreGood_0 rfl (lv_at hl 0 rfl) ?_
  refine lv_iconst (v := (0 : Int32)) hx hb dX7_optionsAreGood_1 (by decide) ?_
  refine rpput (ci := 6) (C := RX7) (T := TX7) (N := 44) (ty := .boolean) hx hb hu uX7 tyX7 tyX7_ok nmX7 hown hK hI 0 rfl rfl 36 (by decide) (hu _ uww_675) (fun _ h9 => h9) rfl (by decide +kernel) isB_0.1 isB_0.2 (Nat.le_of_ble_eq_true rfl) (rpset_0_36 _ _ _ _ _) dX7_optionsAreGood_2 (fun H locs M1 eM1 hI => ?_)
  have h := h M1 eM1
  refine lv_bipush (v := (20 : Int32)) hx hb dX7_optionsAreGood_5 (by decide) ?_
  refine lv_istore_n (lv' := [(1, .int (20 : Int32)), (0, .ref (a 0))]) hx hb dX7_optionsAreGood_7 rfl hl (by decide) rfl (fun ls hl => ?_)
  obtain ⟨I8, m8, h, hs8⟩ := h
  have P8 : ∀ (n8 : Nat) (x2 : Int32) (M3 : cM) (H : Heap) (locs : List Loc) (ls : Array Slot), I8 x2 M3 → m8 x2 M3 < n8 → rpI dC dI a kA (rpA a sz) s M3 L H locs → lv_has ls 4 [(0, .ref (a 0)), (1, .int x2)] → W p l e rm_X7_optionsAreGood_0 s m (av_X7_optionsAreGood_0 a t ).toArray below meth c H locs 0 0 (MQ below (qc_X7_optionsAreGood_0 dC dI a kA sz M L Z) (av_X7_optionsAreGood_0 a t ).toArray s 0 0 (rpA a sz)) (F0 m 8 ls []) := by
    intro n8
    induction n8 with
    | zero => intro x2 M3 H locs ls _ hn; exact absurd hn (Nat.not_lt_zero _)
    | succ n8 ih8 =>
      intro x2 M3 H locs ls h hn8 hI hl
      have h := hs8 x2 M3 h
      refine lv_iload_n hx hb dX7_optionsAreGood_8 rfl (lv_at hl 1 rfl) ?_
      refine lv_aload_n hx hb dX7_optionsAreGood_9 rfl (lv_at hl 0 rfl) ?_
      refine va_get (D := (dC, dI)) (ci := 6) (v := .int (M3 0 31)) (C := RX7) (T := TX7) (N := 44) hx hb hu uX7 hown hK hI.1 0 rfl rfl 31 (by decide) (hu _ uww_667) (fun _ h9 => h9) rfl dX7_optionsAreGood_10 ?_
      refine lv_icmp_ge (tgt := 130) hx hb dX7_optionsAreGood_13 (by decide) (fun c4 => ?_) (fun c4 => ?_)
      · have h := h.1 c4
        refine lv_iconst (v := (1 : Int32)) hx hb dX7_optionsAreGood_130 (by decide) ?_
        exact rpzret (Z := (fun r M' L' => L' = L ∧ Z r M')) hx hb hr hlocks hK hI dX7_optionsAreGood_131 ⟨isB_1, ⟨rfl, h⟩⟩
      · have h := h.2 c4
        refine lv_aload_n hx hb dX7_optionsAreGood_16 rfl (lv_at hl 0 rfl) ?_
        refine va_get (D := (dC, dI)) (ci := 6) (v := .ref (a 1)) (C := RX7) (T := TX7) (N := 44) hx hb hu uX7 hown hK hI.1 0 rfl rfl 1 (by decide) (hu _ uww_538) (fun _ h9 => h9) rfl dX7_optionsAreGood_17 ?_
        refine lv_iload_n hx hb dX7_optionsAreGood_20 rfl (lv_at hl 1 rfl) ?_
        refine va_bald hx hb hK hI.1 1 0 rfl rfl h.1 dX7_optionsAreGood_21 ?_
        have h := h.2
        refine lv_if_eq (tgt := 130) hx hb dX7_optionsAreGood_22 (by decide) (fun c5 => ?_) (fun c5 => ?_)
        · have h := h.1 c5
          refine lv_iconst (v := (1 : Int32)) hx hb dX7_optionsAreGood_130 (by decide) ?_
          exact rpzret (Z := (fun r M' L' => L' = L ∧ Z r M')) hx hb hr hlocks hK hI dX7_optionsAreGood_131 ⟨isB_1, ⟨rfl, h⟩⟩
        · have h := h.2 c5
          refine lv_aload_n hx hb dX7_optionsAreGood_25 rfl (lv_at hl 0 rfl) ?_
          refine va_get (D := (dC, dI)) (ci := 6) (v := .ref (a 1)) (C := RX7) (T := TX7) (N := 44) hx hb hu uX7 hown hK hI.1 0 rfl rfl 1 (by decide) (hu _ uww_538) (fun _ h9 => h9) rfl dX7_optionsAreGood_26 ?_
          refine lv_iload_n hx hb dX7_optionsAreGood_29 rfl (lv_at hl 1 rfl) ?_
          refine rpcalli_p hsz hI (va_runS (As := [.ref (a 1), .int x2]) (rest := []) ⟨hx, hb, hml, hown, hu⟩ (met_X7_octetAt_1 l dC dI a kA t _ M3 L x2 _ h) (cwl_X7_111_S hu ⟨by decide, by decide⟩) (rppreS hK hE hsz hI) rfl rfl hl.1 rfl (lv_room (Nat.le_of_ble_eq_true rfl)) dX7_optionsAreGood_30 ⟨by decide, by decide⟩) (fun r6 H locs h hI => ?_)
          refine lv_istore_n (lv' := [(2, .int r6), (0, .ref (a 0)), (1, .int x2)]) hx hb dX7_optionsAreGood_33 rfl hl (by decide) rfl (fun ls hl => ?_)
          refine lv_iload_n hx hb dX7_optionsAreGood_34 rfl (lv_at hl 0 rfl) ?_
          refine lv_iconst (v := (1 : Int32)) hx hb dX7_optionsAreGood_35 (by decide) ?_
          refine lv_icmp_ne (tgt := 45) hx hb dX7_optionsAreGood_36 (by decide) (fun c7 => ?_) (fun c7 => ?_)
          · have h := h.1 c7
            refine lv_iload_n hx hb dX7_optionsAreGood_45 rfl (lv_at hl 2 rfl) ?_
            refine lv_iconst (v := (1 : Int32)) hx hb dX7_optionsAreGood_46 (by decide) ?_
            refine lv_iadd hx hb dX7_optionsAreGood_47 ?_
            refine lv_aload_n hx hb dX7_optionsAreGood_48 rfl (lv_at hl 1 rfl) ?_
            refine va_get (D := (dC, dI)) (ci := 6) (v := .int (M3 0 31)) (C := RX7) (T := TX7) (N := 44) hx hb hu uX7 hown hK hI.1 0 rfl rfl 31 (by decide) (hu _ uww_667) (fun _ h9 => h9) rfl dX7_optionsAreGood_49 ?_
            refine lv_icmp_lt (tgt := 57) hx hb dX7_optionsAreGood_52 (by decide) (fun c8 => ?_) (fun c8 => ?_)
            · have h := h.1 c8
              refine lv_aload_n hx hb dX7_optionsAreGood_57 rfl (lv_at hl 1 rfl) ?_
              refine va_get (D := (dC, dI)) (ci := 6) (v := .ref (a 1)) (C := RX7) (T := TX7) (N := 44) hx hb hu uX7 hown hK hI.1 0 rfl rfl 1 (by decide) (hu _ uww_538) (fun _ h9 => h9) rfl dX7_optionsAreGood_58 ?_
              refine lv_iload_n hx hb dX7_optionsAreGood_61 rfl (lv_at hl 2 rfl) ?_
              refine lv_iconst (v := (1 : Int32)) hx hb dX7_optionsAreGood_62 (by decide) ?_
              refine lv_iadd hx hb dX7_optionsAreGood_63 ?_
              refine rpcalli_p hsz hI (va_runS (As := [.ref (a 1), .int (x2 + (1 : Int32))]) (rest := []) ⟨hx, hb, hml, hown, hu⟩ (met_X7_octetAt_1 l dC dI a kA t _ M3 L (x2 + (1 : Int32)) _ h) (cwl_X7_111_S hu ⟨by decide, by decide⟩) (rppreS hK hE hsz hI) rfl rfl hl.1 rfl (lv_room (Nat.le_of_ble_eq_true rfl)) dX7_optionsAreGood_64 ⟨by decide, by decide⟩) (fun r9 H locs h hI => ?_)
              refine lv_istore_n (lv' := [(3, .int r9), (2, .int r6), (0, .ref (a 0)), (1, .int x2)]) hx hb dX7_optionsAreGood_67 rfl hl (by decide) rfl (fun ls hl => ?_)
              refine lv_iload_n hx hb dX7_optionsAreGood_68 rfl (lv_at hl 0 rfl) ?_
              refine lv_iconst (v := (2 : Int32)) hx hb dX7_optionsAreGood_69 (by decide) ?_
              refine lv_icmp_lt (tgt := 83) hx hb dX7_optionsAreGood_70 (by decide) (fun c10 => ?_) (fun c10 => ?_)
              · have h := h.1 c10
                refine lv_iconst (v := (0 : Int32)) hx hb dX7_optionsAreGood_83 (by decide) ?_
                exact rpzret (Z := (fun r M' L' => L' = L ∧ Z r M')) hx hb hr hlocks hK hI dX7_optionsAreGood_84 ⟨isB_0, ⟨rfl, h⟩⟩
              · have h := h.2 c10
                refine lv_iload_n hx hb dX7_optionsAreGood_73 rfl (lv_at hl 3 rfl) ?_
                refine lv_iload_n hx hb dX7_optionsAreGood_74 rfl (lv_at hl 0 rfl) ?_
                refine lv_iadd hx hb dX7_optionsAreGood_75 ?_
                refine lv_aload_n hx hb dX7_optionsAreGood_76 rfl (lv_at hl 2 rfl) ?_
                refine va_get (D := (dC, dI)) (ci := 6) (v := .int (M3 0 31)) (C := RX7) (T := TX7) (N := 44) hx hb hu uX7 hown hK hI.1 0 rfl rfl 31 (by decide) (hu _ uww_667) (fun _ h9 => h9) rfl dX7_optionsAreGood_77 ?_
                refine lv_icmp_le (tgt := 85) hx hb dX7_optionsAreGood_80 (by decide) (fun c11 => ?_) (fun c11 => ?_)
                · have h := h.1 c11
                  refine lv_iload_n hx hb dX7_optionsAreGood_85 rfl (lv_at hl 1 rfl) ?_
                  refine lv_sipush (v := (131 : Int32)) hx hb dX7_optionsAreGood_86 (by decide) ?_
                  obtain ⟨K123, hK123, h⟩ := h
                  have J123 : ∀ (M12 : cM) (H : Heap) (locs : List Loc) (ls : Array Slot), K123 M12 → rpI dC dI a kA (rpA a sz) s M12 L H locs → lv_has ls 4 [(0, .ref (a 0)), (1, .int x2), (3, .int r9)] → W p l e rm_X7_optionsAreGood_0 s m (av_X7_optionsAreGood_0 a t ).toArray below meth c H locs 0 0 (MQ below (qc_X7_optionsAreGood_0 dC dI a kA sz M L Z) (av_X7_optionsAreGood_0 a t ).toArray s 0 0 (rpA a sz)) (F0 m 123 ls []) := by
                    intro M12 H locs ls h hI hl
                    have h := hK123 M12 h
                    refine lv_iload_n hx hb dX7_optionsAreGood_123 rfl (lv_at hl 1 rfl) ?_
                    refine lv_iload_n hx hb dX7_optionsAreGood_124 rfl (lv_at hl 2 rfl) ?_
                    refine lv_iadd hx hb dX7_optionsAreGood_125 ?_
                    refine lv_topi (fun x13 ex13 => ?_)
                    have h := h x13 ex13
                    refine lv_istore_n (lv' := [(1, .int x13), (0, .ref (a 0)), (3, .int r9)]) hx hb dX7_optionsAreGood_126 rfl hl (by decide) rfl (fun ls hl => ?_)
                    refine lv_goto (tgt := 8) hx hb dX7_optionsAreGood_127 (by decide) ?_
                    exact ih8 x13 M12 _ _ _ h.1 (Nat.lt_of_lt_of_le h.2 (Nat.le_of_lt_succ hn8)) hI (lv_sub hl [1, 0] rfl)
                  obtain ⟨K99, hK99, h⟩ := h
                  have J99 : ∀  (H : Heap) (locs : List Loc) (ls : Array Slot), K99  → rpI dC dI a kA (rpA a sz) s M3 L H locs → lv_has ls 4 [(0, .ref (a 0)), (1, .int x2), (3, .int r9)] → W p l e rm_X7_optionsAreGood_0 s m (av_X7_optionsAreGood_0 a t ).toArray below meth c H locs 0 0 (MQ below (qc_X7_optionsAreGood_0 dC dI a kA sz M L Z) (av_X7_optionsAreGood_0 a t ).toArray s 0 0 (rpA a sz)) (F0 m 99 ls []) := by
                    intro  H locs ls h hI hl
                    have h := hK99  h
                    refine lv_iload_n hx hb dX7_optionsAreGood_99 rfl (lv_at hl 2 rfl) ?_
                    refine lv_iconst (v := (3 : Int32)) hx hb dX7_optionsAreGood_100 (by decide) ?_
                    refine lv_icmp_lt (tgt := 123) hx hb dX7_optionsAreGood_101 (by decide) (fun c14 => ?_) (fun c14 => ?_)
                    · have h := h.1 c14
                      exact J123 M3 _ _ _ h hI (lv_sub hl [0, 1, 2] rfl)
                    · have h := h.2 c14
                      refine lv_aload_n hx hb dX7_optionsAreGood_104 rfl (lv_at hl 0 rfl) ?_
                      refine va_get (D := (dC, dI)) (ci := 6) (v := .ref (a 1)) (C := RX7) (T := TX7) (N := 44) hx hb hu uX7 hown hK hI.1 0 rfl rfl 1 (by decide) (hu _ uww_538) (fun _ h9 => h9) rfl dX7_optionsAreGood_105 ?_
                      refine lv_iload_n hx hb dX7_optionsAreGood_108 rfl (lv_at hl 1 rfl) ?_
                      refine lv_iconst (v := (2 : Int32)) hx hb dX7_optionsAreGood_109 (by decide) ?_
                      refine lv_iadd hx hb dX7_optionsAreGood_110 ?_
                      refine rpcalli_p hsz hI (va_runS (As := [.ref (a 1), .int (x2 + (2 : Int32))]) (rest := []) ⟨hx, hb, hml, hown, hu⟩ (met_X7_octetAt_1 l dC dI a kA t _ M3 L (x2 + (2 : Int32)) _ h) (cwl_X7_111_S hu ⟨by decide, by decide⟩) (rppreS hK hE hsz hI) rfl rfl hl.1 rfl (lv_room (Nat.le_of_ble_eq_true rfl)) dX7_optionsAreGood_111 ⟨by decide, by decide⟩) (fun r15 H locs h hI => ?_)
                      refine lv_iload_n hx hb dX7_optionsAreGood_114 rfl (lv_at hl 2 rfl) ?_
                      refine lv_icmp_gt (tgt := 123) hx hb dX7_optionsAreGood_115 (by decide) (fun c16 => ?_) (fun c16 => ?_)
                      · have h := h.1 c16
                        exact J123 M3 _ _ _ h hI (lv_sub hl [0, 1, 2] rfl)
                      · have h := h.2 c16
                        refine lv_aload_n hx hb dX7_optionsAreGood_118 rfl (lv_at hl 0 rfl) ?_
                        refine lv_iconst (v := (1 : Int32)) hx hb dX7_optionsAreGood_119 (by decide) ?_
                        refine rpput (ci := 6) (C := RX7) (T := TX7) (N := 44) (ty := .boolean) hx hb hu uX7 tyX7 tyX7_ok nmX7 hown hK hI 0 rfl rfl 36 (by decide) (hu _ uww_675) (fun _ h9 => h9) rfl (by decide +kernel) isB_1.1 isB_1.2 (Nat.le_of_ble_eq_true rfl) (rpset_0_36 _ _ _ _ _) dX7_optionsAreGood_120 (fun H locs M17 eM17 hI => ?_)
                        have h := h M17 eM17
                        exact J123 M17 _ _ _ h hI (lv_sub hl [0, 1, 2] rfl)
                  refine lv_icmp_eq (tgt := 99) hx hb dX7_optionsAreGood_89 (by decide) (fun c18 => ?_) (fun c18 => ?_)
                  · have h := h.1 c18
                    exact J99  _ _ _ h hI (lv_sub hl [2, 3, 0] rfl)
                  · have h := h.2 c18
                    refine lv_iload_n hx hb dX7_optionsAreGood_92 rfl (lv_at hl 1 rfl) ?_
                    refine lv_sipush (v := (137 : Int32)) hx hb dX7_optionsAreGood_93 (by decide) ?_
                    refine lv_icmp_ne (tgt := 123) hx hb dX7_optionsAreGood_96 (by decide) (fun c19 => ?_) (fun c19 => ?_)
                    · have h := h.1 c19
                      exact J123 M3 _ _ _ h hI (lv_sub hl [2, 3, 0] rfl)
                    · have h := h.2 c19
                      exact J99  _ _ _ h hI (lv_sub hl [2, 3, 0] rfl)
                · have h := h.2 c11
                  refine lv_iconst (v := (0 : Int32)) hx hb dX7_optionsAreGood_83 (by decide) ?_
                  exact rpzret (Z := (fun r M' L' => L' = L ∧ Z r M')) hx hb hr hlocks hK hI dX7_optionsAreGood_84 ⟨isB_0, ⟨rfl, h⟩⟩
            · have h := h.2 c8
              refine lv_iconst (v := (0 : Int32)) hx hb dX7_optionsAreGood_55 (by decide) ?_
              exact rpzret (Z := (fun r M' L' => L' = L ∧ Z r M')) hx hb hr hlocks hK hI dX7_optionsAreGood_56 ⟨isB_0, ⟨rfl, h⟩⟩
          · have h := h.2 c7
            obtain ⟨x20, ex20⟩ : ∃ y : Int32, y = (x2 + (1 : Int32)) := ⟨_, rfl⟩
            have h := h x20 ex20
            refine lv_iinc (v := x20) (lv' := [(1, .int x20), (2, .int r6), (0, .ref (a 0))]) hx hb dX7_optionsAreGood_39 hl (k := 2) rfl (by rw [ex20]; rfl) (by decide) rfl (fun ls hl => ?_)
            refine lv_goto (tgt := 8) hx hb dX7_optionsAreGood_42 (by decide) ?_
            exact ih8 x20 M3 _ _ _ h.1 (Nat.lt_of_lt_of_le h.2 (Nat.le_of_lt_succ hn8)) hI (lv_sub hl [2, 0] rfl)
  exact P8 (m8 (20 : Int32) M1 + 1) (20 : Int32) M1 _ _ _ h (Nat.lt_succ_self _) hI (lv_sub hl [1, 0] rfl)
