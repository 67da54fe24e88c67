abbrev rm_X6_own_0 : Room := { frames := 0, cells := 0, slots := 0, locals := 0 }
abbrev av_X6_own_0 (a t : Nat → Nat) (p1 : Int32) (p2 : Int64) (p4 : Int64) : List Value := [.ref (a 0), .int p1, .long p2, .long p4]
abbrev qc_X6_own_0 (dC : Nat → ClassId) (dI : Nat → Nat → Nat) (a : Nat → Nat) (kA : Nat → ClassId) (sz : Nat) (M : cM) (L : cL) (Z : cM → cL → Prop) : Array Value → State → Outcome → State → Prop := va_Qv (fun (u : cM × cL) => Z u.1 u.2) (cpAt dC dI a kA (cpA a sz)) (cpA a sz)
set_option maxHeartbeats 4000000 in
set_option maxRecDepth 100000 in
theorem met_X6_own_0 (l : Launch) (dC : Nat → ClassId) (dI : Nat → Nat → Nat) (a : Nat → Nat) (kA : Nat → ClassId) (t : Nat → Nat) (sz : Nat) (M : cM) (L : cL) (p1 : Int32) (p2 : Int64) (p4 : Int64) (Z : cM → cL → Prop) (h : wp_X6_own_0 M L p1 p2 p4 Z) : Met l yX6_own (Cond.code yX6_own cX6_own 6 none :: uW) rm_X6_own_0 (va_Pc (av_X6_own_0 a t p1 p2 p4) (cpPre dC dI a kA t M L sz)) (qc_X6_own_0 dC dI a kA sz M L Z) 0 0 (cpA a sz) := by
  refine cpenter (cc := cX6_own) (n := 6) (ret := none) (by decide) rfl (Nat.le_of_ble_eq_true rfl) ?_
  intro p e s m below meth c ls hx hb hml hr hlocks hown hts hK hE hsz hI hl hmn
  have hu : ∀ w ∈ uW, w.before (av_X6_own_0 a t p1 p2 p4).toArray s = true := fun w h => hts w (List.mem_cons_of_mem _ h)
  have hown : s.vm.findClass RX6 = some m.cls := hown
  have hl : lv_has ls 6 [(0, .ref (a 0)), (1, .int p1), (2, .long p2), (4, .long p4)] := hl
  unfold wp_X6_own_0 at h
  refine lv_aload_n hx hb dX6_own_0 rfl (lv_at hl 0 rfl) ?_
  refine lv_iload_n hx hb dX6_own_1 rfl (lv_at hl 1 rfl) ?_
  refine cpput (ci := 5) (C := RX6) (T := TX6) (N := 17) (ty := .int) hx hb hu uX6 tyX6 tyX6_ok nmX6 hown hK hI 0 rfl rfl 9 (by decide) (hu _ uww_232) (fun _ h9 => h9) rfl (by decide +kernel) rfl rfl (Nat.le_of_ble_eq_true rfl) (cpset_0_9 _ _ _ _ _) dX6_own_2 (fun H locs M1 eM1 hI => ?_)
  have h := h M1 eM1
  refine lv_aload_n hx hb dX6_own_5 rfl (lv_at hl 0 rfl) ?_
  refine lv_lload_n hx hb dX6_own_6 rfl (lv_at hl 2 rfl) ?_
  refine cpputl (ci := 5) (C := RX6) (T := TX6) (N := 17) (ty := .long) hx hb hu uX6 tyX6 tyX6_ok nmX6 hown hK hI 0 rfl rfl 10 (by decide) (hu _ uww_234) (fun _ h9 => h9) rfl (by decide +kernel) rfl rfl (Nat.le_of_ble_eq_true rfl) (cpset_0_10 _ _ _ _ _) dX6_own_7 (fun H locs L2 eL2 hI => ?_)
  have h := h L2 eL2
  refine lv_aload_n hx hb dX6_own_10 rfl (lv_at hl 0 rfl) ?_
  refine lv_lload hx hb dX6_own_11 (lv_at hl 3 rfl) ?_
  refine cpputl (ci := 5) (C := RX6) (T := TX6) (N := 17) (ty := .long) hx hb hu uX6 tyX6 tyX6_ok nmX6 hown hK hI 0 rfl rfl 11 (by decide) (hu _ uww_235) (fun _ h9 => h9) rfl (by decide +kernel) rfl rfl (Nat.le_of_ble_eq_true rfl) (cpset_0_11 _ _ _ _ _) dX6_own_13 (fun H locs L3 eL3 hI => ?_)
  have h := h L3 eL3
  exact cpvret (Z := (fun M' L' => Z M' L')) hx hb hr hlocks hK hI dX6_own_16 h

abbrev rm_X6_ways_0 : Room := { frames := 0, cells := 0, slots := 0, locals := 0 }
abbrev av_X6_ways_0 (a t : Nat → Nat) (p1 : Int32) (p2 : Int32) : List Value := [.ref (a 0), .int p1, .int p2]
abbrev qc_X6_ways_0 (dC : Nat → ClassId) (dI : Nat → Nat → Nat) (a : Nat → Nat) (kA : Nat → ClassId) (sz : Nat) (M : cM) (L : cL) (Z : cM → Prop) : Array Value → State → Outcome → State → Prop := va_Qv (fun (u : cM × cL) => u.2 = L ∧ Z u.1) (cpAt dC dI a kA (cpA a sz)) (cpA a sz)
set_option maxHeartbeats 4000000 in
set_option maxRecDepth 100000 in
theorem met_X6_ways_0 (l : Launch) (dC : Nat → ClassId) (dI : Nat → Nat → Nat) (a : Nat → Nat) (kA : Nat → ClassId) (t : Nat → Nat) (sz : Nat) (M : cM) (L : cL) (p1 : Int32) (p2 : Int32) (Z : cM → Prop) (h : wp_X6_ways_0 M L p1 p2 Z) : Met l yX6_ways (Cond.code yX6_ways cX6_ways 3 none :: uW) rm_X6_ways_0 (va_Pc (av_X6_ways_0 a t p1 p2) (cpPre dC dI a kA t M L sz)) (qc_X6_ways_0 dC dI a kA sz M L Z) 0 0 (cpA a sz) := by
  refine cpenter (cc := cX6_ways) (n := 3) (ret := none) (by decide) rfl (Nat.le_of_ble_eq_true rfl) ?_
  intro p e s m below meth c ls hx hb hml hr hlocks hown hts hK hE hsz hI hl hmn
  have hu : ∀ w ∈ uW, w.before (av_X6_ways_0 a t p1 p2).toArray s = true := fun w h => hts w (List.mem_cons_of_mem _ h)
  have hown : s.vm.findClass RX6 = some m.cls := hown
  have hl : lv_has ls 3 [(0, .ref (a 0)), (1, .int p1), (2, .int p2)] := hl
  unfold wp_X6_ways_0 at h
  refine lv_aload_n hx hb dX6_ways_0 rfl (lv_at hl 0 rfl) ?_
  refine lv_iload_n hx hb dX6_ways_1 rfl (lv_at hl 1 rfl) ?_
  refine cpput (ci := 5) (C := RX6) (T := TX6) (N := 17) (ty := .boolean) hx hb hu uX6 tyX6 tyX6_ok nmX6 hown hK hI 0 rfl rfl 14 (by decide) (hu _ uww_238) (fun _ h9 => h9) rfl (by decide +kernel) h.1.1 h.1.2 (Nat.le_of_ble_eq_true rfl) (cpset_0_14 _ _ _ _ _) dX6_ways_2 (fun H locs M1 eM1 hI => ?_)
  have h := h.2 M1 eM1
  refine lv_aload_n hx hb dX6_ways_5 rfl (lv_at hl 0 rfl) ?_
  refine lv_iload_n hx hb dX6_ways_6 rfl (lv_at hl 2 rfl) ?_
  refine cpput (ci := 5) (C := RX6) (T := TX6) (N := 17) (ty := .boolean) hx hb hu uX6 tyX6 tyX6_ok nmX6 hown hK hI 0 rfl rfl 15 (by decide) (hu _ uww_239) (fun _ h9 => h9) rfl (by decide +kernel) h.1.1 h.1.2 (Nat.le_of_ble_eq_true rfl) (cpset_0_15 _ _ _ _ _) dX6_ways_7 (fun H locs M2 eM2 hI => ?_)
  have h := h.2 M2 eM2
  exact cpvret (Z := (fun M' L' => L' = L ∧ Z M')) hx hb hr hlocks hK hI dX6_ways_10 ⟨rfl, h⟩

abbrev rm_X3_clear_5 : Room := { frames := 0, cells := 0, slots := 0, locals := 0 }
abbrev av_X3_clear_5 (a t : Nat → Nat)  : List Value := [.ref (a 5)]
abbrev qc_X3_clear_5 (dC : Nat → ClassId) (dI : Nat → Nat → Nat) (a : Nat → Nat) (kA : Nat → ClassId) (sz : Nat) (M : cM) (L : cL) (Z : cM → Prop) : Array Value → State → Outcome → State → Prop := va_Qv (fun (u : cM × cL) => u.2 = L ∧ Z u.1) (cpAt dC dI a kA (cpA a sz)) (cpA a sz)
set_option maxHeartbeats 4000000 in
set_option maxRecDepth 100000 in
theorem met_X3_clear_5 (l : Launch) (dC : Nat → ClassId) (dI : Nat → Nat → Nat) (a : Nat → Nat) (kA : Nat → ClassId) (t : Nat → Nat) (sz : Nat) (M : cM) (L : cL)  (Z : cM → Prop) (h : wp_X3_clear_5 M L  Z) : Met l yX3_clear (Cond.code yX3_clear cX3_clear 1 none :: uW) rm_X3_clear_5 (va_Pc (av_X3_clear_5 a t ) (cpPre dC dI a kA t M L sz)) (qc_X3_clear_5 dC dI a kA sz M L Z) 0 0 (cpA a sz) := by
  refine cpenter (cc := cX3_clear) (n := 1) (ret := none) (by decide) rfl (Nat.le_of_ble_eq_true rfl) ?_
  intro p e s m below meth c ls hx hb hml hr hlocks hown hts hK hE hsz hI hl hmn
  have hu : ∀ w ∈ uW, w.before (av_X3_clear_5 a t ).toArray s = true := fun w h => hts w (List.mem_cons_of_mem _ h)
  have hown : s.vm.findClass RX3 = some m.cls := hown
  have hl : lv_has ls 1 [(0, .ref (a 5))] := hl
  unfold wp_X3_clear_5 at h
  refine lv_aload_n hx hb dX3_clear_0 rfl (lv_at hl 0 rfl) ?_
  refine lv_iconst (v := (0 : Int32)) hx hb dX3_clear_1 (by decide) ?_
  refine cpput (ci := 2) (C := RX3) (T := TX3) (N := 4) (ty := .int) hx hb hu uX3 tyX3 tyX3_ok nmX3 hown hK hI 5 rfl rfl 3 (by decide) (hu _ uww_137) (fun _ h9 => h9) rfl (by decide +kernel) rfl rfl (Nat.le_of_ble_eq_true rfl) (cpset_5_3 _ _ _ _ _) dX3_clear_2 (fun H locs M1 eM1 hI => ?_)
  have h := h M1 eM1
  refine lv_aload_n hx hb dX3_clear_5 rfl (lv_at hl 0 rfl) ?_
  refine va_get (D := (dC, dI)) (ci := 2) (v := .ref (a 6)) (C := RX3) (T := TX3) (N := 4) hx hb hu uX3 hown hK hI.1 5 rfl rfl 0 (by decide) (hu _ uww_128) (fun _ h9 => h9) rfl dX3_clear_6 ?_
  refine lv_iconst (v := (0 : Int32)) hx hb dX3_clear_9 (by decide) ?_
  refine cpputN (ci := 3) (C := RX4) (T := TX4) (N := 2) (ty := .int) hx hb hu uX4 tyX4 tyX4_ok nmX4 hown hK hI 6 rfl rfl 1 (by decide) (va_Nw.use rfl (hE.1 _ cpn_3)) (fun _ h9 => h9) rfl (by decide +kernel) rfl rfl (Nat.le_of_ble_eq_true rfl) (cpset_6_1 _ _ _ _ _) dX3_clear_10 (fun H locs M2 eM2 hI => ?_)
  have h := h M2 eM2
  exact cpvret (Z := (fun M' L' => L' = L ∧ Z M')) hx hb hr hlocks hK hI dX3_clear_13 ⟨rfl, h⟩

abbrev rm_X4_at_1 : Room := { frames := 0, cells := 0, slots := 0, locals := 0 }
abbrev av_X4_at_1 (a t : Nat → Nat) (p1 : Int32) : List Value := [.ref (a 1), .int p1]
abbrev qc_X4_at_1 (dC : Nat → ClassId) (dI : Nat → Nat → Nat) (a : Nat → Nat) (kA : Nat → ClassId) (sz : Nat) (M : cM) (L : cL) (Z : Int32 → Prop) : Array Value → State → Outcome → State → Prop := va_Qi (fun r (u : cM × cL) => u.1 = M ∧ u.2 = L ∧ Z r) (cpAt dC dI a kA (cpA a sz)) (cpA a sz)
set_option maxHeartbeats 4000000 in
set_option maxRecDepth 100000 in
theorem met_X4_at_1 (l : Launch) (dC : Nat → ClassId) (dI : Nat → Nat → Nat) (a : Nat → Nat) (kA : Nat → ClassId) (t : Nat → Nat) (sz : Nat) (M : cM) (L : cL) (p1 : Int32) (Z : Int32 → Prop) (h : wp_X4_at_1 M L p1 Z) : Met l yX4_at (Cond.code yX4_at cX4_at 2 (some .int) :: uW) rm_X4_at_1 (va_Pc (av_X4_at_1 a t p1) (cpPre dC dI a kA t M L sz)) (qc_X4_at_1 dC dI a kA sz M L Z) 0 0 (cpA a sz) := by
  refine cpenter (cc := cX4_at) (n := 2) (ret := (some .int)) (by decide) rfl (Nat.le_of_ble_eq_true rfl) ?_
  intro p e s m below meth c ls hx hb hml hr hlocks hown hts hK hE hsz hI hl hmn
  have hu : ∀ w ∈ uW, w.before (av_X4_at_1 a t p1).toArray s = true := fun w h => hts w (List.mem_cons_of_mem _ h)
  have hown : s.vm.findClass RX4 = some m.cls := hown
  have hl : lv_has ls 2 [(0, .ref (a 1)), (1, .int p1)] := hl
  unfold wp_X4_at_1 at h
  refine lv_iload_n hx hb dX4_at_0 rfl (lv_at hl 1 rfl) ?_
  refine lv_if_lt (tgt := 26) hx hb dX4_at_1 (by decide) (fun c1 => ?_) (fun c1 => ?_)
  · have h := h.1 c1
    refine lv_iconst (v := (0 : Int32)) hx hb dX4_at_26 (by decide) ?_
    exact cpiret (Z := (fun r M' L' => M' = M ∧ L' = L ∧ Z r)) hx hb hr hlocks hK hI dX4_at_27 ⟨rfl, rfl, h⟩
  · have h := h.2 c1
    refine lv_iload_n hx hb dX4_at_4 rfl (lv_at hl 1 rfl) ?_
    refine lv_aload_n hx hb dX4_at_5 rfl (lv_at hl 0 rfl) ?_
    refine va_get (D := (dC, dI)) (ci := 3) (v := .ref (a 2)) (C := RX4) (T := TX4) (N := 2) hx hb hu uX4 hown hK hI.1 1 rfl rfl 0 (by decide) (hu _ uww_52) (fun _ h9 => h9) rfl dX4_at_6 ?_
    refine va_alen (v := (2400 : Int32)) hx hb hK hI.1 2 0 rfl rfl rfl dX4_at_9 ?_
    refine lv_icmp_ge (tgt := 26) hx hb dX4_at_10 (by decide) (fun c2 => ?_) (fun c2 => ?_)
    · have h := h.1 c2
      refine lv_iconst (v := (0 : Int32)) hx hb dX4_at_26 (by decide) ?_
      exact cpiret (Z := (fun r M' L' => M' = M ∧ L' = L ∧ Z r)) hx hb hr hlocks hK hI dX4_at_27 ⟨rfl, rfl, h⟩
    · have h := h.2 c2
      refine lv_aload_n hx hb dX4_at_13 rfl (lv_at hl 0 rfl) ?_
      refine va_get (D := (dC, dI)) (ci := 3) (v := .ref (a 2)) (C := RX4) (T := TX4) (N := 2) hx hb hu uX4 hown hK hI.1 1 rfl rfl 0 (by decide) (hu _ uww_52) (fun _ h9 => h9) rfl dX4_at_14 ?_
      refine lv_iload_n hx hb dX4_at_17 rfl (lv_at hl 1 rfl) ?_
      refine va_bald hx hb hK hI.1 2 0 rfl rfl h.1 dX4_at_18 ?_
      have h := h.2
      refine lv_sipush (v := (255 : Int32)) hx hb dX4_at_19 (by decide) ?_
      refine lv_iand hx hb dX4_at_22 ?_
      refine lv_goto (tgt := 27) hx hb dX4_at_23 (by decide) ?_
      exact cpiret (Z := (fun r M' L' => M' = M ∧ L' = L ∧ Z r)) hx hb hr hlocks hK hI dX4_at_27 ⟨rfl, rfl, h⟩

abbrev rm_X4_word_1 : Room := { frames := 0, cells := 0, slots := 0, locals := 0 }
abbrev av_X4_word_1 (a t : Nat → Nat) (p1 : Int32) : List Value := [.ref (a 1), .int p1]
abbrev qc_X4_word_1 (dC : Nat → ClassId) (dI : Nat → Nat → Nat) (a : Nat → Nat) (kA : Nat → ClassId) (sz : Nat) (M : cM) (L : cL) (Z : Int32 → Prop) : Array Value → State → Outcome → State → Prop := va_Qi (fun r (u : cM × cL) => u.1 = M ∧ u.2 = L ∧ Z r) (cpAt dC dI a kA (cpA a sz)) (cpA a sz)
set_option maxHeartbeats 4000000 in
set_option maxRecDepth 100000 in
theorem met_X4_word_1 (l : Launch) (dC : Nat → ClassId) (dI : Nat → Nat → Nat) (a : Nat → Nat) (kA : Nat → ClassId) (t : Nat → Nat) (sz : Nat) (M : cM) (L : cL) (p1 : Int32) (Z : Int32 → Prop) (h : wp_X4_word_1 M L p1 Z) : Met l yX4_word (Cond.code yX4_word cX4_word 2 (some .int) :: uW) rm_X4_word_1 (va_Pc (av_X4_word_1 a t p1) (cpPre dC dI a kA t M L sz)) (qc_X4_word_1 dC dI a kA sz M L Z) 0 0 (cpA a sz) := by
  refine cpenter (cc := cX4_word) (n := 2) (ret := (some .int)) (by decide) rfl (Nat.le_of_ble_eq_true rfl) ?_
  intro p e s m below meth c ls hx hb hml hr hlocks hown hts hK hE hsz hI hl hmn
  have hu : ∀ w ∈ uW, w.before (av_X4_word_1 a t p1).toArray s = true := fun w h => hts w (List.mem_cons_of_mem _ h)
  have hown : s.vm.findClass RX4 = some m.cls := hown
  have hl : lv_has ls 2 [(0, .ref (a 1)), (1, .int p1)] := hl
  unfold wp_X4_word_1 at h
  refine lv_iload_n hx hb dX4_word_0 rfl (lv_at hl 1 rfl) ?_
  refine lv_if_lt (tgt := 44) hx hb dX4_word_1 (by decide) (fun c1 => ?_) (fun c1 => ?_)
  · have h := h.1 c1
    refine lv_iconst (v := (0 : Int32)) hx hb dX4_word_44 (by decide) ?_
    exact cpiret (Z := (fun r M' L' => M' = M ∧ L' = L ∧ Z r)) hx hb hr hlocks hK hI dX4_word_45 ⟨rfl, rfl, h⟩
  · have h := h.2 c1
    refine lv_iload_n hx hb dX4_word_4 rfl (lv_at hl 1 rfl) ?_
    refine lv_aload_n hx hb dX4_word_5 rfl (lv_at hl 0 rfl) ?_
    refine va_get (D := (dC, dI)) (ci := 3) (v := .ref (a 2)) (C := RX4) (T := TX4) (N := 2) hx hb hu uX4 hown hK hI.1 1 rfl rfl 0 (by decide) (hu _ uww_52) (fun _ h9 => h9) rfl dX4_word_6 ?_
    refine va_alen (v := (2400 : Int32)) hx hb hK hI.1 2 0 rfl rfl rfl dX4_word_9 ?_
    refine lv_iconst (v := (1 : Int32)) hx hb dX4_word_10 (by decide) ?_
    refine lv_isub hx hb dX4_word_11 ?_
    refine lv_icmp_ge (tgt := 44) hx hb dX4_word_12 (by decide) (fun c2 => ?_) (fun c2 => ?_)
    · have h := h.1 c2
      refine lv_iconst (v := (0 : Int32)) hx hb dX4_word_44 (by decide) ?_
      exact cpiret (Z := (fun r M' L' => M' = M ∧ L' = L ∧ Z r)) hx hb hr hlocks hK hI dX4_word_45 ⟨rfl, rfl, h⟩
    · have h := h.2 c2
      refine lv_aload_n hx hb dX4_word_15 rfl (lv_at hl 0 rfl) ?_
      refine va_get (D := (dC, dI)) (ci := 3) (v := .ref (a 2)) (C := RX4) (T := TX4) (N := 2) hx hb hu uX4 hown hK hI.1 1 rfl rfl 0 (by decide) (hu _ uww_52) (fun _ h9 => h9) rfl dX4_word_16 ?_
      refine lv_iload_n hx hb dX4_word_19 rfl (lv_at hl 1 rfl) ?_
      refine va_bald hx hb hK hI.1 2 0 rfl rfl h.1 dX4_word_20 ?_
      have h := h.2
      refine lv_sipush (v := (255 : Int32)) hx hb dX4_word_21 (by decide) ?_
      refine lv_iand hx hb dX4_word_24 ?_
      refine lv_bipush (v := (8 : Int32)) hx hb dX4_word_25 (by decide) ?_
      refine lv_ishl hx hb dX4_word_27 ?_
      refine lv_aload_n hx hb dX4_word_28 rfl (lv_at hl 0 rfl) ?_
      refine va_get (D := (dC, dI)) (ci := 3) (v := .ref (a 2)) (C := RX4) (T := TX4) (N := 2) hx hb hu uX4 hown hK hI.1 1 rfl rfl 0 (by decide) (hu _ uww_52) (fun _ h9 => h9) rfl dX4_word_29 ?_
      refine lv_iload_n hx hb dX4_word_32 rfl (lv_at hl 1 rfl) ?_
      refine lv_iconst (v := (1 : Int32)) hx hb dX4_word_33 (by decide) ?_
      refine lv_iadd hx hb dX4_word_34 ?_
      refine va_bald hx hb hK hI.1 2 0 rfl rfl h.1 dX4_word_35 ?_
      have h := h.2
      refine lv_sipush (v := (255 : Int32)) hx hb dX4_word_36 (by decide) ?_
      refine lv_iand hx hb dX4_word_39 ?_
      refine lv_ior hx hb dX4_word_40 ?_
      refine lv_goto (tgt := 45) hx hb dX4_word_41 (by decide) ?_
      exact cpiret (Z := (fun r M' L' => M' = M ∧ L' = L ∧ Z r)) hx hb hr hlocks hK hI dX4_word_45 ⟨rfl, rfl, h⟩

abbrev rm_X4_number_1 : Room := { frames := 1, cells := 0, slots := 0, locals := 21 }
abbrev av_X4_number_1 (a t : Nat → Nat) (p1 : Int32) (p2 : Int32) : List Value := [.ref (a 1), .int p1, .int p2]
abbrev qc_X4_number_1 (dC : Nat → ClassId) (dI : Nat → Nat → Nat) (a : Nat → Nat) (kA : Nat → ClassId) (sz : Nat) (M : cM) (L : cL) (Z : Int64 → Prop) : Array Value → State → Outcome → State → Prop := va_Ql (fun r (u : cM × cL) => u.1 = M ∧ u.2 = L ∧ Z r) (cpAt dC dI a kA (cpA a sz)) (cpA a sz)
set_option maxHeartbeats 4000000 in
set_option maxRecDepth 100000 in
theorem met_X4_number_1 (l : Launch) (dC : Nat → ClassId) (dI : Nat → Nat → Nat) (a : Nat → Nat) (kA : Nat → ClassId) (t : Nat → Nat) (sz : Nat) (M : cM) (L : cL) (p1 : Int32) (p2 : Int32) (Z : Int64 → Prop) (h : wp_X4_number_1 M L p1 p2 Z) : Met l yX4_number (Cond.code yX4_number cX4_number 6 (some .long) :: uW) rm_X4_number_1 (va_Pc (av_X4_number_1 a t p1 p2) (cpPre dC dI a kA t M L sz)) (qc_X4_number_1 dC dI a kA sz M L Z) 0 0 (cpA a sz) := by
  refine cpenter (cc := cX4_number) (n := 6) (ret := (some .long)) (by decide) rfl (Nat.le_of_ble_eq_true rfl) ?_
  intro p e s m below meth c ls hx hb hml hr hlocks hown hts hK hE hsz hI hl hmn
  have hu : ∀ w ∈ uW, w.before (av_X4_number_1 a t p1 p2).toArray s = true := fun w h => hts w (List.mem_cons_of_mem _ h)
  have hown : s.vm.findClass RX4 = some m.cls := hown
  have hl : lv_has ls 6 [(0, .ref (a 1)), (1, .int p1), (2, .int p2)] := hl
  unfold wp_X4_number_1 at h
  refine lv_lconst (v := (0 : Int64)) hx hb dX4_number_0 (by decide) ?_
  refine lv_lstore_n (lv' := [(3, .long (0 : Int64)), (0, .ref (a 1)), (1, .int p1), (2, .int p2)]) hx hb dX4_number_1 rfl hl (by decide) rfl (fun ls hl => ?_)
  refine lv_iconst (v := (0 : Int32)) hx hb dX4_number_2 (by decide) ?_
  refine lv_istore (lv' := [(5, .int (0 : Int32)), (3, .long (0 : Int64)), (0, .ref (a 1)), (1, .int p1), (2, .int p2)]) hx hb dX4_number_3 hl (by decide) rfl (fun ls hl => ?_)
  obtain ⟨I5, m5, h, hs5⟩ := h
  have P5 : ∀ (n5 : Nat) (x1 : Int64) (x2 : Int32) (H : Heap) (locs : List Loc) (ls : Array Slot), I5 x1 x2 → m5 x1 x2 < n5 → cpI dC dI a kA (cpA a sz) s M L H locs → lv_has ls 6 [(0, .ref (a 1)), (1, .int p1), (2, .int p2), (3, .long x1), (5, .int x2)] → W p l e rm_X4_number_1 s m (av_X4_number_1 a t p1 p2).toArray below meth c H locs 0 0 (MQ below (qc_X4_number_1 dC dI a kA sz M L Z) (av_X4_number_1 a t p1 p2).toArray s 0 0 (cpA a sz)) (F0 m 5 ls []) := by
    intro n5
    induction n5 with
    | zero => intro x1 x2 H locs ls _ hn; exact absurd hn (Nat.not_lt_zero _)
    | succ n5 ih5 =>
      intro x1 x2 H locs ls h hn5 hI hl
      have h := hs5 x1 x2 h
      refine lv_iload hx hb dX4_number_5 (lv_at hl 4 rfl) ?_
      refine lv_iload_n hx hb dX4_number_7 rfl (lv_at hl 2 rfl) ?_
      refine lv_icmp_ge (tgt := 32) hx hb dX4_number_8 (by decide) (fun c3 => ?_) (fun c3 => ?_)
      · have h := h.1 c3
        refine lv_lload_n hx hb dX4_number_32 rfl (lv_at hl 3 rfl) ?_
        exact cplret (Z := (fun r M' L' => M' = M ∧ L' = L ∧ Z r)) hx hb hr hlocks hK hI dX4_number_33 ⟨rfl, rfl, h⟩
      · have h := h.2 c3
        refine lv_lload_n hx hb dX4_number_11 rfl (lv_at hl 3 rfl) ?_
        refine lv_bipush (v := (8 : Int32)) hx hb dX4_number_12 (by decide) ?_
        refine lv_lshl hx hb dX4_number_14 rfl ?_
        refine lv_aload_n hx hb dX4_number_15 rfl (lv_at hl 0 rfl) ?_
        refine lv_iload_n hx hb dX4_number_16 rfl (lv_at hl 1 rfl) ?_
        refine lv_iload hx hb dX4_number_17 (lv_at hl 4 rfl) ?_
        refine lv_iadd hx hb dX4_number_19 ?_
        refine cpcalli_p hsz hI (va_runV (As := [.int (p1 + x2)]) (rest := [.long (x1 <<< ((8 : Int32).toInt64 &&& 63))]) ⟨hx, hb, hml, hown, hu⟩ (met_X4_at_1 l dC dI a kA t _ M L (p1 + x2) _ h) (cwl_X4_13_X4 hu ⟨by decide, by decide⟩) (cppre (ci := 3) hK hE hsz hI rfl rfl) rfl rfl hl.1 rfl (lv_room (Nat.le_of_ble_eq_true rfl)) dX4_number_20 ⟨by decide, by decide⟩) (fun r4 H locs h hI => ?_)
        refine lv_i2l hx hb dX4_number_23 rfl ?_
        refine lv_lor hx hb dX4_number_24 ?_
        refine lv_topl (fun x5 ex5 => ?_)
        have h := h x5 ex5
        refine lv_lstore_n (lv' := [(3, .long x5), (0, .ref (a 1)), (1, .int p1), (2, .int p2), (5, .int x2)]) hx hb dX4_number_25 rfl hl (by decide) rfl (fun ls hl => ?_)
        obtain ⟨x6, ex6⟩ : ∃ y : Int32, y = (x2 + (1 : Int32)) := ⟨_, rfl⟩
        have h := h x6 ex6
        refine lv_iinc (v := x6) (lv' := [(5, .int x6), (3, .long x5), (0, .ref (a 1)), (1, .int p1), (2, .int p2)]) hx hb dX4_number_26 hl (k := 4) rfl (by rw [ex6]; rfl) (by decide) rfl (fun ls hl => ?_)
        refine lv_goto (tgt := 5) hx hb dX4_number_29 (by decide) ?_
        exact ih5 x5 x6 _ _ _ h.1 (Nat.lt_of_lt_of_le h.2 (Nat.le_of_lt_succ hn5)) hI (lv_sub hl [2, 3, 4, 1, 0] rfl)
  exact P5 (m5 (0 : Int64) (0 : Int32) + 1) (0 : Int64) (0 : Int32) _ _ _ h (Nat.lt_succ_self _) hI (lv_sub hl [2, 3, 4, 1, 0] rfl)

abbrev rm_X4_sum_1 : Room := { frames := 1, cells := 0, slots := 0, locals := 21 }
abbrev av_X4_sum_1 (a t : Nat → Nat) (p1 : Int32) (p2 : Int32) : List Value := [.ref (a 1), .int p1, .int p2]
abbrev qc_X4_sum_1 (dC : Nat → ClassId) (dI : Nat → Nat → Nat) (a : Nat → Nat) (kA : Nat → ClassId) (sz : Nat) (M : cM) (L : cL) (Z : Int64 → Prop) : Array Value → State → Outcome → State → Prop := va_Ql (fun r (u : cM × cL) => u.1 = M ∧ u.2 = L ∧ Z r) (cpAt dC dI a kA (cpA a sz)) (cpA a sz)
set_option maxHeartbeats 4000000 in
set_option maxRecDepth 100000 in
theorem met_X4_sum_1 (l : Launch) (dC : Nat → ClassId) (dI : Nat → Nat → Nat) (a : Nat → Nat) (kA : Nat → ClassId) (t : Nat → Nat) (sz : Nat) (M : cM) (L : cL) (p1 : Int32) (p2 : Int32) (Z : Int64 → Prop) (h : wp_X4_sum_1 M L p1 p2 Z) : Met l yX4_sum (Cond.code yX4_sum cX4_sum 7 (some .long) :: uW) rm_X4_sum_1 (va_Pc (av_X4_sum_1 a t p1 p2) (cpPre dC dI a kA t M L sz)) (qc_X4_sum_1 dC dI a kA sz M L Z) 0 0 (cpA a sz) := by
  refine cpenter (cc := cX4_sum) (n := 7) (ret := (some .long)) (by decide) rfl (Nat.le_of_ble_eq_true rfl) ?_
  intro p e s m below meth c ls hx hb hml hr hlocks hown hts hK hE hsz hI hl hmn
  have hu : ∀ w ∈ uW, w.before (av_X4_sum_1 a t p1 p2).toArray s = true := fun w h => hts w (List.mem_cons_of_mem _ h)
  have hown : s.vm.findClass RX4 = some m.cls := hown
  have hl : lv_has ls 7 [(0, .ref (a 1)), (1, .int p1), (2, .int p2)] := hl
  unfold wp_X4_sum_1 at h
  refine lv_lconst (v := (0 : Int64)) hx hb dX4_sum_0 (by decide) ?_
  refine lv_lstore_n (lv' := [(3, .long (0 : Int64)), (0, .ref (a 1)), (1, .int p1), (2, .int p2)]) hx hb dX4_sum_1 rfl hl (by decide) rfl (fun ls hl => ?_)
  refine lv_iload_n hx hb dX4_sum_2 rfl (lv_at hl 2 rfl) ?_
  refine lv_istore (lv' := [(5, .int p1), (3, .long (0 : Int64)), (0, .ref (a 1)), (1, .int p1), (2, .int p2)]) hx hb dX4_sum_3 hl (by decide) rfl (fun ls hl => ?_)
  obtain ⟨I5, m5, h, hs5⟩ := h
  have P5 : ∀ (n5 : Nat) (x1 : Int64) (x2 : Int32) (H : Heap) (locs : List Loc) (ls : Array Slot), I5 x1 x2 → m5 x1 x2 < n5 → cpI dC dI a kA (cpA a sz) s M L H locs → lv_has ls 7 [(0, .ref (a 1)), (1, .int p1), (2, .int p2), (3, .long x1), (5, .int x2)] → W p l e rm_X4_sum_1 s m (av_X4_sum_1 a t p1 p2).toArray below meth c H locs 0 0 (MQ below (qc_X4_sum_1 dC dI a kA sz M L Z) (av_X4_sum_1 a t p1 p2).toArray s 0 0 (cpA a sz)) (F0 m 5 ls []) := by
    intro n5
    induction n5 with
    | zero => intro x1 x2 H locs ls _ hn; exact absurd hn (Nat.not_lt_zero _)
    | succ n5 ih5 =>
      intro x1 x2 H locs ls h hn5 hI hl
      have h := hs5 x1 x2 h
      refine lv_iload hx hb dX4_sum_5 (lv_at hl 4 rfl) ?_
      refine lv_iload_n hx hb dX4_sum_7 rfl (lv_at hl 2 rfl) ?_
      refine lv_icmp_ge (tgt := 49) hx hb dX4_sum_8 (by decide) (fun c3 => ?_) (fun c3 => ?_)
      · have h := h.1 c3
        refine lv_lload_n hx hb dX4_sum_49 rfl (lv_at hl 3 rfl) ?_
        exact cplret (Z := (fun r M' L' => M' = M ∧ L' = L ∧ Z r)) hx hb hr hlocks hK hI dX4_sum_50 ⟨rfl, rfl, h⟩
      · have h := h.2 c3
        refine lv_aload_n hx hb dX4_sum_11 rfl (lv_at hl 0 rfl) ?_
        refine lv_iload hx hb dX4_sum_12 (lv_at hl 4 rfl) ?_
        refine cpcalli_p hsz hI (va_runV (As := [.int x2]) (rest := []) ⟨hx, hb, hml, hown, hu⟩ (met_X4_at_1 l dC dI a kA t _ M L x2 _ h) (cwl_X4_13_X4 hu ⟨by decide, by decide⟩) (cppre (ci := 3) hK hE hsz hI rfl rfl) rfl rfl hl.1 rfl (lv_room (Nat.le_of_ble_eq_true rfl)) dX4_sum_14 ⟨by decide, by decide⟩) (fun r4 H locs h hI => ?_)
        refine lv_istore (lv' := [(6, .int r4), (0, .ref (a 1)), (1, .int p1), (2, .int p2), (3, .long x1), (5, .int x2)]) hx hb dX4_sum_17 hl (by decide) rfl (fun ls hl => ?_)
        refine lv_lload_n hx hb dX4_sum_19 rfl (lv_at hl 4 rfl) ?_
        refine lv_iload hx hb dX4_sum_20 (lv_at hl 5 rfl) ?_
        refine lv_iload_n hx hb dX4_sum_22 rfl (lv_at hl 2 rfl) ?_
        refine lv_isub hx hb dX4_sum_23 ?_
        refine lv_iconst (v := (1 : Int32)) hx hb dX4_sum_24 (by decide) ?_
        refine lv_iand hx hb dX4_sum_25 ?_
        obtain ⟨K41, hK41, h⟩ := h
        have J41 : ∀ (v5 : Int64) (H : Heap) (locs : List Loc) (ls : Array Slot), K41 v5 → cpI dC dI a kA (cpA a sz) s M L H locs → lv_has ls 7 [(0, .ref (a 1)), (1, .int p1), (2, .int p2), (5, .int x2)] → W p l e rm_X4_sum_1 s m (av_X4_sum_1 a t p1 p2).toArray below meth c H locs 0 0 (MQ below (qc_X4_sum_1 dC dI a kA sz M L Z) (av_X4_sum_1 a t p1 p2).toArray s 0 0 (cpA a sz)) (F0 m 41 ls [.long v5, .long x1]) := by
          intro v5 H locs ls h hI hl
          have h := hK41 v5 h
          refine lv_ladd hx hb dX4_sum_41 ?_
          refine lv_topl (fun x6 ex6 => ?_)
          have h := h x6 ex6
          refine lv_lstore_n (lv' := [(3, .long x6), (0, .ref (a 1)), (1, .int p1), (2, .int p2), (5, .int x2)]) hx hb dX4_sum_42 rfl hl (by decide) rfl (fun ls hl => ?_)
          obtain ⟨x7, ex7⟩ : ∃ y : Int32, y = (x2 + (1 : Int32)) := ⟨_, rfl⟩
          have h := h x7 ex7
          refine lv_iinc (v := x7) (lv' := [(5, .int x7), (3, .long x6), (0, .ref (a 1)), (1, .int p1), (2, .int p2)]) hx hb dX4_sum_43 hl (k := 4) rfl (by rw [ex7]; rfl) (by decide) rfl (fun ls hl => ?_)
          refine lv_goto (tgt := 5) hx hb dX4_sum_46 (by decide) ?_
          exact ih5 x6 x7 _ _ _ h.1 (Nat.lt_of_lt_of_le h.2 (Nat.le_of_lt_succ hn5)) hI (lv_sub hl [2, 3, 4, 1, 0] rfl)
        refine lv_if_ne (tgt := 38) hx hb dX4_sum_26 (by decide) (fun c8 => ?_) (fun c8 => ?_)
        · have h := h.1 c8
          refine lv_iload hx hb dX4_sum_38 (lv_at hl 0 rfl) ?_
          refine lv_i2l hx hb dX4_sum_40 rfl ?_
          exact J41 (r4.toInt64) _ _ _ h hI (lv_sub hl [1, 2, 3, 5] rfl)
        · have h := h.2 c8
          refine lv_iload hx hb dX4_sum_29 (lv_at hl 0 rfl) ?_
          refine lv_bipush (v := (8 : Int32)) hx hb dX4_sum_31 (by decide) ?_
          refine lv_ishl hx hb dX4_sum_33 ?_
          refine lv_i2l hx hb dX4_sum_34 rfl ?_
          refine lv_goto (tgt := 41) hx hb dX4_sum_35 (by decide) ?_
          exact J41 ((r4 <<< ((8 : Int32) &&& 31)).toInt64) _ _ _ h hI (lv_sub hl [1, 2, 3, 5] rfl)
  exact P5 (m5 (0 : Int64) p1 + 1) (0 : Int64) p1 _ _ _ h (Nat.lt_succ_self _) hI (lv_sub hl [2, 3, 4, 1, 0] rfl)

abbrev rm_X0_read_11_1 : Room := { frames := 2, cells := 0, slots := 0, locals := 47 }
abbrev av_X0_read_11_1 (a t : Nat → Nat) (p2 : Int32) (p3 : Int32) : List Value := [.ref (a 11), .ref (a 1), .int p2, .int p3]
abbrev qc_X0_read_11_1 (dC : Nat → ClassId) (dI : Nat → Nat → Nat) (a : Nat → Nat) (kA : Nat → ClassId) (sz : Nat) (M : cM) (L : cL) (Z : Int32 → cM → cL → Prop) : Array Value → State → Outcome → State → Prop := va_Qi (fun r (u : cM × cL) => Z r u.1 u.2) (cpAt dC dI a kA (cpA a sz)) (cpA a sz)
set_option maxHeartbeats 4000000 in
set_option maxRecDepth 100000 in
theorem met_X0_read_11_1 (l : Launch) (dC : Nat → ClassId) (dI : Nat → Nat → Nat) (a : Nat → Nat) (kA : Nat → ClassId) (t : Nat → Nat) (sz : Nat) (M : cM) (L : cL) (p2 : Int32) (p3 : Int32) (Z : Int32 → cM → cL → Prop) (h : wp_X0_read_11_1 M L p2 p3 Z) : Met l yX0_read (Cond.code yX0_read cX0_read 7 (some .boolean) :: uW) rm_X0_read_11_1 (va_Pc (av_X0_read_11_1 a t p2 p3) (cpPre dC dI a kA t M L sz)) (qc_X0_read_11_1 dC dI a kA sz M L Z) 0 0 (cpA a sz) := by
  refine cpenter (cc := cX0_read) (n := 7) (ret := (some .boolean)) (by decide) rfl (Nat.le_of_ble_eq_true rfl) ?_
  intro p e s m below meth c ls hx hb hml hr hlocks hown hts hK hE hsz hI hl hmn
  have hu : ∀ w ∈ uW, w.before (av_X0_read_11_1 a t p2 p3).toArray s = true := fun w h => hts w (List.mem_cons_of_mem _ h)
  have hown : s.vm.findClass RX0 = some m.cls := hown
  have hl : lv_has ls 7 [(0, .ref (a 11)), (1, .ref (a 1)), (2, .int p2), (3, .int p3)] := hl
  unfold wp_X0_read_11_1 at h
  refine lv_aload_n hx hb dX0_read_0 rfl (lv_at hl 1 rfl) ?_
  refine lv_iload_n hx hb dX0_read_1 rfl (lv_at hl 2 rfl) ?_
  refine cpcalli_p hsz hI (va_runV (As := [.int p2]) (rest := []) ⟨hx, hb, hml, hown, hu⟩ (met_X4_at_1 l dC dI a kA t _ M L p2 _ h) (cwl_X0_44_X4 hu ⟨by decide, by decide⟩) (cppre (ci := 3) hK hE hsz hI rfl rfl) rfl rfl hl.1 rfl (lv_room (Nat.le_of_ble_eq_true rfl)) dX0_read_2 ⟨by decide, by decide⟩) (fun r1 H locs h hI => ?_)
  refine lv_istore (lv' := [(4, .int r1), (0, .ref (a 11)), (1, .ref (a 1)), (2, .int p2), (3, .int p3)]) hx hb dX0_read_5 hl (by decide) rfl (fun ls hl => ?_)
  refine lv_aload_n hx hb dX0_read_7 rfl (lv_at hl 1 rfl) ?_
  refine lv_iload hx hb dX0_read_8 (lv_at hl 0 rfl) ?_
  refine lv_bipush (v := (15 : Int32)) hx hb dX0_read_10 (by decide) ?_
  refine lv_iand hx hb dX0_read_12 ?_
  refine lv_iconst (v := (4 : Int32)) hx hb dX0_read_13 (by decide) ?_
  refine lv_imul hx hb dX0_read_14 ?_
  refine cpput (ci := 0) (C := RX0) (T := TX0) (N := 18) (ty := .int) hx hb hu uX0 tyX0 tyX0_ok nmX0 hown hK hI 11 rfl rfl 14 (by decide) (hu _ uww_9) (fun _ h9 => h9) rfl (by decide +kernel) rfl rfl (Nat.le_of_ble_eq_true rfl) (cpset_11_14 _ _ _ _ _) dX0_read_15 (fun H locs M2 eM2 hI => ?_)
  have h := h M2 eM2
  refine lv_aload_n hx hb dX0_read_18 rfl (lv_at hl 1 rfl) ?_
  refine lv_aload_n hx hb dX0_read_19 rfl (lv_at hl 2 rfl) ?_
  refine lv_iload_n hx hb dX0_read_20 rfl (lv_at hl 3 rfl) ?_
  refine lv_iconst (v := (2 : Int32)) hx hb dX0_read_21 (by decide) ?_
  refine lv_iadd hx hb dX0_read_22 ?_
  refine cpcalli_p hsz hI (va_runV (As := [.int (p2 + (2 : Int32))]) (rest := [.ref (a 11)]) ⟨hx, hb, hml, hown, hu⟩ (met_X4_word_1 l dC dI a kA t _ M2 L (p2 + (2 : Int32)) _ h) (cwl_X0_48_X4 hu ⟨by decide, by decide⟩) (cppre (ci := 3) hK hE hsz hI rfl rfl) rfl rfl hl.1 rfl (lv_room (Nat.le_of_ble_eq_true rfl)) dX0_read_23 ⟨by decide, by decide⟩) (fun r3 H locs h hI => ?_)
  refine cpput (ci := 0) (C := RX0) (T := TX0) (N := 18) (ty := .int) hx hb hu uX0 tyX0 tyX0_ok nmX0 hown hK hI 11 rfl rfl 15 (by decide) (hu _ uww_8) (fun _ h9 => h9) rfl (by decide +kernel) rfl rfl (Nat.le_of_ble_eq_true rfl) (cpset_11_15 _ _ _ _ _) dX0_read_26 (fun H locs M4 eM4 hI => ?_)
  have h := h M4 eM4
  refine lv_iload_n hx hb dX0_read_29 rfl (lv_at hl 4 rfl) ?_
  refine lv_iload_n hx hb dX0_read_30 rfl (lv_at hl 3 rfl) ?_
  refine lv_isub hx hb dX0_read_31 ?_
  refine lv_bipush (v := (20 : Int32)) hx hb dX0_read_32 (by decide) ?_
  obtain ⟨K52, hK52, h⟩ := h
  have J52 : ∀ (v5 : Int32) (H : Heap) (locs : List Loc) (ls : Array Slot), K52 v5 → cpI dC dI a kA (cpA a sz) s M4 L H locs → lv_has ls 7 [(0, .ref (a 11)), (1, .ref (a 1)), (2, .int p2), (3, .int p3), (4, .int r1)] → W p l e rm_X0_read_11_1 s m (av_X0_read_11_1 a t p2 p3).toArray below meth c H locs 0 0 (MQ below (qc_X0_read_11_1 dC dI a kA sz M L Z) (av_X0_read_11_1 a t p2 p3).toArray s 0 0 (cpA a sz)) (F0 m 52 ls [.int v5]) := by
    intro v5 H locs ls h hI hl
    have h := hK52 v5 h
    refine lv_istore (lv' := [(5, .int v5), (0, .ref (a 11)), (1, .ref (a 1)), (2, .int p2), (3, .int p3), (4, .int r1)]) hx hb dX0_read_52 hl (by decide) rfl (fun ls hl => ?_)
    refine lv_iload hx hb dX0_read_54 (lv_at hl 0 rfl) ?_
    refine lv_if_eq (tgt := 87) hx hb dX0_read_56 (by decide) (fun c6 => ?_) (fun c6 => ?_)
    · have h := h.1 c6
      refine lv_iconst (v := (0 : Int32)) hx hb dX0_read_87 (by decide) ?_
      exact cpzret (Z := (fun r M' L' => Z r M' L')) hx hb hr hlocks hK hI dX0_read_88 ⟨isB_0, h⟩
    · have h := h.2 c6
      refine lv_iload hx hb dX0_read_59 (lv_at hl 5 rfl) ?_
      refine lv_iconst (v := (4 : Int32)) hx hb dX0_read_61 (by decide) ?_
      refine lv_ishr hx hb dX0_read_62 ?_
      refine lv_iconst (v := (4 : Int32)) hx hb dX0_read_63 (by decide) ?_
      refine lv_icmp_ne (tgt := 87) hx hb dX0_read_64 (by decide) (fun c7 => ?_) (fun c7 => ?_)
      · have h := h.1 c7
        refine lv_iconst (v := (0 : Int32)) hx hb dX0_read_87 (by decide) ?_
        exact cpzret (Z := (fun r M' L' => Z r M' L')) hx hb hr hlocks hK hI dX0_read_88 ⟨isB_0, h⟩
      · have h := h.2 c7
        refine lv_aload_n hx hb dX0_read_67 rfl (lv_at hl 1 rfl) ?_
        refine va_get (D := (dC, dI)) (ci := 0) (v := .int (M4 11 14)) (C := RX0) (T := TX0) (N := 18) hx hb hu uX0 hown hK hI.1 11 rfl rfl 14 (by decide) (hu _ uww_9) (fun _ h9 => h9) rfl dX0_read_68 ?_
        refine lv_bipush (v := (20 : Int32)) hx hb dX0_read_71 (by decide) ?_
        refine lv_icmp_lt (tgt := 87) hx hb dX0_read_73 (by decide) (fun c8 => ?_) (fun c8 => ?_)
        · have h := h.1 c8
          refine lv_iconst (v := (0 : Int32)) hx hb dX0_read_87 (by decide) ?_
          exact cpzret (Z := (fun r M' L' => Z r M' L')) hx hb hr hlocks hK hI dX0_read_88 ⟨isB_0, h⟩
        · have h := h.2 c8
          refine lv_aload_n hx hb dX0_read_76 rfl (lv_at hl 1 rfl) ?_
          refine va_get (D := (dC, dI)) (ci := 0) (v := .int (M4 11 15)) (C := RX0) (T := TX0) (N := 18) hx hb hu uX0 hown hK hI.1 11 rfl rfl 15 (by decide) (hu _ uww_8) (fun _ h9 => h9) rfl dX0_read_77 ?_
          refine lv_aload_n hx hb dX0_read_80 rfl (lv_at hl 1 rfl) ?_
          refine va_get (D := (dC, dI)) (ci := 0) (v := .int (M4 11 14)) (C := RX0) (T := TX0) (N := 18) hx hb hu uX0 hown hK hI.1 11 rfl rfl 14 (by decide) (hu _ uww_9) (fun _ h9 => h9) rfl dX0_read_81 ?_
          refine lv_icmp_ge (tgt := 89) hx hb dX0_read_84 (by decide) (fun c9 => ?_) (fun c9 => ?_)
          · have h := h.1 c9
            refine lv_aload_n hx hb dX0_read_89 rfl (lv_at hl 1 rfl) ?_
            refine lv_iload_n hx hb dX0_read_90 rfl (lv_at hl 3 rfl) ?_
            refine cpput (ci := 0) (C := RX0) (T := TX0) (N := 18) (ty := .int) hx hb hu uX0 tyX0 tyX0_ok nmX0 hown hK hI 11 rfl rfl 0 (by decide) (hu _ uww_16) (u_same (hu _ uww_17)) rfl (by decide +kernel) rfl rfl (Nat.le_of_ble_eq_true rfl) (cpset_11_0 _ _ _ _ _) dX0_read_91 (fun H locs M10 eM10 hI => ?_)
            have h := h M10 eM10
            refine lv_aload_n hx hb dX0_read_94 rfl (lv_at hl 1 rfl) ?_
            refine lv_aload_n hx hb dX0_read_95 rfl (lv_at hl 2 rfl) ?_
            refine lv_iload_n hx hb dX0_read_96 rfl (lv_at hl 3 rfl) ?_
            refine lv_iconst (v := (1 : Int32)) hx hb dX0_read_97 (by decide) ?_
            refine lv_iadd hx hb dX0_read_98 ?_
            refine cpcalli_p hsz hI (va_runV (As := [.int (p2 + (1 : Int32))]) (rest := [.ref (a 11)]) ⟨hx, hb, hml, hown, hu⟩ (met_X4_at_1 l dC dI a kA t _ M10 L (p2 + (1 : Int32)) _ h) (cwl_X0_44_X4 hu ⟨by decide, by decide⟩) (cppre (ci := 3) hK hE hsz hI rfl rfl) rfl rfl hl.1 rfl (lv_room (Nat.le_of_ble_eq_true rfl)) dX0_read_99 ⟨by decide, by decide⟩) (fun r11 H locs h hI => ?_)
            refine cpput (ci := 0) (C := RX0) (T := TX0) (N := 18) (ty := .int) hx hb hu uX0 tyX0 tyX0_ok nmX0 hown hK hI 11 rfl rfl 1 (by decide) (hu _ uww_18) (u_same (hu _ uww_19)) rfl (by decide +kernel) rfl rfl (Nat.le_of_ble_eq_true rfl) (cpset_11_1 _ _ _ _ _) dX0_read_102 (fun H locs M12 eM12 hI => ?_)
            have h := h M12 eM12
            refine lv_aload_n hx hb dX0_read_105 rfl (lv_at hl 1 rfl) ?_
            refine lv_aload_n hx hb dX0_read_106 rfl (lv_at hl 2 rfl) ?_
            refine lv_iload_n hx hb dX0_read_107 rfl (lv_at hl 3 rfl) ?_
            refine lv_iconst (v := (4 : Int32)) hx hb dX0_read_108 (by decide) ?_
            refine lv_iadd hx hb dX0_read_109 ?_
            refine cpcalli_p hsz hI (va_runV (As := [.int (p2 + (4 : Int32))]) (rest := [.ref (a 11)]) ⟨hx, hb, hml, hown, hu⟩ (met_X4_word_1 l dC dI a kA t _ M12 L (p2 + (4 : Int32)) _ h) (cwl_X0_48_X4 hu ⟨by decide, by decide⟩) (cppre (ci := 3) hK hE hsz hI rfl rfl) rfl rfl hl.1 rfl (lv_room (Nat.le_of_ble_eq_true rfl)) dX0_read_110 ⟨by decide, by decide⟩) (fun r13 H locs h hI => ?_)
            refine cpput (ci := 0) (C := RX0) (T := TX0) (N := 18) (ty := .int) hx hb hu uX0 tyX0 tyX0_ok nmX0 hown hK hI 11 rfl rfl 4 (by decide) (hu _ uww_20) (u_same (hu _ uww_21)) rfl (by decide +kernel) rfl rfl (Nat.le_of_ble_eq_true rfl) (cpset_11_4 _ _ _ _ _) dX0_read_113 (fun H locs M14 eM14 hI => ?_)
            have h := h M14 eM14
            refine lv_aload_n hx hb dX0_read_116 rfl (lv_at hl 2 rfl) ?_
            refine lv_iload_n hx hb dX0_read_117 rfl (lv_at hl 3 rfl) ?_
            refine lv_bipush (v := (6 : Int32)) hx hb dX0_read_118 (by decide) ?_
            refine lv_iadd hx hb dX0_read_120 ?_
            refine cpcalli_p hsz hI (va_runV (As := [.int (p2 + (6 : Int32))]) (rest := []) ⟨hx, hb, hml, hown, hu⟩ (met_X4_word_1 l dC dI a kA t _ M14 L (p2 + (6 : Int32)) _ h) (cwl_X0_48_X4 hu ⟨by decide, by decide⟩) (cppre (ci := 3) hK hE hsz hI rfl rfl) rfl rfl hl.1 rfl (lv_room (Nat.le_of_ble_eq_true rfl)) dX0_read_121 ⟨by decide, by decide⟩) (fun r15 H locs h hI => ?_)
            refine lv_istore (lv' := [(6, .int r15), (5, .int v5), (0, .ref (a 11)), (1, .ref (a 1)), (2, .int p2), (3, .int p3), (4, .int r1)]) hx hb dX0_read_124 hl (by decide) rfl (fun ls hl => ?_)
            refine lv_aload_n hx hb dX0_read_126 rfl (lv_at hl 2 rfl) ?_
            refine lv_iload hx hb dX0_read_127 (lv_at hl 0 rfl) ?_
            refine lv_sipush (v := (16384 : Int32)) hx hb dX0_read_129 (by decide) ?_
            refine lv_iand hx hb dX0_read_132 ?_
            obtain ⟨K141, hK141, h⟩ := h
            have J141 : ∀ (v16 : Int32) (H : Heap) (locs : List Loc) (ls : Array Slot), K141 v16 → cpI dC dI a kA (cpA a sz) s M14 L H locs → lv_has ls 7 [(0, .ref (a 11)), (1, .ref (a 1)), (2, .int p2), (3, .int p3), (6, .int r15)] → W p l e rm_X0_read_11_1 s m (av_X0_read_11_1 a t p2 p3).toArray below meth c H locs 0 0 (MQ below (qc_X0_read_11_1 dC dI a kA sz M L Z) (av_X0_read_11_1 a t p2 p3).toArray s 0 0 (cpA a sz)) (F0 m 141 ls [.int v16, .ref (a 11)]) := by
              intro v16 H locs ls h hI hl
              have h := hK141 v16 h
              refine cpput (ci := 0) (C := RX0) (T := TX0) (N := 18) (ty := .boolean) hx hb hu uX0 tyX0 tyX0_ok nmX0 hown hK hI 11 rfl rfl 16 (by decide) (hu _ uww_22) (fun _ h9 => h9) rfl (by decide +kernel) h.1.1 h.1.2 (Nat.le_of_ble_eq_true rfl) (cpset_11_16 _ _ _ _ _) dX0_read_141 (fun H locs M17 eM17 hI => ?_)
              have h := h.2 M17 eM17
              refine lv_aload_n hx hb dX0_read_144 rfl (lv_at hl 0 rfl) ?_
              refine lv_iload hx hb dX0_read_145 (lv_at hl 4 rfl) ?_
              refine lv_sipush (v := (8192 : Int32)) hx hb dX0_read_147 (by decide) ?_
              refine lv_iand hx hb dX0_read_150 ?_
              obtain ⟨K159, hK159, h⟩ := h
              have J159 : ∀ (v18 : Int32) (H : Heap) (locs : List Loc) (ls : Array Slot), K159 v18 → cpI dC dI a kA (cpA a sz) s M17 L H locs → lv_has ls 7 [(0, .ref (a 11)), (1, .ref (a 1)), (2, .int p2), (3, .int p3), (6, .int r15)] → W p l e rm_X0_read_11_1 s m (av_X0_read_11_1 a t p2 p3).toArray below meth c H locs 0 0 (MQ below (qc_X0_read_11_1 dC dI a kA sz M L Z) (av_X0_read_11_1 a t p2 p3).toArray s 0 0 (cpA a sz)) (F0 m 159 ls [.int v18, .ref (a 11)]) := by
                intro v18 H locs ls h hI hl
                have h := hK159 v18 h
                refine cpput (ci := 0) (C := RX0) (T := TX0) (N := 18) (ty := .boolean) hx hb hu uX0 tyX0 tyX0_ok nmX0 hown hK hI 11 rfl rfl 5 (by decide) (hu _ uww_23) (u_same (hu _ uww_24)) rfl (by decide +kernel) h.1.1 h.1.2 (Nat.le_of_ble_eq_true rfl) (cpset_11_5 _ _ _ _ _) dX0_read_159 (fun H locs M19 eM19 hI => ?_)
                have h := h.2 M19 eM19
                refine lv_aload_n hx hb dX0_read_162 rfl (lv_at hl 0 rfl) ?_
                refine lv_iload hx hb dX0_read_163 (lv_at hl 4 rfl) ?_
                refine lv_sipush (v := (8191 : Int32)) hx hb dX0_read_165 (by decide) ?_
                refine lv_iand hx hb dX0_read_168 ?_
                refine cpput (ci := 0) (C := RX0) (T := TX0) (N := 18) (ty := .int) hx hb hu uX0 tyX0 tyX0_ok nmX0 hown hK hI 11 rfl rfl 6 (by decide) (hu _ uww_25) (u_same (hu _ uww_26)) rfl (by decide +kernel) rfl rfl (Nat.le_of_ble_eq_true rfl) (cpset_11_6 _ _ _ _ _) dX0_read_169 (fun H locs M20 eM20 hI => ?_)
                have h := h M20 eM20
                refine lv_aload_n hx hb dX0_read_172 rfl (lv_at hl 0 rfl) ?_
                refine lv_aload_n hx hb dX0_read_173 rfl (lv_at hl 1 rfl) ?_
                refine lv_iload_n hx hb dX0_read_174 rfl (lv_at hl 2 rfl) ?_
                refine lv_bipush (v := (8 : Int32)) hx hb dX0_read_175 (by decide) ?_
                refine lv_iadd hx hb dX0_read_177 ?_
                refine cpcalli_p hsz hI (va_runV (As := [.int (p2 + (8 : Int32))]) (rest := [.ref (a 11)]) ⟨hx, hb, hml, hown, hu⟩ (met_X4_at_1 l dC dI a kA t _ M20 L (p2 + (8 : Int32)) _ h) (cwl_X0_44_X4 hu ⟨by decide, by decide⟩) (cppre (ci := 3) hK hE hsz hI rfl rfl) rfl rfl hl.1 rfl (lv_room (Nat.le_of_ble_eq_true rfl)) dX0_read_178 ⟨by decide, by decide⟩) (fun r21 H locs h hI => ?_)
                refine cpput (ci := 0) (C := RX0) (T := TX0) (N := 18) (ty := .int) hx hb hu uX0 tyX0 tyX0_ok nmX0 hown hK hI 11 rfl rfl 2 (by decide) (hu _ uww_27) (u_same (hu _ uww_28)) rfl (by decide +kernel) rfl rfl (Nat.le_of_ble_eq_true rfl) (cpset_11_2 _ _ _ _ _) dX0_read_181 (fun H locs M22 eM22 hI => ?_)
                have h := h M22 eM22
                refine lv_aload_n hx hb dX0_read_184 rfl (lv_at hl 0 rfl) ?_
                refine lv_aload_n hx hb dX0_read_185 rfl (lv_at hl 1 rfl) ?_
                refine lv_iload_n hx hb dX0_read_186 rfl (lv_at hl 2 rfl) ?_
                refine lv_bipush (v := (9 : Int32)) hx hb dX0_read_187 (by decide) ?_
                refine lv_iadd hx hb dX0_read_189 ?_
                refine cpcalli_p hsz hI (va_runV (As := [.int (p2 + (9 : Int32))]) (rest := [.ref (a 11)]) ⟨hx, hb, hml, hown, hu⟩ (met_X4_at_1 l dC dI a kA t _ M22 L (p2 + (9 : Int32)) _ h) (cwl_X0_44_X4 hu ⟨by decide, by decide⟩) (cppre (ci := 3) hK hE hsz hI rfl rfl) rfl rfl hl.1 rfl (lv_room (Nat.le_of_ble_eq_true rfl)) dX0_read_190 ⟨by decide, by decide⟩) (fun r23 H locs h hI => ?_)
                refine cpput (ci := 0) (C := RX0) (T := TX0) (N := 18) (ty := .int) hx hb hu uX0 tyX0 tyX0_ok nmX0 hown hK hI 11 rfl rfl 3 (by decide) (hu _ uww_29) (u_same (hu _ uww_30)) rfl (by decide +kernel) rfl rfl (Nat.le_of_ble_eq_true rfl) (cpset_11_3 _ _ _ _ _) dX0_read_193 (fun H locs M24 eM24 hI => ?_)
                have h := h M24 eM24
                refine lv_aload_n hx hb dX0_read_196 rfl (lv_at hl 0 rfl) ?_
                refine lv_aload_n hx hb dX0_read_197 rfl (lv_at hl 1 rfl) ?_
                refine lv_iload_n hx hb dX0_read_198 rfl (lv_at hl 2 rfl) ?_
                refine lv_bipush (v := (12 : Int32)) hx hb dX0_read_199 (by decide) ?_
                refine lv_iadd hx hb dX0_read_201 ?_
                refine lv_iconst (v := (4 : Int32)) hx hb dX0_read_202 (by decide) ?_
                refine cpcalll_p hsz hI (va_runV (As := [.int (p2 + (12 : Int32)), .int (4 : Int32)]) (rest := [.ref (a 11)]) ⟨hx, hb, hml, hown, hu⟩ (met_X4_number_1 l dC dI a kA t _ M24 L (p2 + (12 : Int32)) (4 : Int32) _ h) (cwl_X0_75_X4 hu ⟨by decide, by decide⟩) (cppre (ci := 3) hK hE hsz hI rfl rfl) rfl rfl hl.1 rfl (lv_room (Nat.le_of_ble_eq_true rfl)) dX0_read_203 ⟨by decide, by decide⟩) (fun r25 H locs h hI => ?_)
                refine lv_l2i hx hb dX0_read_206 rfl ?_
                refine cpput (ci := 0) (C := RX0) (T := TX0) (N := 18) (ty := .int) hx hb hu uX0 tyX0 tyX0_ok nmX0 hown hK hI 11 rfl rfl 10 (by decide) (hu _ uww_31) (u_same (hu _ uww_32)) rfl (by decide +kernel) rfl rfl (Nat.le_of_ble_eq_true rfl) (cpset_11_10 _ _ _ _ _) dX0_read_207 (fun H locs M26 eM26 hI => ?_)
                have h := h M26 eM26
                refine lv_aload_n hx hb dX0_read_210 rfl (lv_at hl 0 rfl) ?_
                refine lv_aload_n hx hb dX0_read_211 rfl (lv_at hl 1 rfl) ?_
                refine lv_iload_n hx hb dX0_read_212 rfl (lv_at hl 2 rfl) ?_
                refine lv_bipush (v := (16 : Int32)) hx hb dX0_read_213 (by decide) ?_
                refine lv_iadd hx hb dX0_read_215 ?_
                refine lv_iconst (v := (4 : Int32)) hx hb dX0_read_216 (by decide) ?_
                refine cpcalll_p hsz hI (va_runV (As := [.int (p2 + (16 : Int32)), .int (4 : Int32)]) (rest := [.ref (a 11)]) ⟨hx, hb, hml, hown, hu⟩ (met_X4_number_1 l dC dI a kA t _ M26 L (p2 + (16 : Int32)) (4 : Int32) _ h) (cwl_X0_75_X4 hu ⟨by decide, by decide⟩) (cppre (ci := 3) hK hE hsz hI rfl rfl) rfl rfl hl.1 rfl (lv_room (Nat.le_of_ble_eq_true rfl)) dX0_read_217 ⟨by decide, by decide⟩) (fun r27 H locs h hI => ?_)
                refine lv_l2i hx hb dX0_read_220 rfl ?_
                refine cpput (ci := 0) (C := RX0) (T := TX0) (N := 18) (ty := .int) hx hb hu uX0 tyX0 tyX0_ok nmX0 hown hK hI 11 rfl rfl 11 (by decide) (hu _ uww_33) (u_same (hu _ uww_34)) rfl (by decide +kernel) rfl rfl (Nat.le_of_ble_eq_true rfl) (cpset_11_11 _ _ _ _ _) dX0_read_221 (fun H locs M28 eM28 hI => ?_)
                have h := h M28 eM28
                refine lv_aload_n hx hb dX0_read_224 rfl (lv_at hl 0 rfl) ?_
                refine lv_aload_n hx hb dX0_read_225 rfl (lv_at hl 1 rfl) ?_
                refine lv_iload_n hx hb dX0_read_226 rfl (lv_at hl 2 rfl) ?_
                refine lv_bipush (v := (12 : Int32)) hx hb dX0_read_227 (by decide) ?_
                refine lv_iadd hx hb dX0_read_229 ?_
                refine lv_iload_n hx hb dX0_read_230 rfl (lv_at hl 2 rfl) ?_
                refine lv_bipush (v := (20 : Int32)) hx hb dX0_read_231 (by decide) ?_
                refine lv_iadd hx hb dX0_read_233 ?_
                refine cpcalll_p hsz hI (va_runV (As := [.int (p2 + (12 : Int32)), .int (p2 + (20 : Int32))]) (rest := [.ref (a 11)]) ⟨hx, hb, hml, hown, hu⟩ (met_X4_sum_1 l dC dI a kA t _ M28 L (p2 + (12 : Int32)) (p2 + (20 : Int32)) _ h) (cwl_X0_27_X4 hu ⟨by decide, by decide⟩) (cppre (ci := 3) hK hE hsz hI rfl rfl) rfl rfl hl.1 rfl (lv_room (Nat.le_of_ble_eq_true rfl)) dX0_read_234 ⟨by decide, by decide⟩) (fun r29 H locs h hI => ?_)
                refine cpputl (ci := 0) (C := RX0) (T := TX0) (N := 18) (ty := .long) hx hb hu uX0 tyX0 tyX0_ok nmX0 hown hK hI 11 rfl rfl 12 (by decide) (hu _ uww_35) (u_same (hu _ uww_36)) rfl (by decide +kernel) rfl rfl (Nat.le_of_ble_eq_true rfl) (cpset_11_12 _ _ _ _ _) dX0_read_237 (fun H locs L30 eL30 hI => ?_)
                have h := h L30 eL30
                refine lv_aload_n hx hb dX0_read_240 rfl (lv_at hl 0 rfl) ?_
                refine lv_iload_n hx hb dX0_read_241 rfl (lv_at hl 2 rfl) ?_
                refine lv_aload_n hx hb dX0_read_242 rfl (lv_at hl 0 rfl) ?_
                refine va_get (D := (dC, dI)) (ci := 0) (v := .int (M28 11 14)) (C := RX0) (T := TX0) (N := 18) hx hb hu uX0 hown hK hI.1 11 rfl rfl 14 (by decide) (hu _ uww_9) (fun _ h9 => h9) rfl dX0_read_243 ?_
                refine lv_iadd hx hb dX0_read_246 ?_
                refine cpput (ci := 0) (C := RX0) (T := TX0) (N := 18) (ty := .int) hx hb hu uX0 tyX0 tyX0_ok nmX0 hown hK hI 11 rfl rfl 7 (by decide) (hu _ uww_37) (u_same (hu _ uww_38)) rfl (by decide +kernel) rfl rfl (Nat.le_of_ble_eq_true rfl) (cpset_11_7 _ _ _ _ _) dX0_read_247 (fun H locs M31 eM31 hI => ?_)
                have h := h M31 eM31
                refine lv_aload_n hx hb dX0_read_250 rfl (lv_at hl 0 rfl) ?_
                refine lv_aload_n hx hb dX0_read_251 rfl (lv_at hl 0 rfl) ?_
                refine va_get (D := (dC, dI)) (ci := 0) (v := .int (M31 11 15)) (C := RX0) (T := TX0) (N := 18) hx hb hu uX0 hown hK hI.1 11 rfl rfl 15 (by decide) (hu _ uww_8) (fun _ h9 => h9) rfl dX0_read_252 ?_
                refine lv_aload_n hx hb dX0_read_255 rfl (lv_at hl 0 rfl) ?_
                refine va_get (D := (dC, dI)) (ci := 0) (v := .int (M31 11 14)) (C := RX0) (T := TX0) (N := 18) hx hb hu uX0 hown hK hI.1 11 rfl rfl 14 (by decide) (hu _ uww_9) (fun _ h9 => h9) rfl dX0_read_256 ?_
                refine lv_isub hx hb dX0_read_259 ?_
                refine cpput (ci := 0) (C := RX0) (T := TX0) (N := 18) (ty := .int) hx hb hu uX0 tyX0 tyX0_ok nmX0 hown hK hI 11 rfl rfl 8 (by decide) (hu _ uww_39) (u_same (hu _ uww_40)) rfl (by decide +kernel) rfl rfl (Nat.le_of_ble_eq_true rfl) (cpset_11_8 _ _ _ _ _) dX0_read_260 (fun H locs M32 eM32 hI => ?_)
                have h := h M32 eM32
                refine lv_aload_n hx hb dX0_read_263 rfl (lv_at hl 0 rfl) ?_
                refine lv_iload_n hx hb dX0_read_264 rfl (lv_at hl 3 rfl) ?_
                refine lv_iload_n hx hb dX0_read_265 rfl (lv_at hl 2 rfl) ?_
                refine lv_aload_n hx hb dX0_read_266 rfl (lv_at hl 0 rfl) ?_
                refine va_get (D := (dC, dI)) (ci := 0) (v := .int (M32 11 15)) (C := RX0) (T := TX0) (N := 18) hx hb hu uX0 hown hK hI.1 11 rfl rfl 15 (by decide) (hu _ uww_8) (fun _ h9 => h9) rfl dX0_read_267 ?_
                refine lv_iadd hx hb dX0_read_270 ?_
                refine va_mmin hx hb (hml.trans hl.1.symm) hown (hu _ uww_41) (hu _ uww_42) (hu _ uww_43) (hu _ uww_44) (Nat.le_of_ble_eq_true rfl) (Nat.le_of_ble_eq_true rfl) (Nat.le_of_ble_eq_true rfl) (Nat.le_of_ble_eq_true rfl) dX0_read_271 ?_
                refine lv_aload_n hx hb dX0_read_274 rfl (lv_at hl 0 rfl) ?_
                refine va_get (D := (dC, dI)) (ci := 0) (v := .int (M32 11 7)) (C := RX0) (T := TX0) (N := 18) hx hb hu uX0 hown hK hI.1 11 rfl rfl 7 (by decide) (hu _ uww_37) (u_same (hu _ uww_38)) rfl dX0_read_275 ?_
                refine lv_isub hx hb dX0_read_278 ?_
                refine cpput (ci := 0) (C := RX0) (T := TX0) (N := 18) (ty := .int) hx hb hu uX0 tyX0 tyX0_ok nmX0 hown hK hI 11 rfl rfl 9 (by decide) (hu _ uww_45) (u_same (hu _ uww_46)) rfl (by decide +kernel) rfl rfl (Nat.le_of_ble_eq_true rfl) (cpset_11_9 _ _ _ _ _) dX0_read_279 (fun H locs M33 eM33 hI => ?_)
                have h := h M33 eM33
                refine lv_iconst (v := (1 : Int32)) hx hb dX0_read_282 (by decide) ?_
                exact cpzret (Z := (fun r M' L' => Z r M' L')) hx hb hr hlocks hK hI dX0_read_283 ⟨isB_1, h⟩
              refine lv_if_eq (tgt := 158) hx hb dX0_read_151 (by decide) (fun c34 => ?_) (fun c34 => ?_)
              · have h := h.1 c34
                refine lv_iconst (v := (0 : Int32)) hx hb dX0_read_158 (by decide) ?_
                exact J159 (0 : Int32) _ _ _ h hI (lv_sub hl [0, 1, 2, 3, 4] rfl)
              · have h := h.2 c34
                refine lv_iconst (v := (1 : Int32)) hx hb dX0_read_154 (by decide) ?_
                refine lv_goto (tgt := 159) hx hb dX0_read_155 (by decide) ?_
                exact J159 (1 : Int32) _ _ _ h hI (lv_sub hl [0, 1, 2, 3, 4] rfl)
            refine lv_if_eq (tgt := 140) hx hb dX0_read_133 (by decide) (fun c35 => ?_) (fun c35 => ?_)
            · have h := h.1 c35
              refine lv_iconst (v := (0 : Int32)) hx hb dX0_read_140 (by decide) ?_
              exact J141 (0 : Int32) _ _ _ h hI (lv_sub hl [2, 3, 4, 5, 0] rfl)
            · have h := h.2 c35
              refine lv_iconst (v := (1 : Int32)) hx hb dX0_read_136 (by decide) ?_
              refine lv_goto (tgt := 141) hx hb dX0_read_137 (by decide) ?_
              exact J141 (1 : Int32) _ _ _ h hI (lv_sub hl [2, 3, 4, 5, 0] rfl)
          · have h := h.2 c9
            refine lv_iconst (v := (0 : Int32)) hx hb dX0_read_87 (by decide) ?_
            exact cpzret (Z := (fun r M' L' => Z r M' L')) hx hb hr hlocks hK hI dX0_read_88 ⟨isB_0, h⟩
  obtain ⟨K51, hK51, h⟩ := h
  have J51 : ∀  (H : Heap) (locs : List Loc) (ls : Array Slot), K51  → cpI dC dI a kA (cpA a sz) s M4 L H locs → lv_has ls 7 [(0, .ref (a 11)), (1, .ref (a 1)), (2, .int p2), (3, .int p3), (4, .int r1)] → W p l e rm_X0_read_11_1 s m (av_X0_read_11_1 a t p2 p3).toArray below meth c H locs 0 0 (MQ below (qc_X0_read_11_1 dC dI a kA sz M L Z) (av_X0_read_11_1 a t p2 p3).toArray s 0 0 (cpA a sz)) (F0 m 51 ls []) := by
    intro  H locs ls h hI hl
    have h := hK51  h
    refine lv_iconst (v := (0 : Int32)) hx hb dX0_read_51 (by decide) ?_
    exact J52 (0 : Int32) _ _ _ h hI (lv_sub hl [0, 1, 2, 3, 4] rfl)
  refine lv_icmp_lt (tgt := 51) hx hb dX0_read_34 (by decide) (fun c36 => ?_) (fun c36 => ?_)
  · have h := h.1 c36
    exact J51  _ _ _ h hI (lv_sub hl [1, 2, 3, 4, 0] rfl)
  · have h := h.2 c36
    refine lv_iload_n hx hb dX0_read_37 rfl (lv_at hl 4 rfl) ?_
    refine lv_iload_n hx hb dX0_read_38 rfl (lv_at hl 3 rfl) ?_
    refine lv_isub hx hb dX0_read_39 ?_
    refine lv_aload_n hx hb dX0_read_40 rfl (lv_at hl 1 rfl) ?_
    refine va_get (D := (dC, dI)) (ci := 0) (v := .int (M4 11 14)) (C := RX0) (T := TX0) (N := 18) hx hb hu uX0 hown hK hI.1 11 rfl rfl 14 (by decide) (hu _ uww_9) (fun _ h9 => h9) rfl dX0_read_41 ?_
    refine lv_icmp_lt (tgt := 51) hx hb dX0_read_44 (by decide) (fun c37 => ?_) (fun c37 => ?_)
    · have h := h.1 c37
      exact J51  _ _ _ h hI (lv_sub hl [1, 2, 3, 4, 0] rfl)
    · have h := h.2 c37
      refine lv_iconst (v := (1 : Int32)) hx hb dX0_read_47 (by decide) ?_
      refine lv_goto (tgt := 52) hx hb dX0_read_48 (by decide) ?_
      exact J52 (1 : Int32) _ _ _ h hI (lv_sub hl [1, 2, 3, 4, 0] rfl)

abbrev rm_X6_folded : Room := { frames := 0, cells := 0, slots := 0, locals := 0 }
abbrev av_X6_folded (a t : Nat → Nat) (p0 : Int64) : List Value := [.long p0]
abbrev qc_X6_folded (dC : Nat → ClassId) (dI : Nat → Nat → Nat) (a : Nat → Nat) (kA : Nat → ClassId) (sz : Nat) (M : cM) (L : cL) (Z : Int32 → Prop) : Array Value → State → Outcome → State → Prop := va_Qi (fun r (u : cM × cL) => u.1 = M ∧ u.2 = L ∧ Z r) (cpAt dC dI a kA (cpA a sz)) (cpA a sz)
set_option maxHeartbeats 4000000 in
set_option maxRecDepth 100000 in
theorem met_X6_folded (l : Launch) (dC : Nat → ClassId) (dI : Nat → Nat → Nat) (a : Nat → Nat) (kA : Nat → ClassId) (t : Nat → Nat) (sz : Nat) (M : cM) (L : cL) (p0 : Int64) (Z : Int32 → Prop) (h : wp_X6_folded M L p0 Z) : Met l yX6_folded (Cond.code yX6_folded cX6_folded 5 (some .int) :: uW) rm_X6_folded (va_Pc (av_X6_folded a t p0) (cpPre dC dI a kA t M L sz)) (qc_X6_folded dC dI a kA sz M L Z) 0 0 (cpA a sz) := by
  refine cpenter (cc := cX6_folded) (n := 5) (ret := (some .int)) (by decide) rfl (Nat.le_of_ble_eq_true rfl) ?_
  intro p e s m below meth c ls hx hb hml hr hlocks hown hts hK hE hsz hI hl hmn
  have hu : ∀ w ∈ uW, w.before (av_X6_folded a t p0).toArray s = true := fun w h => hts w (List.mem_cons_of_mem _ h)
  have hown : s.vm.findClass RX6 = some m.cls := hown
  have hl : lv_has ls 5 [(0, .long p0)] := hl
  unfold wp_X6_folded at h
  refine lv_lload_n hx hb dX6_folded_0 rfl (lv_at hl 0 rfl) ?_
  refine lv_lstore_n (lv' := [(2, .long p0), (0, .long p0)]) hx hb dX6_folded_1 rfl hl (by decide) rfl (fun ls hl => ?_)
  refine lv_iconst (v := (0 : Int32)) hx hb dX6_folded_2 (by decide) ?_
  refine lv_istore (lv' := [(4, .int (0 : Int32)), (2, .long p0), (0, .long p0)]) hx hb dX6_folded_3 hl (by decide) rfl (fun ls hl => ?_)
  obtain ⟨I5, m5, h, hs5⟩ := h
  have P5 : ∀ (n5 : Nat) (x1 : Int64) (x2 : Int32) (H : Heap) (locs : List Loc) (ls : Array Slot), I5 x1 x2 → m5 x1 x2 < n5 → cpI dC dI a kA (cpA a sz) s M L H locs → lv_has ls 5 [(2, .long x1), (4, .int x2)] → W p l e rm_X6_folded s m (av_X6_folded a t p0).toArray below meth c H locs 0 0 (MQ below (qc_X6_folded dC dI a kA sz M L Z) (av_X6_folded a t p0).toArray s 0 0 (cpA a sz)) (F0 m 5 ls []) := by
    intro n5
    induction n5 with
    | zero => intro x1 x2 H locs ls _ hn; exact absurd hn (Nat.not_lt_zero _)
    | succ n5 ih5 =>
      intro x1 x2 H locs ls h hn5 hI hl
      have h := hs5 x1 x2 h
      refine lv_iload hx hb dX6_folded_5 (lv_at hl 1 rfl) ?_
      refine lv_bipush (v := (8 : Int32)) hx hb dX6_folded_7 (by decide) ?_
      refine lv_icmp_ge (tgt := 37) hx hb dX6_folded_9 (by decide) (fun c3 => ?_) (fun c3 => ?_)
      · have h := h.1 c3
        refine lv_lload_n hx hb dX6_folded_37 rfl (lv_at hl 0 rfl) ?_
        refine lv_l2i hx hb dX6_folded_38 rfl ?_
        exact cpiret (Z := (fun r M' L' => M' = M ∧ L' = L ∧ Z r)) hx hb hr hlocks hK hI dX6_folded_39 ⟨rfl, rfl, h⟩
      · have h := h.2 c3
        refine lv_lload_n hx hb dX6_folded_12 rfl (lv_at hl 0 rfl) ?_
        refine lv_ldc2 (own := RX6) (v := (65535 : Int64)) hx hb hown (hu _ uww_69) dX6_folded_13 ?_
        refine W.lcmp hx hb dX6_folded_16 ?_
        refine lv_if_le (tgt := 37) hx hb dX6_folded_17 (by decide) (fun c4 => ?_) (fun c4 => ?_)
        · have h := h.1 c4
          refine lv_lload_n hx hb dX6_folded_37 rfl (lv_at hl 0 rfl) ?_
          refine lv_l2i hx hb dX6_folded_38 rfl ?_
          exact cpiret (Z := (fun r M' L' => M' = M ∧ L' = L ∧ Z r)) hx hb hr hlocks hK hI dX6_folded_39 ⟨rfl, rfl, h⟩
        · have h := h.2 c4
          refine lv_lload_n hx hb dX6_folded_20 rfl (lv_at hl 0 rfl) ?_
          refine lv_ldc2 (own := RX6) (v := (65535 : Int64)) hx hb hown (hu _ uww_69) dX6_folded_21 ?_
          refine lv_land hx hb dX6_folded_24 ?_
          refine lv_lload_n hx hb dX6_folded_25 rfl (lv_at hl 0 rfl) ?_
          refine lv_bipush (v := (16 : Int32)) hx hb dX6_folded_26 (by decide) ?_
          refine lv_lushr hx hb dX6_folded_28 rfl ?_
          refine lv_ladd hx hb dX6_folded_29 ?_
          refine lv_topl (fun x5 ex5 => ?_)
          have h := h x5 ex5
          refine lv_lstore_n (lv' := [(2, .long x5), (4, .int x2)]) hx hb dX6_folded_30 rfl hl (by decide) rfl (fun ls hl => ?_)
          obtain ⟨x6, ex6⟩ : ∃ y : Int32, y = (x2 + (1 : Int32)) := ⟨_, rfl⟩
          have h := h x6 ex6
          refine lv_iinc (v := x6) (lv' := [(4, .int x6), (2, .long x5)]) hx hb dX6_folded_31 hl (k := 1) rfl (by rw [ex6]; rfl) (by decide) rfl (fun ls hl => ?_)
          refine lv_goto (tgt := 5) hx hb dX6_folded_34 (by decide) ?_
          exact ih5 x5 x6 _ _ _ h.1 (Nat.lt_of_lt_of_le h.2 (Nat.le_of_lt_succ hn5)) hI (lv_sub hl [1, 0] rfl)
  exact P5 (m5 p0 (0 : Int32) + 1) p0 (0 : Int32) _ _ _ h (Nat.lt_succ_self _) hI (lv_sub hl [1, 0] rfl)

abbrev rm_X0_readOptions_11_1 : Room := { frames := 1, cells := 0, slots := 0, locals := 21 }
abbrev av_X0_readOptions_11_1 (a t : Nat → Nat)  : List Value := [.ref (a 11), .ref (a 1)]
abbrev qc_X0_readOptions_11_1 (dC : Nat → ClassId) (dI : Nat → Nat → Nat) (a : Nat → Nat) (kA : Nat → ClassId) (sz : Nat) (M : cM) (L : cL) (Z : Int32 → cM → Prop) : Array Value → State → Outcome → State → Prop := va_Qi (fun r (u : cM × cL) => u.2 = L ∧ Z r u.1) (cpAt dC dI a kA (cpA a sz)) (cpA a sz)
set_option maxHeartbeats 4000000 in
set_option maxRecDepth 100000 in
theorem met_X0_readOptions_11_1 (l : Launch) (dC : Nat → ClassId) (dI : Nat → Nat → Nat) (a : Nat → Nat) (kA : Nat → ClassId) (t : Nat → Nat) (sz : Nat) (M : cM) (L : cL)  (Z : Int32 → cM → Prop) (h : wp_X0_readOptions_11_1 M L  Z) : Met l yX0_readOptions (Cond.code yX0_readOptions cX0_readOptions 8 (some .boolean) :: uW) rm_X0_readOptions_11_1 (va_Pc (av_X0_readOptions_11_1 a t ) (cpPre dC dI a kA t M L sz)) (qc_X0_readOptions_11_1 dC dI a kA sz M L Z) 0 0 (cpA a sz) := by
  refine cpenter (cc := cX0_readOptions) (n := 8) (ret := (some .boolean)) (by decide) rfl (Nat.le_of_ble_eq_true rfl) ?_
  intro p e s m below meth c ls hx hb hml hr hlocks hown hts hK hE hsz hI hl hmn
  have hu : ∀ w ∈ uW, w.before (av_X0_readOptions_11_1 a t ).toArray s = true := fun w h => hts w (List.mem_cons_of_mem _ h)
  have hown : s.vm.findClass RX0 = some m.cls := hown
  have hl : lv_has ls 8 [(0, .ref (a 11)), (1, .ref (a 1))] := hl
  unfold wp_X0_readOptions_11_1 at h
  refine lv_aload_n hx hb dX0_readOptions_0 rfl (lv_at hl 0 rfl) ?_
  refine va_get (D := (dC, dI)) (ci := 0) (v := .int (M 11 0)) (C := RX0) (T := TX0) (N := 18) hx hb hu uX0 hown hK hI.1 11 rfl rfl 0 (by decide) (hu _ uww_16) (u_same (hu _ uww_17)) rfl dX0_readOptions_1 ?_
  refine lv_aload_n hx hb dX0_readOptions_4 rfl (lv_at hl 0 rfl) ?_
  refine va_get (D := (dC, dI)) (ci := 0) (v := .int (M 11 14)) (C := RX0) (T := TX0) (N := 18) hx hb hu uX0 hown hK hI.1 11 rfl rfl 14 (by decide) (hu _ uww_9) (fun _ h9 => h9) rfl dX0_readOptions_5 ?_
  refine lv_iadd hx hb dX0_readOptions_8 ?_
  refine lv_topi (fun x1 ex1 => ?_)
  have h := h x1 ex1
  refine lv_istore_n (lv' := [(2, .int x1), (0, .ref (a 11)), (1, .ref (a 1))]) hx hb dX0_readOptions_9 rfl hl (by decide) rfl (fun ls hl => ?_)
  refine lv_aload_n hx hb dX0_readOptions_10 rfl (lv_at hl 1 rfl) ?_
  refine va_get (D := (dC, dI)) (ci := 0) (v := .int (M 11 0)) (C := RX0) (T := TX0) (N := 18) hx hb hu uX0 hown hK hI.1 11 rfl rfl 0 (by decide) (hu _ uww_16) (u_same (hu _ uww_17)) rfl dX0_readOptions_11 ?_
  refine lv_bipush (v := (20 : Int32)) hx hb dX0_readOptions_14 (by decide) ?_
  refine lv_iadd hx hb dX0_readOptions_16 ?_
  refine lv_topi (fun x2 ex2 => ?_)
  have h := h x2 ex2
  refine lv_istore_n (lv' := [(3, .int x2), (2, .int x1), (0, .ref (a 11)), (1, .ref (a 1))]) hx hb dX0_readOptions_17 rfl hl (by decide) rfl (fun ls hl => ?_)
  refine lv_aload_n hx hb dX0_readOptions_18 rfl (lv_at hl 2 rfl) ?_
  refine lv_iconst (v := (0 : Int32)) hx hb dX0_readOptions_19 (by decide) ?_
  refine cpput (ci := 0) (C := RX0) (T := TX0) (N := 18) (ty := .boolean) hx hb hu uX0 tyX0 tyX0_ok nmX0 hown hK hI 11 rfl rfl 17 (by decide) (hu _ uww_74) (fun _ h9 => h9) rfl (by decide +kernel) isB_0.1 isB_0.2 (Nat.le_of_ble_eq_true rfl) (cpset_11_17 _ _ _ _ _) dX0_readOptions_20 (fun H locs M3 eM3 hI => ?_)
  have h := h M3 eM3
  refine lv_iconst (v := (0 : Int32)) hx hb dX0_readOptions_23 (by decide) ?_
  refine lv_istore (lv' := [(4, .int (0 : Int32)), (3, .int x2), (2, .int x1), (0, .ref (a 11)), (1, .ref (a 1))]) hx hb dX0_readOptions_24 hl (by decide) rfl (fun ls hl => ?_)
  obtain ⟨I26, m26, h, hs26⟩ := h
  have P26 : ∀ (n26 : Nat) (x4 : Int32) (x5 : Int32) (M6 : cM) (H : Heap) (locs : List Loc) (ls : Array Slot), I26 x4 x5 M6 → m26 x4 x5 M6 < n26 → cpI dC dI a kA (cpA a sz) s M6 L H locs → lv_has ls 8 [(0, .ref (a 11)), (1, .ref (a 1)), (2, .int x1), (3, .int x4), (4, .int x5)] → W p l e rm_X0_readOptions_11_1 s m (av_X0_readOptions_11_1 a t ).toArray below meth c H locs 0 0 (MQ below (qc_X0_readOptions_11_1 dC dI a kA sz M L Z) (av_X0_readOptions_11_1 a t ).toArray s 0 0 (cpA a sz)) (F0 m 26 ls []) := by
    intro n26
    induction n26 with
    | zero => intro x4 x5 M6 H locs ls _ hn; exact absurd hn (Nat.not_lt_zero _)
    | succ n26 ih26 =>
      intro x4 x5 M6 H locs ls h hn26 hI hl
      have h := hs26 x4 x5 M6 h
      refine lv_iload hx hb dX0_readOptions_26 (lv_at hl 4 rfl) ?_
      refine lv_aload_n hx hb dX0_readOptions_28 rfl (lv_at hl 0 rfl) ?_
      refine va_get (D := (dC, dI)) (ci := 0) (v := .int (M6 11 14)) (C := RX0) (T := TX0) (N := 18) hx hb hu uX0 hown hK hI.1 11 rfl rfl 14 (by decide) (hu _ uww_9) (fun _ h9 => h9) rfl dX0_readOptions_29 ?_
      refine lv_icmp_ge (tgt := 174) hx hb dX0_readOptions_32 (by decide) (fun c7 => ?_) (fun c7 => ?_)
      · have h := h.1 c7
        refine lv_iconst (v := (1 : Int32)) hx hb dX0_readOptions_174 (by decide) ?_
        exact cpzret (Z := (fun r M' L' => L' = L ∧ Z r M')) hx hb hr hlocks hK hI dX0_readOptions_175 ⟨isB_1, ⟨rfl, h⟩⟩
      · have h := h.2 c7
        refine lv_iload_n hx hb dX0_readOptions_35 rfl (lv_at hl 3 rfl) ?_
        refine lv_iload_n hx hb dX0_readOptions_36 rfl (lv_at hl 2 rfl) ?_
        refine lv_icmp_ge (tgt := 174) hx hb dX0_readOptions_37 (by decide) (fun c8 => ?_) (fun c8 => ?_)
        · have h := h.1 c8
          refine lv_iconst (v := (1 : Int32)) hx hb dX0_readOptions_174 (by decide) ?_
          exact cpzret (Z := (fun r M' L' => L' = L ∧ Z r M')) hx hb hr hlocks hK hI dX0_readOptions_175 ⟨isB_1, ⟨rfl, h⟩⟩
        · have h := h.2 c8
          refine lv_aload_n hx hb dX0_readOptions_40 rfl (lv_at hl 1 rfl) ?_
          refine lv_iload_n hx hb dX0_readOptions_41 rfl (lv_at hl 3 rfl) ?_
          refine cpcalli_p hsz hI (va_runV (As := [.int x4]) (rest := []) ⟨hx, hb, hml, hown, hu⟩ (met_X4_at_1 l dC dI a kA t _ M6 L x4 _ h) (cwl_X0_44_X4 hu ⟨by decide, by decide⟩) (cppre (ci := 3) hK hE hsz hI rfl rfl) rfl rfl hl.1 rfl (lv_room (Nat.le_of_ble_eq_true rfl)) dX0_readOptions_42 ⟨by decide, by decide⟩) (fun r9 H locs h hI => ?_)
          refine lv_istore (lv' := [(5, .int r9), (0, .ref (a 11)), (1, .ref (a 1)), (2, .int x1), (3, .int x4), (4, .int x5)]) hx hb dX0_readOptions_45 hl (by decide) rfl (fun ls hl => ?_)
          refine lv_iload hx hb dX0_readOptions_47 (lv_at hl 0 rfl) ?_
          refine lv_if_ne (tgt := 54) hx hb dX0_readOptions_49 (by decide) (fun c10 => ?_) (fun c10 => ?_)
          · have h := h.1 c10
            refine lv_iload hx hb dX0_readOptions_54 (lv_at hl 0 rfl) ?_
            refine lv_iconst (v := (1 : Int32)) hx hb dX0_readOptions_56 (by decide) ?_
            obtain ⟨K82, hK82, h⟩ := h
            have J82 : ∀ (v11 : Int32) (H : Heap) (locs : List Loc) (ls : Array Slot), K82 v11 → cpI dC dI a kA (cpA a sz) s M6 L H locs → lv_has ls 8 [(0, .ref (a 11)), (1, .ref (a 1)), (2, .int x1), (3, .int x4), (4, .int x5), (5, .int r9)] → W p l e rm_X0_readOptions_11_1 s m (av_X0_readOptions_11_1 a t ).toArray below meth c H locs 0 0 (MQ below (qc_X0_readOptions_11_1 dC dI a kA sz M L Z) (av_X0_readOptions_11_1 a t ).toArray s 0 0 (cpA a sz)) (F0 m 82 ls [.int v11]) := by
              intro v11 H locs ls h hI hl
              have h := hK82 v11 h
              refine lv_istore (lv' := [(6, .int v11), (0, .ref (a 11)), (1, .ref (a 1)), (2, .int x1), (3, .int x4), (4, .int x5), (5, .int r9)]) hx hb dX0_readOptions_82 hl (by decide) rfl (fun ls hl => ?_)
              refine lv_iload hx hb dX0_readOptions_84 (lv_at hl 0 rfl) ?_
              refine lv_iconst (v := (1 : Int32)) hx hb dX0_readOptions_86 (by decide) ?_
              refine lv_icmp_lt (tgt := 110) hx hb dX0_readOptions_87 (by decide) (fun c12 => ?_) (fun c12 => ?_)
              · have h := h.1 c12
                refine lv_iconst (v := (0 : Int32)) hx hb dX0_readOptions_110 (by decide) ?_
                exact cpzret (Z := (fun r M' L' => L' = L ∧ Z r M')) hx hb hr hlocks hK hI dX0_readOptions_111 ⟨isB_0, ⟨rfl, h⟩⟩
              · have h := h.2 c12
                refine lv_iload hx hb dX0_readOptions_90 (lv_at hl 0 rfl) ?_
                refine lv_iconst (v := (2 : Int32)) hx hb dX0_readOptions_92 (by decide) ?_
                obtain ⟨K102, hK102, h⟩ := h
                have J102 : ∀  (H : Heap) (locs : List Loc) (ls : Array Slot), K102  → cpI dC dI a kA (cpA a sz) s M6 L H locs → lv_has ls 8 [(0, .ref (a 11)), (1, .ref (a 1)), (2, .int x1), (3, .int x4), (4, .int x5), (5, .int r9), (6, .int v11)] → W p l e rm_X0_readOptions_11_1 s m (av_X0_readOptions_11_1 a t ).toArray below meth c H locs 0 0 (MQ below (qc_X0_readOptions_11_1 dC dI a kA sz M L Z) (av_X0_readOptions_11_1 a t ).toArray s 0 0 (cpA a sz)) (F0 m 102 ls []) := by
                  intro  H locs ls h hI hl
                  have h := hK102  h
                  refine lv_iload_n hx hb dX0_readOptions_102 rfl (lv_at hl 3 rfl) ?_
                  refine lv_iload hx hb dX0_readOptions_103 (lv_at hl 6 rfl) ?_
                  refine lv_iadd hx hb dX0_readOptions_105 ?_
                  refine lv_iload_n hx hb dX0_readOptions_106 rfl (lv_at hl 2 rfl) ?_
                  refine lv_icmp_le (tgt := 112) hx hb dX0_readOptions_107 (by decide) (fun c13 => ?_) (fun c13 => ?_)
                  · have h := h.1 c13
                    refine lv_iload hx hb dX0_readOptions_112 (lv_at hl 5 rfl) ?_
                    refine lv_sipush (v := (131 : Int32)) hx hb dX0_readOptions_114 (by decide) ?_
                    obtain ⟨K133, hK133, h⟩ := h
                    have J133 : ∀ (v14 : Int32) (H : Heap) (locs : List Loc) (ls : Array Slot), K133 v14 → cpI dC dI a kA (cpA a sz) s M6 L H locs → lv_has ls 8 [(0, .ref (a 11)), (1, .ref (a 1)), (2, .int x1), (3, .int x4), (4, .int x5), (6, .int v11)] → W p l e rm_X0_readOptions_11_1 s m (av_X0_readOptions_11_1 a t ).toArray below meth c H locs 0 0 (MQ below (qc_X0_readOptions_11_1 dC dI a kA sz M L Z) (av_X0_readOptions_11_1 a t ).toArray s 0 0 (cpA a sz)) (F0 m 133 ls [.int v14]) := by
                      intro v14 H locs ls h hI hl
                      have h := hK133 v14 h
                      refine lv_istore (lv' := [(7, .int v14), (0, .ref (a 11)), (1, .ref (a 1)), (2, .int x1), (3, .int x4), (4, .int x5), (6, .int v11)]) hx hb dX0_readOptions_133 hl (by decide) rfl (fun ls hl => ?_)
                      refine lv_iload hx hb dX0_readOptions_135 (lv_at hl 0 rfl) ?_
                      obtain ⟨K163, hK163, h⟩ := h
                      have J163 : ∀ (M15 : cM) (H : Heap) (locs : List Loc) (ls : Array Slot), K163 M15 → cpI dC dI a kA (cpA a sz) s M15 L H locs → lv_has ls 8 [(0, .ref (a 11)), (1, .ref (a 1)), (2, .int x1), (3, .int x4), (4, .int x5), (6, .int v11)] → W p l e rm_X0_readOptions_11_1 s m (av_X0_readOptions_11_1 a t ).toArray below meth c H locs 0 0 (MQ below (qc_X0_readOptions_11_1 dC dI a kA sz M L Z) (av_X0_readOptions_11_1 a t ).toArray s 0 0 (cpA a sz)) (F0 m 163 ls []) := by
                        intro M15 H locs ls h hI hl
                        have h := hK163 M15 h
                        refine lv_iload_n hx hb dX0_readOptions_163 rfl (lv_at hl 3 rfl) ?_
                        refine lv_iload hx hb dX0_readOptions_164 (lv_at hl 5 rfl) ?_
                        refine lv_iadd hx hb dX0_readOptions_166 ?_
                        refine lv_topi (fun x16 ex16 => ?_)
                        have h := h x16 ex16
                        refine lv_istore_n (lv' := [(3, .int x16), (0, .ref (a 11)), (1, .ref (a 1)), (2, .int x1), (4, .int x5), (6, .int v11)]) hx hb dX0_readOptions_167 rfl hl (by decide) rfl (fun ls hl => ?_)
                        obtain ⟨x17, ex17⟩ : ∃ y : Int32, y = (x5 + (1 : Int32)) := ⟨_, rfl⟩
                        have h := h x17 ex17
                        refine lv_iinc (v := x17) (lv' := [(4, .int x17), (3, .int x16), (0, .ref (a 11)), (1, .ref (a 1)), (2, .int x1), (6, .int v11)]) hx hb dX0_readOptions_168 hl (k := 4) rfl (by rw [ex17]; rfl) (by decide) rfl (fun ls hl => ?_)
                        refine lv_goto (tgt := 26) hx hb dX0_readOptions_171 (by decide) ?_
                        exact ih26 x16 x17 M15 _ _ _ h.1 (Nat.lt_of_lt_of_le h.2 (Nat.le_of_lt_succ hn26)) hI (lv_sub hl [2, 3, 4, 1, 0] rfl)
                      refine lv_if_eq (tgt := 163) hx hb dX0_readOptions_137 (by decide) (fun c18 => ?_) (fun c18 => ?_)
                      · have h := h.1 c18
                        exact J163 M6 _ _ _ h hI (lv_sub hl [1, 2, 3, 4, 5, 6] rfl)
                      · have h := h.2 c18
                        refine lv_iload hx hb dX0_readOptions_140 (lv_at hl 6 rfl) ?_
                        refine lv_iconst (v := (3 : Int32)) hx hb dX0_readOptions_142 (by decide) ?_
                        refine lv_icmp_lt (tgt := 163) hx hb dX0_readOptions_143 (by decide) (fun c19 => ?_) (fun c19 => ?_)
                        · have h := h.1 c19
                          exact J163 M6 _ _ _ h hI (lv_sub hl [1, 2, 3, 4, 5, 6] rfl)
                        · have h := h.2 c19
                          refine lv_aload_n hx hb dX0_readOptions_146 rfl (lv_at hl 2 rfl) ?_
                          refine lv_iload_n hx hb dX0_readOptions_147 rfl (lv_at hl 4 rfl) ?_
                          refine lv_iconst (v := (2 : Int32)) hx hb dX0_readOptions_148 (by decide) ?_
                          refine lv_iadd hx hb dX0_readOptions_149 ?_
                          refine cpcalli_p hsz hI (va_runV (As := [.int (x4 + (2 : Int32))]) (rest := []) ⟨hx, hb, hml, hown, hu⟩ (met_X4_at_1 l dC dI a kA t _ M6 L (x4 + (2 : Int32)) _ h) (cwl_X0_44_X4 hu ⟨by decide, by decide⟩) (cppre (ci := 3) hK hE hsz hI rfl rfl) rfl rfl hl.1 rfl (lv_room (Nat.le_of_ble_eq_true rfl)) dX0_readOptions_150 ⟨by decide, by decide⟩) (fun r20 H locs h hI => ?_)
                          refine lv_iload hx hb dX0_readOptions_153 (lv_at hl 6 rfl) ?_
                          refine lv_icmp_gt (tgt := 163) hx hb dX0_readOptions_155 (by decide) (fun c21 => ?_) (fun c21 => ?_)
                          · have h := h.1 c21
                            exact J163 M6 _ _ _ h hI (lv_sub hl [1, 2, 3, 4, 5, 6] rfl)
                          · have h := h.2 c21
                            refine lv_aload_n hx hb dX0_readOptions_158 rfl (lv_at hl 1 rfl) ?_
                            refine lv_iconst (v := (1 : Int32)) hx hb dX0_readOptions_159 (by decide) ?_
                            refine cpput (ci := 0) (C := RX0) (T := TX0) (N := 18) (ty := .boolean) hx hb hu uX0 tyX0 tyX0_ok nmX0 hown hK hI 11 rfl rfl 17 (by decide) (hu _ uww_74) (fun _ h9 => h9) rfl (by decide +kernel) isB_1.1 isB_1.2 (Nat.le_of_ble_eq_true rfl) (cpset_11_17 _ _ _ _ _) dX0_readOptions_160 (fun H locs M22 eM22 hI => ?_)
                            have h := h M22 eM22
                            exact J163 M22 _ _ _ h hI (lv_sub hl [1, 2, 3, 4, 5, 6] rfl)
                    obtain ⟨K128, hK128, h⟩ := h
                    have J128 : ∀  (H : Heap) (locs : List Loc) (ls : Array Slot), K128  → cpI dC dI a kA (cpA a sz) s M6 L H locs → lv_has ls 8 [(0, .ref (a 11)), (1, .ref (a 1)), (2, .int x1), (3, .int x4), (4, .int x5), (6, .int v11)] → W p l e rm_X0_readOptions_11_1 s m (av_X0_readOptions_11_1 a t ).toArray below meth c H locs 0 0 (MQ below (qc_X0_readOptions_11_1 dC dI a kA sz M L Z) (av_X0_readOptions_11_1 a t ).toArray s 0 0 (cpA a sz)) (F0 m 128 ls []) := by
                      intro  H locs ls h hI hl
                      have h := hK128  h
                      refine lv_iconst (v := (1 : Int32)) hx hb dX0_readOptions_128 (by decide) ?_
                      refine lv_goto (tgt := 133) hx hb dX0_readOptions_129 (by decide) ?_
                      exact J133 (1 : Int32) _ _ _ h hI (lv_sub hl [0, 1, 2, 3, 4, 5] rfl)
                    refine lv_icmp_eq (tgt := 128) hx hb dX0_readOptions_117 (by decide) (fun c23 => ?_) (fun c23 => ?_)
                    · have h := h.1 c23
                      exact J128  _ _ _ h hI (lv_sub hl [0, 1, 2, 3, 4, 6] rfl)
                    · have h := h.2 c23
                      refine lv_iload hx hb dX0_readOptions_120 (lv_at hl 5 rfl) ?_
                      refine lv_sipush (v := (137 : Int32)) hx hb dX0_readOptions_122 (by decide) ?_
                      refine lv_icmp_ne (tgt := 132) hx hb dX0_readOptions_125 (by decide) (fun c24 => ?_) (fun c24 => ?_)
                      · have h := h.1 c24
                        refine lv_iconst (v := (0 : Int32)) hx hb dX0_readOptions_132 (by decide) ?_
                        exact J133 (0 : Int32) _ _ _ h hI (lv_sub hl [0, 1, 2, 3, 4, 6] rfl)
                      · have h := h.2 c24
                        exact J128  _ _ _ h hI (lv_sub hl [0, 1, 2, 3, 4, 6] rfl)
                  · have h := h.2 c13
                    refine lv_iconst (v := (0 : Int32)) hx hb dX0_readOptions_110 (by decide) ?_
                    exact cpzret (Z := (fun r M' L' => L' = L ∧ Z r M')) hx hb hr hlocks hK hI dX0_readOptions_111 ⟨isB_0, ⟨rfl, h⟩⟩
                refine lv_icmp_ge (tgt := 102) hx hb dX0_readOptions_93 (by decide) (fun c25 => ?_) (fun c25 => ?_)
                · have h := h.1 c25
                  exact J102  _ _ _ h hI (lv_sub hl [1, 2, 3, 4, 5, 6, 0] rfl)
                · have h := h.2 c25
                  refine lv_iload hx hb dX0_readOptions_96 (lv_at hl 6 rfl) ?_
                  refine lv_iconst (v := (1 : Int32)) hx hb dX0_readOptions_98 (by decide) ?_
                  refine lv_icmp_ne (tgt := 110) hx hb dX0_readOptions_99 (by decide) (fun c26 => ?_) (fun c26 => ?_)
                  · have h := h.1 c26
                    refine lv_iconst (v := (0 : Int32)) hx hb dX0_readOptions_110 (by decide) ?_
                    exact cpzret (Z := (fun r M' L' => L' = L ∧ Z r M')) hx hb hr hlocks hK hI dX0_readOptions_111 ⟨isB_0, ⟨rfl, h⟩⟩
                  · have h := h.2 c26
                    exact J102  _ _ _ h hI (lv_sub hl [1, 2, 3, 4, 5, 6, 0] rfl)
            refine lv_icmp_ne (tgt := 64) hx hb dX0_readOptions_57 (by decide) (fun c27 => ?_) (fun c27 => ?_)
            · have h := h.1 c27
              refine lv_iload_n hx hb dX0_readOptions_64 rfl (lv_at hl 4 rfl) ?_
              refine lv_iconst (v := (1 : Int32)) hx hb dX0_readOptions_65 (by decide) ?_
              refine lv_iadd hx hb dX0_readOptions_66 ?_
              refine lv_iload_n hx hb dX0_readOptions_67 rfl (lv_at hl 3 rfl) ?_
              refine lv_icmp_ge (tgt := 81) hx hb dX0_readOptions_68 (by decide) (fun c28 => ?_) (fun c28 => ?_)
              · have h := h.1 c28
                refine lv_iconst (v := (0 : Int32)) hx hb dX0_readOptions_81 (by decide) ?_
                exact J82 (0 : Int32) _ _ _ h hI (lv_sub hl [1, 2, 3, 4, 5, 0] rfl)
              · have h := h.2 c28
                refine lv_aload_n hx hb dX0_readOptions_71 rfl (lv_at hl 2 rfl) ?_
                refine lv_iload_n hx hb dX0_readOptions_72 rfl (lv_at hl 4 rfl) ?_
                refine lv_iconst (v := (1 : Int32)) hx hb dX0_readOptions_73 (by decide) ?_
                refine lv_iadd hx hb dX0_readOptions_74 ?_
                refine cpcalli_p hsz hI (va_runV (As := [.int (x4 + (1 : Int32))]) (rest := []) ⟨hx, hb, hml, hown, hu⟩ (met_X4_at_1 l dC dI a kA t _ M6 L (x4 + (1 : Int32)) _ h) (cwl_X0_44_X4 hu ⟨by decide, by decide⟩) (cppre (ci := 3) hK hE hsz hI rfl rfl) rfl rfl hl.1 rfl (lv_room (Nat.le_of_ble_eq_true rfl)) dX0_readOptions_75 ⟨by decide, by decide⟩) (fun r29 H locs h hI => ?_)
                refine lv_goto (tgt := 82) hx hb dX0_readOptions_78 (by decide) ?_
                exact J82 r29 _ _ _ h hI (lv_sub hl [1, 2, 3, 4, 5, 0] rfl)
            · have h := h.2 c27
              refine lv_iconst (v := (1 : Int32)) hx hb dX0_readOptions_60 (by decide) ?_
              refine lv_goto (tgt := 82) hx hb dX0_readOptions_61 (by decide) ?_
              exact J82 (1 : Int32) _ _ _ h hI (lv_sub hl [1, 2, 3, 4, 5, 0] rfl)
          · have h := h.2 c10
            refine lv_iconst (v := (1 : Int32)) hx hb dX0_readOptions_52 (by decide) ?_
            exact cpzret (Z := (fun r M' L' => L' = L ∧ Z r M')) hx hb hr hlocks hK hI dX0_readOptions_53 ⟨isB_1, ⟨rfl, h⟩⟩
  exact P26 (m26 x2 (0 : Int32) M3 + 1) x2 (0 : Int32) M3 _ _ _ h (Nat.lt_succ_self _) hI (lv_sub hl [3, 4, 2, 1, 0] rfl)

abbrev rm_X2_fragment_11 : Room := { frames := 0, cells := 0, slots := 0, locals := 0 }
abbrev av_X2_fragment_11 (a t : Nat → Nat)  : List Value := [.ref (a 11)]
abbrev qc_X2_fragment_11 (dC : Nat → ClassId) (dI : Nat → Nat → Nat) (a : Nat → Nat) (kA : Nat → ClassId) (sz : Nat) (M : cM) (L : cL) (Z : Int32 → Prop) : Array Value → State → Outcome → State → Prop := va_Qi (fun r (u : cM × cL) => u.1 = M ∧ u.2 = L ∧ Z r) (cpAt dC dI a kA (cpA a sz)) (cpA a sz)
set_option maxHeartbeats 4000000 in
set_option maxRecDepth 100000 in
theorem met_X2_fragment_11 (l : Launch) (dC : Nat → ClassId) (dI : Nat → Nat → Nat) (a : Nat → Nat) (kA : Nat → ClassId) (t : Nat → Nat) (sz : Nat) (M : cM) (L : cL)  (Z : Int32 → Prop) (h : wp_X2_fragment_11 M L  Z) : Met l yX2_fragment (Cond.code yX2_fragment cX2_fragment 1 (some .boolean) :: uW) rm_X2_fragment_11 (va_Pc (av_X2_fragment_11 a t ) (cpPre dC dI a kA t M L sz)) (qc_X2_fragment_11 dC dI a kA sz M L Z) 0 0 (cpA a sz) := by
  refine cpenter (cc := cX2_fragment) (n := 1) (ret := (some .boolean)) (by decide) rfl (Nat.le_of_ble_eq_true rfl) ?_
  intro p e s m below meth c ls hx hb hml hr hlocks hown hts hK hE hsz hI hl hmn
  have hu : ∀ w ∈ uW, w.before (av_X2_fragment_11 a t ).toArray s = true := fun w h => hts w (List.mem_cons_of_mem _ h)
  have hown : s.vm.findClass RX2 = some m.cls := hown
  have hl : lv_has ls 1 [(0, .ref (a 11))] := hl
  unfold wp_X2_fragment_11 at h
  refine lv_aload_n hx hb dX2_fragment_0 rfl (lv_at hl 0 rfl) ?_
  refine va_get (D := (dC, dI)) (ci := 0) (v := .int (M 11 5)) (C := RX0) (T := TX0) (N := 18) hx hb hu uX0 hown hK hI.1 11 rfl rfl 5 (by decide) (hu _ uww_88) (fun _ h9 => h9) rfl dX2_fragment_1 ?_
  refine lv_if_ne (tgt := 14) hx hb dX2_fragment_4 (by decide) (fun c1 => ?_) (fun c1 => ?_)
  · have h := h.1 c1
    refine lv_iconst (v := (1 : Int32)) hx hb dX2_fragment_14 (by decide) ?_
    refine lv_goto (tgt := 19) hx hb dX2_fragment_15 (by decide) ?_
    exact cpzret (Z := (fun r M' L' => M' = M ∧ L' = L ∧ Z r)) hx hb hr hlocks hK hI dX2_fragment_19 ⟨isB_1, ⟨rfl, rfl, h⟩⟩
  · have h := h.2 c1
    refine lv_aload_n hx hb dX2_fragment_7 rfl (lv_at hl 0 rfl) ?_
    refine va_get (D := (dC, dI)) (ci := 0) (v := .int (M 11 6)) (C := RX0) (T := TX0) (N := 18) hx hb hu uX0 hown hK hI.1 11 rfl rfl 6 (by decide) (hu _ uww_80) (fun _ h9 => h9) rfl dX2_fragment_8 ?_
    refine lv_if_eq (tgt := 18) hx hb dX2_fragment_11 (by decide) (fun c2 => ?_) (fun c2 => ?_)
    · have h := h.1 c2
      refine lv_iconst (v := (0 : Int32)) hx hb dX2_fragment_18 (by decide) ?_
      exact cpzret (Z := (fun r M' L' => M' = M ∧ L' = L ∧ Z r)) hx hb hr hlocks hK hI dX2_fragment_19 ⟨isB_0, ⟨rfl, rfl, h⟩⟩
    · have h := h.2 c2
      refine lv_iconst (v := (1 : Int32)) hx hb dX2_fragment_14 (by decide) ?_
      refine lv_goto (tgt := 19) hx hb dX2_fragment_15 (by decide) ?_
      exact cpzret (Z := (fun r M' L' => M' = M ∧ L' = L ∧ Z r)) hx hb hr hlocks hK hI dX2_fragment_19 ⟨isB_1, ⟨rfl, rfl, h⟩⟩

abbrev rm_X2_endsTooFar_11 : Room := { frames := 1, cells := 0, slots := 0, locals := 20 }
abbrev av_X2_endsTooFar_11 (a t : Nat → Nat)  : List Value := [.ref (a 11)]
abbrev qc_X2_endsTooFar_11 (dC : Nat → ClassId) (dI : Nat → Nat → Nat) (a : Nat → Nat) (kA : Nat → ClassId) (sz : Nat) (M : cM) (L : cL) (Z : Int32 → Prop) : Array Value → State → Outcome → State → Prop := va_Qi (fun r (u : cM × cL) => u.1 = M ∧ u.2 = L ∧ Z r) (cpAt dC dI a kA (cpA a sz)) (cpA a sz)
set_option maxHeartbeats 4000000 in
set_option maxRecDepth 100000 in
theorem met_X2_endsTooFar_11 (l : Launch) (dC : Nat → ClassId) (dI : Nat → Nat → Nat) (a : Nat → Nat) (kA : Nat → ClassId) (t : Nat → Nat) (sz : Nat) (M : cM) (L : cL)  (Z : Int32 → Prop) (h : wp_X2_endsTooFar_11 M L  Z) : Met l yX2_endsTooFar (Cond.code yX2_endsTooFar cX2_endsTooFar 1 (some .boolean) :: uW) rm_X2_endsTooFar_11 (va_Pc (av_X2_endsTooFar_11 a t ) (cpPre dC dI a kA t M L sz)) (qc_X2_endsTooFar_11 dC dI a kA sz M L Z) 0 0 (cpA a sz) := by
  refine cpenter (cc := cX2_endsTooFar) (n := 1) (ret := (some .boolean)) (by decide) rfl (Nat.le_of_ble_eq_true rfl) ?_
  intro p e s m below meth c ls hx hb hml hr hlocks hown hts hK hE hsz hI hl hmn
  have hu : ∀ w ∈ uW, w.before (av_X2_endsTooFar_11 a t ).toArray s = true := fun w h => hts w (List.mem_cons_of_mem _ h)
  have hown : s.vm.findClass RX2 = some m.cls := hown
  have hl : lv_has ls 1 [(0, .ref (a 11))] := hl
  unfold wp_X2_endsTooFar_11 at h
  refine lv_aload_n hx hb dX2_endsTooFar_0 rfl (lv_at hl 0 rfl) ?_
  refine cpcalli_p hsz hI (va_runU (As := []) (rest := []) ⟨hx, hb, hml, hown, hu⟩ (met_X2_fragment_11 l dC dI a kA t _ M L  _ h) (cwl_X2_19_X0 hu ⟨by decide, by decide⟩) (cppre (ci := 0) hK hE hsz hI rfl rfl) rfl rfl hl.1 rfl (lv_room (Nat.le_of_ble_eq_true rfl)) dX2_endsTooFar_1 ⟨by decide, by decide⟩) (fun r1 H locs h hI => ?_)
  refine lv_if_eq (tgt := 28) hx hb dX2_endsTooFar_4 (by decide) (fun c2 => ?_) (fun c2 => ?_)
  · have h := h.1 c2
    refine lv_iconst (v := (0 : Int32)) hx hb dX2_endsTooFar_28 (by decide) ?_
    exact cpzret (Z := (fun r M' L' => M' = M ∧ L' = L ∧ Z r)) hx hb hr hlocks hK hI dX2_endsTooFar_29 ⟨isB_0, ⟨rfl, rfl, h⟩⟩
  · have h := h.2 c2
    refine lv_aload_n hx hb dX2_endsTooFar_7 rfl (lv_at hl 0 rfl) ?_
    refine va_get (D := (dC, dI)) (ci := 0) (v := .int (M 11 6)) (C := RX0) (T := TX0) (N := 18) hx hb hu uX0 hown hK hI.1 11 rfl rfl 6 (by decide) (hu _ uww_80) (fun _ h9 => h9) rfl dX2_endsTooFar_8 ?_
    refine lv_bipush (v := (8 : Int32)) hx hb dX2_endsTooFar_11 (by decide) ?_
    refine lv_imul hx hb dX2_endsTooFar_13 ?_
    refine lv_aload_n hx hb dX2_endsTooFar_14 rfl (lv_at hl 0 rfl) ?_
    refine va_get (D := (dC, dI)) (ci := 0) (v := .int (M 11 8)) (C := RX0) (T := TX0) (N := 18) hx hb hu uX0 hown hK hI.1 11 rfl rfl 8 (by decide) (hu _ uww_81) (fun _ h9 => h9) rfl dX2_endsTooFar_15 ?_
    refine lv_iadd hx hb dX2_endsTooFar_18 ?_
    refine lv_ldc (own := RX2) (v := (65535 : Int32)) hx hb hown (hu _ uww_82) dX2_endsTooFar_19 ?_
    refine lv_icmp_le (tgt := 28) hx hb dX2_endsTooFar_21 (by decide) (fun c3 => ?_) (fun c3 => ?_)
    · have h := h.1 c3
      refine lv_iconst (v := (0 : Int32)) hx hb dX2_endsTooFar_28 (by decide) ?_
      exact cpzret (Z := (fun r M' L' => M' = M ∧ L' = L ∧ Z r)) hx hb hr hlocks hK hI dX2_endsTooFar_29 ⟨isB_0, ⟨rfl, rfl, h⟩⟩
    · have h := h.2 c3
      refine lv_iconst (v := (1 : Int32)) hx hb dX2_endsTooFar_24 (by decide) ?_
      refine lv_goto (tgt := 29) hx hb dX2_endsTooFar_25 (by decide) ?_
      exact cpzret (Z := (fun r M' L' => M' = M ∧ L' = L ∧ Z r)) hx hb hr hlocks hK hI dX2_endsTooFar_29 ⟨isB_1, ⟨rfl, rfl, h⟩⟩

abbrev rm_X0_readWhole_11_1 : Room := { frames := 3, cells := 0, slots := 0, locals := 73 }
abbrev av_X0_readWhole_11_1 (a t : Nat → Nat)  : List Value := [.ref (a 11), .ref (a 1)]
abbrev qc_X0_readWhole_11_1 (dC : Nat → ClassId) (dI : Nat → Nat → Nat) (a : Nat → Nat) (kA : Nat → ClassId) (sz : Nat) (M : cM) (L : cL) (Z : Int32 → cM → cL → Prop) : Array Value → State → Outcome → State → Prop := va_Qi (fun r (u : cM × cL) => Z r u.1 u.2) (cpAt dC dI a kA (cpA a sz)) (cpA a sz)
set_option maxHeartbeats 4000000 in
set_option maxRecDepth 100000 in
theorem met_X0_readWhole_11_1 (l : Launch) (dC : Nat → ClassId) (dI : Nat → Nat → Nat) (a : Nat → Nat) (kA : Nat → ClassId) (t : Nat → Nat) (sz : Nat) (M : cM) (L : cL)  (Z : Int32 → cM → cL → Prop) (h : wp_X0_readWhole_11_1 M L  Z) : Met l yX0_readWhole (Cond.code yX0_readWhole cX0_readWhole 2 (some .boolean) :: uW) rm_X0_readWhole_11_1 (va_Pc (av_X0_readWhole_11_1 a t ) (cpPre dC dI a kA t M L sz)) (qc_X0_readWhole_11_1 dC dI a kA sz M L Z) 0 0 (cpA a sz) := by
  refine cpenter (cc := cX0_readWhole) (n := 2) (ret := (some .boolean)) (by decide) rfl (Nat.le_of_ble_eq_true rfl) ?_
  intro p e s m below meth c ls hx hb hml hr hlocks hown hts hK hE hsz hI hl hmn
  have hu : ∀ w ∈ uW, w.before (av_X0_readWhole_11_1 a t ).toArray s = true := fun w h => hts w (List.mem_cons_of_mem _ h)
  have hown : s.vm.findClass RX0 = some m.cls := hown
  have hl : lv_has ls 2 [(0, .ref (a 11)), (1, .ref (a 1))] := hl
  unfold wp_X0_readWhole_11_1 at h
  refine lv_aload_n hx hb dX0_readWhole_0 rfl (lv_at hl 0 rfl) ?_
  refine lv_aload_n hx hb dX0_readWhole_1 rfl (lv_at hl 1 rfl) ?_
  refine lv_iconst (v := (0 : Int32)) hx hb dX0_readWhole_2 (by decide) ?_
  refine lv_aload_n hx hb dX0_readWhole_3 rfl (lv_at hl 1 rfl) ?_
  refine va_getN (D := (dC, dI)) (ci := 3) (v := .int (M 1 1)) (C := RX4) (T := TX4) (N := 2) hx hb hu uX4 hown hK hI.1 1 rfl rfl 1 (by decide) (va_Nw.use rfl (hE.1 _ cpn_2)) (fun _ h9 => h9) rfl dX0_readWhole_4 ?_
  refine cpcalli hsz hI (va_runV (As := [.ref (a 1), .int (0 : Int32), .int (M 1 1)]) (rest := []) ⟨hx, hb, hml, hown, hu⟩ (met_X0_read_11_1 l dC dI a kA t _ M L (0 : Int32) (M 1 1) _ h) (cwl_X0_15_X0 hu ⟨by decide, by decide⟩) (cppre (ci := 0) hK hE hsz hI rfl rfl) rfl rfl hl.1 rfl (lv_room (Nat.le_of_ble_eq_true rfl)) dX0_readWhole_7 ⟨by decide, by decide⟩) (fun r1 M2 L3 H locs h hI => ?_)
  refine lv_if_eq (tgt := 60) hx hb dX0_readWhole_10 (by decide) (fun c4 => ?_) (fun c4 => ?_)
  · have h := h.1 c4
    refine lv_iconst (v := (0 : Int32)) hx hb dX0_readWhole_60 (by decide) ?_
    exact cpzret (Z := (fun r M' L' => Z r M' L')) hx hb hr hlocks hK hI dX0_readWhole_61 ⟨isB_0, h⟩
  · have h := h.2 c4
    refine lv_aload_n hx hb dX0_readWhole_13 rfl (lv_at hl 0 rfl) ?_
    refine va_get (D := (dC, dI)) (ci := 0) (v := .int (M2 11 15)) (C := RX0) (T := TX0) (N := 18) hx hb hu uX0 hown hK hI.1 11 rfl rfl 15 (by decide) (hu _ uww_8) (fun _ h9 => h9) rfl dX0_readWhole_14 ?_
    refine lv_aload_n hx hb dX0_readWhole_17 rfl (lv_at hl 1 rfl) ?_
    refine va_getN (D := (dC, dI)) (ci := 3) (v := .int (M2 1 1)) (C := RX4) (T := TX4) (N := 2) hx hb hu uX4 hown hK hI.1 1 rfl rfl 1 (by decide) (va_Nw.use rfl (hE.1 _ cpn_2)) (fun _ h9 => h9) rfl dX0_readWhole_18 ?_
    refine lv_icmp_gt (tgt := 60) hx hb dX0_readWhole_21 (by decide) (fun c5 => ?_) (fun c5 => ?_)
    · have h := h.1 c5
      refine lv_iconst (v := (0 : Int32)) hx hb dX0_readWhole_60 (by decide) ?_
      exact cpzret (Z := (fun r M' L' => Z r M' L')) hx hb hr hlocks hK hI dX0_readWhole_61 ⟨isB_0, h⟩
    · have h := h.2 c5
      refine lv_aload_n hx hb dX0_readWhole_24 rfl (lv_at hl 1 rfl) ?_
      refine lv_iconst (v := (0 : Int32)) hx hb dX0_readWhole_25 (by decide) ?_
      refine lv_aload_n hx hb dX0_readWhole_26 rfl (lv_at hl 0 rfl) ?_
      refine va_get (D := (dC, dI)) (ci := 0) (v := .int (M2 11 14)) (C := RX0) (T := TX0) (N := 18) hx hb hu uX0 hown hK hI.1 11 rfl rfl 14 (by decide) (hu _ uww_9) (fun _ h9 => h9) rfl dX0_readWhole_27 ?_
      refine cpcalll_p hsz hI (va_runV (As := [.int (0 : Int32), .int (M2 11 14)]) (rest := []) ⟨hx, hb, hml, hown, hu⟩ (met_X4_sum_1 l dC dI a kA t _ M2 L3 (0 : Int32) (M2 11 14) _ h) (cwl_X0_27_X4 hu ⟨by decide, by decide⟩) (cppre (ci := 3) hK hE hsz hI rfl rfl) rfl rfl hl.1 rfl (lv_room (Nat.le_of_ble_eq_true rfl)) dX0_readWhole_30 ⟨by decide, by decide⟩) (fun r6 H locs h hI => ?_)
      refine cpcalli_p hsz hI (va_runSN (As := [.long r6]) (rest := []) ⟨hx, hb, hml, hown, hu⟩ (met_X6_folded l dC dI a kA t _ M2 L3 r6 _ h) (cwl_X0_31_S hu ⟨by decide, by decide⟩ (hE.1 _ cpn_21)) (cppreS hK hE hsz hI) rfl rfl hl.1 rfl (lv_room (Nat.le_of_ble_eq_true rfl)) dX0_readWhole_33 ⟨by decide, by decide⟩) (fun r7 H locs h hI => ?_)
      refine lv_ldc (own := RX0) (v := (65535 : Int32)) hx hb hown (hu _ uww_10) dX0_readWhole_36 ?_
      refine lv_icmp_ne (tgt := 60) hx hb dX0_readWhole_38 (by decide) (fun c8 => ?_) (fun c8 => ?_)
      · have h := h.1 c8
        refine lv_iconst (v := (0 : Int32)) hx hb dX0_readWhole_60 (by decide) ?_
        exact cpzret (Z := (fun r M' L' => Z r M' L')) hx hb hr hlocks hK hI dX0_readWhole_61 ⟨isB_0, h⟩
      · have h := h.2 c8
        refine lv_aload_n hx hb dX0_readWhole_41 rfl (lv_at hl 0 rfl) ?_
        refine lv_aload_n hx hb dX0_readWhole_42 rfl (lv_at hl 1 rfl) ?_
        refine cpcalli_m hsz hI (va_runV (As := [.ref (a 1)]) (rest := []) ⟨hx, hb, hml, hown, hu⟩ (met_X0_readOptions_11_1 l dC dI a kA t _ M2 L3  _ h) (cwl_X0_36_X0 hu ⟨by decide, by decide⟩) (cppre (ci := 0) hK hE hsz hI rfl rfl) rfl rfl hl.1 rfl (lv_room (Nat.le_of_ble_eq_true rfl)) dX0_readWhole_43 ⟨by decide, by decide⟩) (fun r9 M10 H locs h hI => ?_)
        refine lv_if_eq (tgt := 60) hx hb dX0_readWhole_46 (by decide) (fun c11 => ?_) (fun c11 => ?_)
        · have h := h.1 c11
          refine lv_iconst (v := (0 : Int32)) hx hb dX0_readWhole_60 (by decide) ?_
          exact cpzret (Z := (fun r M' L' => Z r M' L')) hx hb hr hlocks hK hI dX0_readWhole_61 ⟨isB_0, h⟩
        · have h := h.2 c11
          refine lv_aload_n hx hb dX0_readWhole_49 rfl (lv_at hl 0 rfl) ?_
          refine cpcalli_p hsz hI (va_runU (As := []) (rest := []) ⟨hx, hb, hml, hown, hu⟩ (met_X2_endsTooFar_11 l dC dI a kA t _ M10 L3  _ h) (cwl_X0_40_X0 hu ⟨by decide, by decide⟩) (cppre (ci := 0) hK hE hsz hI rfl rfl) rfl rfl hl.1 rfl (lv_room (Nat.le_of_ble_eq_true rfl)) dX0_readWhole_50 ⟨by decide, by decide⟩) (fun r12 H locs h hI => ?_)
          refine lv_if_ne (tgt := 60) hx hb dX0_readWhole_53 (by decide) (fun c13 => ?_) (fun c13 => ?_)
          · have h := h.1 c13
            refine lv_iconst (v := (0 : Int32)) hx hb dX0_readWhole_60 (by decide) ?_
            exact cpzret (Z := (fun r M' L' => Z r M' L')) hx hb hr hlocks hK hI dX0_readWhole_61 ⟨isB_0, h⟩
          · have h := h.2 c13
            refine lv_iconst (v := (1 : Int32)) hx hb dX0_readWhole_56 (by decide) ?_
            refine lv_goto (tgt := 61) hx hb dX0_readWhole_57 (by decide) ?_
            exact cpzret (Z := (fun r M' L' => Z r M' L')) hx hb hr hlocks hK hI dX0_readWhole_61 ⟨isB_1, h⟩

abbrev rm_X1_mappable_10 : Room := { frames := 0, cells := 0, slots := 0, locals := 0 }
abbrev av_X1_mappable_10 (a t : Nat → Nat) (p1 : Int32) : List Value := [.ref (a 10), .int p1]
abbrev qc_X1_mappable_10 (dC : Nat → ClassId) (dI : Nat → Nat → Nat) (a : Nat → Nat) (kA : Nat → ClassId) (sz : Nat) (M : cM) (L : cL) (Z : Int32 → Prop) : Array Value → State → Outcome → State → Prop := va_Qi (fun r (u : cM × cL) => u.1 = M ∧ u.2 = L ∧ Z r) (cpAt dC dI a kA (cpA a sz)) (cpA a sz)
set_option maxHeartbeats 4000000 in
set_option maxRecDepth 100000 in
theorem met_X1_mappable_10 (l : Launch) (dC : Nat → ClassId) (dI : Nat → Nat → Nat) (a : Nat → Nat) (kA : Nat → ClassId) (t : Nat → Nat) (sz : Nat) (M : cM) (L : cL) (p1 : Int32) (Z : Int32 → Prop) (h : wp_X1_mappable_10 M L p1 Z) : Met l yX1_mappable (Cond.code yX1_mappable cX1_mappable 5 (some .boolean) :: uW) rm_X1_mappable_10 (va_Pc (av_X1_mappable_10 a t p1) (cpPre dC dI a kA t M L sz)) (qc_X1_mappable_10 dC dI a kA sz M L Z) 0 0 (cpA a sz) := by
  refine cpenter (cc := cX1_mappable) (n := 5) (ret := (some .boolean)) (by decide) rfl (Nat.le_of_ble_eq_true rfl) ?_
  intro p e s m below meth c ls hx hb hml hr hlocks hown hts hK hE hsz hI hl hmn
  have hu : ∀ w ∈ uW, w.before (av_X1_mappable_10 a t p1).toArray s = true := fun w h => hts w (List.mem_cons_of_mem _ h)
  have hown : s.vm.findClass RX1 = some m.cls := hown
  have hl : lv_has ls 5 [(0, .ref (a 10)), (1, .int p1)] := hl
  unfold wp_X1_mappable_10 at h
  refine lv_iload_n hx hb dX1_mappable_0 rfl (lv_at hl 1 rfl) ?_
  refine lv_bipush (v := (24 : Int32)) hx hb dX1_mappable_1 (by decide) ?_
  refine lv_iushr hx hb dX1_mappable_3 rfl ?_
  refine lv_topi (fun x1 ex1 => ?_)
  have h := h x1 ex1
  refine lv_istore_n (lv' := [(2, .int x1), (0, .ref (a 10)), (1, .int p1)]) hx hb dX1_mappable_4 rfl hl (by decide) rfl (fun ls hl => ?_)
  refine lv_iload_n hx hb dX1_mappable_5 rfl (lv_at hl 0 rfl) ?_
  refine lv_if_eq (tgt := 31) hx hb dX1_mappable_6 (by decide) (fun c2 => ?_) (fun c2 => ?_)
  · have h := h.1 c2
    refine lv_iconst (v := (0 : Int32)) hx hb dX1_mappable_31 (by decide) ?_
    exact cpzret (Z := (fun r M' L' => M' = M ∧ L' = L ∧ Z r)) hx hb hr hlocks hK hI dX1_mappable_32 ⟨isB_0, ⟨rfl, rfl, h⟩⟩
  · have h := h.2 c2
    refine lv_iload_n hx hb dX1_mappable_9 rfl (lv_at hl 0 rfl) ?_
    refine lv_bipush (v := (127 : Int32)) hx hb dX1_mappable_10 (by decide) ?_
    refine lv_icmp_eq (tgt := 31) hx hb dX1_mappable_12 (by decide) (fun c3 => ?_) (fun c3 => ?_)
    · have h := h.1 c3
      refine lv_iconst (v := (0 : Int32)) hx hb dX1_mappable_31 (by decide) ?_
      exact cpzret (Z := (fun r M' L' => M' = M ∧ L' = L ∧ Z r)) hx hb hr hlocks hK hI dX1_mappable_32 ⟨isB_0, ⟨rfl, rfl, h⟩⟩
    · have h := h.2 c3
      refine lv_iload_n hx hb dX1_mappable_15 rfl (lv_at hl 0 rfl) ?_
      refine lv_sipush (v := (224 : Int32)) hx hb dX1_mappable_16 (by decide) ?_
      refine lv_icmp_ge (tgt := 31) hx hb dX1_mappable_19 (by decide) (fun c4 => ?_) (fun c4 => ?_)
      · have h := h.1 c4
        refine lv_iconst (v := (0 : Int32)) hx hb dX1_mappable_31 (by decide) ?_
        exact cpzret (Z := (fun r M' L' => M' = M ∧ L' = L ∧ Z r)) hx hb hr hlocks hK hI dX1_mappable_32 ⟨isB_0, ⟨rfl, rfl, h⟩⟩
      · have h := h.2 c4
        refine lv_iload_n hx hb dX1_mappable_22 rfl (lv_at hl 2 rfl) ?_
        refine lv_bipush (v := (16 : Int32)) hx hb dX1_mappable_23 (by decide) ?_
        refine lv_iushr hx hb dX1_mappable_25 rfl ?_
        refine lv_ldc (own := RX1) (v := (43518 : Int32)) hx hb hown (hu _ uww_103) dX1_mappable_26 ?_
        refine lv_icmp_ne (tgt := 33) hx hb dX1_mappable_28 (by decide) (fun c5 => ?_) (fun c5 => ?_)
        · have h := h.1 c5
          refine lv_aload_n hx hb dX1_mappable_33 rfl (lv_at hl 1 rfl) ?_
          refine va_get (D := (dC, dI)) (ci := 1) (v := .long (L 10 0)) (C := RX1) (T := TX1) (N := 3) hx hb hu uX1 hown hK hI.1 10 rfl rfl 0 (by decide) (hu _ uww_97) (fun _ h9 => h9) rfl dX1_mappable_34 ?_
          refine lv_ldc2 (own := RX1) (v := (28428538856079360 : Int64)) hx hb hown (hu _ uww_96) dX1_mappable_37 ?_
          refine W.lcmp hx hb dX1_mappable_40 ?_
          obtain ⟨K67, hK67, h⟩ := h
          have J67 : ∀ (v6 : Int32) (H : Heap) (locs : List Loc) (ls : Array Slot), K67 v6 → cpI dC dI a kA (cpA a sz) s M L H locs → lv_has ls 5 [(1, .int p1), (2, .int x1)] → W p l e rm_X1_mappable_10 s m (av_X1_mappable_10 a t p1).toArray below meth c H locs 0 0 (MQ below (qc_X1_mappable_10 dC dI a kA sz M L Z) (av_X1_mappable_10 a t p1).toArray s 0 0 (cpA a sz)) (F0 m 67 ls [.int v6]) := by
            intro v6 H locs ls h hI hl
            have h := hK67 v6 h
            refine lv_istore_n (lv' := [(3, .int v6), (1, .int p1), (2, .int x1)]) hx hb dX1_mappable_67 rfl hl (by decide) rfl (fun ls hl => ?_)
            refine lv_iload_n hx hb dX1_mappable_68 rfl (lv_at hl 2 rfl) ?_
            refine lv_bipush (v := (10 : Int32)) hx hb dX1_mappable_69 (by decide) ?_
            obtain ⟨K98, hK98, h⟩ := h
            have J98 : ∀ (v7 : Int32) (H : Heap) (locs : List Loc) (ls : Array Slot), K98 v7 → cpI dC dI a kA (cpA a sz) s M L H locs → lv_has ls 5 [(3, .int v6)] → W p l e rm_X1_mappable_10 s m (av_X1_mappable_10 a t p1).toArray below meth c H locs 0 0 (MQ below (qc_X1_mappable_10 dC dI a kA sz M L Z) (av_X1_mappable_10 a t p1).toArray s 0 0 (cpA a sz)) (F0 m 98 ls [.int v7]) := by
              intro v7 H locs ls h hI hl
              have h := hK98 v7 h
              refine lv_istore (lv' := [(4, .int v7), (3, .int v6)]) hx hb dX1_mappable_98 hl (by decide) rfl (fun ls hl => ?_)
              refine lv_iload_n hx hb dX1_mappable_100 rfl (lv_at hl 1 rfl) ?_
              refine lv_if_eq (tgt := 109) hx hb dX1_mappable_101 (by decide) (fun c8 => ?_) (fun c8 => ?_)
              · have h := h.1 c8
                refine lv_iconst (v := (1 : Int32)) hx hb dX1_mappable_109 (by decide) ?_
                refine lv_goto (tgt := 114) hx hb dX1_mappable_110 (by decide) ?_
                exact cpzret (Z := (fun r M' L' => M' = M ∧ L' = L ∧ Z r)) hx hb hr hlocks hK hI dX1_mappable_114 ⟨isB_1, ⟨rfl, rfl, h⟩⟩
              · have h := h.2 c8
                refine lv_iload hx hb dX1_mappable_104 (lv_at hl 0 rfl) ?_
                refine lv_if_ne (tgt := 113) hx hb dX1_mappable_106 (by decide) (fun c9 => ?_) (fun c9 => ?_)
                · have h := h.1 c9
                  refine lv_iconst (v := (0 : Int32)) hx hb dX1_mappable_113 (by decide) ?_
                  exact cpzret (Z := (fun r M' L' => M' = M ∧ L' = L ∧ Z r)) hx hb hr hlocks hK hI dX1_mappable_114 ⟨isB_0, ⟨rfl, rfl, h⟩⟩
                · have h := h.2 c9
                  refine lv_iconst (v := (1 : Int32)) hx hb dX1_mappable_109 (by decide) ?_
                  refine lv_goto (tgt := 114) hx hb dX1_mappable_110 (by decide) ?_
                  exact cpzret (Z := (fun r M' L' => M' = M ∧ L' = L ∧ Z r)) hx hb hr hlocks hK hI dX1_mappable_114 ⟨isB_1, ⟨rfl, rfl, h⟩⟩
            obtain ⟨K93, hK93, h⟩ := h
            have J93 : ∀  (H : Heap) (locs : List Loc) (ls : Array Slot), K93  → cpI dC dI a kA (cpA a sz) s M L H locs → lv_has ls 5 [(3, .int v6)] → W p l e rm_X1_mappable_10 s m (av_X1_mappable_10 a t p1).toArray below meth c H locs 0 0 (MQ below (qc_X1_mappable_10 dC dI a kA sz M L Z) (av_X1_mappable_10 a t p1).toArray s 0 0 (cpA a sz)) (F0 m 93 ls []) := by
              intro  H locs ls h hI hl
              have h := hK93  h
              refine lv_iconst (v := (1 : Int32)) hx hb dX1_mappable_93 (by decide) ?_
              refine lv_goto (tgt := 98) hx hb dX1_mappable_94 (by decide) ?_
              exact J98 (1 : Int32) _ _ _ h hI (lv_sub hl [0] rfl)
            refine lv_icmp_eq (tgt := 93) hx hb dX1_mappable_71 (by decide) (fun c10 => ?_) (fun c10 => ?_)
            · have h := h.1 c10
              exact J93  _ _ _ h hI (lv_sub hl [0] rfl)
            · have h := h.2 c10
              refine lv_iload_n hx hb dX1_mappable_74 rfl (lv_at hl 1 rfl) ?_
              refine lv_bipush (v := (20 : Int32)) hx hb dX1_mappable_75 (by decide) ?_
              refine lv_iushr hx hb dX1_mappable_77 rfl ?_
              refine lv_sipush (v := (2753 : Int32)) hx hb dX1_mappable_78 (by decide) ?_
              refine lv_icmp_eq (tgt := 93) hx hb dX1_mappable_81 (by decide) (fun c11 => ?_) (fun c11 => ?_)
              · have h := h.1 c11
                exact J93  _ _ _ h hI (lv_sub hl [0] rfl)
              · have h := h.2 c11
                refine lv_iload_n hx hb dX1_mappable_84 rfl (lv_at hl 1 rfl) ?_
                refine lv_bipush (v := (16 : Int32)) hx hb dX1_mappable_85 (by decide) ?_
                refine lv_iushr hx hb dX1_mappable_87 rfl ?_
                refine lv_ldc (own := RX1) (v := (49320 : Int32)) hx hb hown (hu _ uww_104) dX1_mappable_88 ?_
                refine lv_icmp_ne (tgt := 97) hx hb dX1_mappable_90 (by decide) (fun c12 => ?_) (fun c12 => ?_)
                · have h := h.1 c12
                  refine lv_iconst (v := (0 : Int32)) hx hb dX1_mappable_97 (by decide) ?_
                  exact J98 (0 : Int32) _ _ _ h hI (lv_sub hl [0] rfl)
                · have h := h.2 c12
                  exact J93  _ _ _ h hI (lv_sub hl [0] rfl)
          obtain ⟨K66, hK66, h⟩ := h
          have J66 : ∀  (H : Heap) (locs : List Loc) (ls : Array Slot), K66  → cpI dC dI a kA (cpA a sz) s M L H locs → lv_has ls 5 [(1, .int p1), (2, .int x1)] → W p l e rm_X1_mappable_10 s m (av_X1_mappable_10 a t p1).toArray below meth c H locs 0 0 (MQ below (qc_X1_mappable_10 dC dI a kA sz M L Z) (av_X1_mappable_10 a t p1).toArray s 0 0 (cpA a sz)) (F0 m 66 ls []) := by
            intro  H locs ls h hI hl
            have h := hK66  h
            refine lv_iconst (v := (0 : Int32)) hx hb dX1_mappable_66 (by decide) ?_
            exact J67 (0 : Int32) _ _ _ h hI (lv_sub hl [0, 1] rfl)
          refine lv_if_ne (tgt := 66) hx hb dX1_mappable_41 (by decide) (fun c13 => ?_) (fun c13 => ?_)
          · have h := h.1 c13
            exact J66  _ _ _ h hI (lv_sub hl [2, 0] rfl)
          · have h := h.2 c13
            refine lv_aload_n hx hb dX1_mappable_44 rfl (lv_at hl 1 rfl) ?_
            refine va_get (D := (dC, dI)) (ci := 1) (v := .long (L 10 1)) (C := RX1) (T := TX1) (N := 3) hx hb hu uX1 hown hK hI.1 10 rfl rfl 1 (by decide) (hu _ uww_98) (fun _ h9 => h9) rfl dX1_mappable_45 ?_
            refine lv_lconst (v := (0 : Int64)) hx hb dX1_mappable_48 (by decide) ?_
            refine W.lcmp hx hb dX1_mappable_49 ?_
            refine lv_if_ne (tgt := 66) hx hb dX1_mappable_50 (by decide) (fun c14 => ?_) (fun c14 => ?_)
            · have h := h.1 c14
              exact J66  _ _ _ h hI (lv_sub hl [2, 0] rfl)
            · have h := h.2 c14
              refine lv_aload_n hx hb dX1_mappable_53 rfl (lv_at hl 1 rfl) ?_
              refine va_get (D := (dC, dI)) (ci := 1) (v := .int (M 10 2)) (C := RX1) (T := TX1) (N := 3) hx hb hu uX1 hown hK hI.1 10 rfl rfl 2 (by decide) (hu _ uww_99) (fun _ h9 => h9) rfl dX1_mappable_54 ?_
              refine lv_bipush (v := (96 : Int32)) hx hb dX1_mappable_57 (by decide) ?_
              refine lv_icmp_ne (tgt := 66) hx hb dX1_mappable_59 (by decide) (fun c15 => ?_) (fun c15 => ?_)
              · have h := h.1 c15
                exact J66  _ _ _ h hI (lv_sub hl [2, 0] rfl)
              · have h := h.2 c15
                refine lv_iconst (v := (1 : Int32)) hx hb dX1_mappable_62 (by decide) ?_
                refine lv_goto (tgt := 67) hx hb dX1_mappable_63 (by decide) ?_
                exact J67 (1 : Int32) _ _ _ h hI (lv_sub hl [2, 0] rfl)
        · have h := h.2 c5
          refine lv_iconst (v := (0 : Int32)) hx hb dX1_mappable_31 (by decide) ?_
          exact cpzret (Z := (fun r M' L' => M' = M ∧ L' = L ∧ Z r)) hx hb hr hlocks hK hI dX1_mappable_32 ⟨isB_0, ⟨rfl, rfl, h⟩⟩

abbrev rm_X6_neverFromEither : Room := { frames := 0, cells := 0, slots := 0, locals := 0 }
abbrev av_X6_neverFromEither (a t : Nat → Nat) (p0 : Int32) : List Value := [.int p0]
abbrev qc_X6_neverFromEither (dC : Nat → ClassId) (dI : Nat → Nat → Nat) (a : Nat → Nat) (kA : Nat → ClassId) (sz : Nat) (M : cM) (L : cL) (Z : Int32 → Prop) : Array Value → State → Outcome → State → Prop := va_Qi (fun r (u : cM × cL) => u.1 = M ∧ u.2 = L ∧ Z r) (cpAt dC dI a kA (cpA a sz)) (cpA a sz)
set_option maxHeartbeats 4000000 in
set_option maxRecDepth 100000 in
theorem met_X6_neverFromEither (l : Launch) (dC : Nat → ClassId) (dI : Nat → Nat → Nat) (a : Nat → Nat) (kA : Nat → ClassId) (t : Nat → Nat) (sz : Nat) (M : cM) (L : cL) (p0 : Int32) (Z : Int32 → Prop) (h : wp_X6_neverFromEither M L p0 Z) : Met l yX6_neverFromEither (Cond.code yX6_neverFromEither cX6_neverFromEither 1 (some .boolean) :: uW) rm_X6_neverFromEither (va_Pc (av_X6_neverFromEither a t p0) (cpPre dC dI a kA t M L sz)) (qc_X6_neverFromEither dC dI a kA sz M L Z) 0 0 (cpA a sz) := by
  refine cpenter (cc := cX6_neverFromEither) (n := 1) (ret := (some .boolean)) (by decide) rfl (Nat.le_of_ble_eq_true rfl) ?_
  intro p e s m below meth c ls hx hb hml hr hlocks hown hts hK hE hsz hI hl hmn
  have hu : ∀ w ∈ uW, w.before (av_X6_neverFromEither a t p0).toArray s = true := fun w h => hts w (List.mem_cons_of_mem _ h)
  have hown : s.vm.findClass RX6 = some m.cls := hown
  have hl : lv_has ls 1 [(0, .int p0)] := hl
  unfold wp_X6_neverFromEither at h
  refine lv_iload_n hx hb dX6_neverFromEither_0 rfl (lv_at hl 0 rfl) ?_
  refine lv_if_eq (tgt := 33) hx hb dX6_neverFromEither_1 (by decide) (fun c1 => ?_) (fun c1 => ?_)
  · have h := h.1 c1
    refine lv_iconst (v := (1 : Int32)) hx hb dX6_neverFromEither_33 (by decide) ?_
    refine lv_goto (tgt := 38) hx hb dX6_neverFromEither_34 (by decide) ?_
    exact cpzret (Z := (fun r M' L' => M' = M ∧ L' = L ∧ Z r)) hx hb hr hlocks hK hI dX6_neverFromEither_38 ⟨isB_1, ⟨rfl, rfl, h⟩⟩
  · have h := h.2 c1
    refine lv_iload_n hx hb dX6_neverFromEither_4 rfl (lv_at hl 0 rfl) ?_
    refine lv_iconst (v := (2 : Int32)) hx hb dX6_neverFromEither_5 (by decide) ?_
    refine lv_icmp_eq (tgt := 33) hx hb dX6_neverFromEither_6 (by decide) (fun c2 => ?_) (fun c2 => ?_)
    · have h := h.1 c2
      refine lv_iconst (v := (1 : Int32)) hx hb dX6_neverFromEither_33 (by decide) ?_
      refine lv_goto (tgt := 38) hx hb dX6_neverFromEither_34 (by decide) ?_
      exact cpzret (Z := (fun r M' L' => M' = M ∧ L' = L ∧ Z r)) hx hb hr hlocks hK hI dX6_neverFromEither_38 ⟨isB_1, ⟨rfl, rfl, h⟩⟩
    · have h := h.2 c2
      refine lv_iload_n hx hb dX6_neverFromEither_9 rfl (lv_at hl 0 rfl) ?_
      refine lv_bipush (v := (43 : Int32)) hx hb dX6_neverFromEither_10 (by decide) ?_
      refine lv_icmp_eq (tgt := 33) hx hb dX6_neverFromEither_12 (by decide) (fun c3 => ?_) (fun c3 => ?_)
      · have h := h.1 c3
        refine lv_iconst (v := (1 : Int32)) hx hb dX6_neverFromEither_33 (by decide) ?_
        refine lv_goto (tgt := 38) hx hb dX6_neverFromEither_34 (by decide) ?_
        exact cpzret (Z := (fun r M' L' => M' = M ∧ L' = L ∧ Z r)) hx hb hr hlocks hK hI dX6_neverFromEither_38 ⟨isB_1, ⟨rfl, rfl, h⟩⟩
      · have h := h.2 c3
        refine lv_iload_n hx hb dX6_neverFromEither_15 rfl (lv_at hl 0 rfl) ?_
        refine lv_bipush (v := (44 : Int32)) hx hb dX6_neverFromEither_16 (by decide) ?_
        refine lv_icmp_eq (tgt := 33) hx hb dX6_neverFromEither_18 (by decide) (fun c4 => ?_) (fun c4 => ?_)
        · have h := h.1 c4
          refine lv_iconst (v := (1 : Int32)) hx hb dX6_neverFromEither_33 (by decide) ?_
          refine lv_goto (tgt := 38) hx hb dX6_neverFromEither_34 (by decide) ?_
          exact cpzret (Z := (fun r M' L' => M' = M ∧ L' = L ∧ Z r)) hx hb hr hlocks hK hI dX6_neverFromEither_38 ⟨isB_1, ⟨rfl, rfl, h⟩⟩
        · have h := h.2 c4
          refine lv_iload_n hx hb dX6_neverFromEither_21 rfl (lv_at hl 0 rfl) ?_
          refine lv_bipush (v := (59 : Int32)) hx hb dX6_neverFromEither_22 (by decide) ?_
          refine lv_icmp_eq (tgt := 33) hx hb dX6_neverFromEither_24 (by decide) (fun c5 => ?_) (fun c5 => ?_)
          · have h := h.1 c5
            refine lv_iconst (v := (1 : Int32)) hx hb dX6_neverFromEither_33 (by decide) ?_
            refine lv_goto (tgt := 38) hx hb dX6_neverFromEither_34 (by decide) ?_
            exact cpzret (Z := (fun r M' L' => M' = M ∧ L' = L ∧ Z r)) hx hb hr hlocks hK hI dX6_neverFromEither_38 ⟨isB_1, ⟨rfl, rfl, h⟩⟩
          · have h := h.2 c5
            refine lv_iload_n hx hb dX6_neverFromEither_27 rfl (lv_at hl 0 rfl) ?_
            refine lv_bipush (v := (60 : Int32)) hx hb dX6_neverFromEither_28 (by decide) ?_
            refine lv_icmp_ne (tgt := 37) hx hb dX6_neverFromEither_30 (by decide) (fun c6 => ?_) (fun c6 => ?_)
            · have h := h.1 c6
              refine lv_iconst (v := (0 : Int32)) hx hb dX6_neverFromEither_37 (by decide) ?_
              exact cpzret (Z := (fun r M' L' => M' = M ∧ L' = L ∧ Z r)) hx hb hr hlocks hK hI dX6_neverFromEither_38 ⟨isB_0, ⟨rfl, rfl, h⟩⟩
            · have h := h.2 c6
              refine lv_iconst (v := (1 : Int32)) hx hb dX6_neverFromEither_33 (by decide) ?_
              refine lv_goto (tgt := 38) hx hb dX6_neverFromEither_34 (by decide) ?_
              exact cpzret (Z := (fun r M' L' => M' = M ∧ L' = L ∧ Z r)) hx hb hr hlocks hK hI dX6_neverFromEither_38 ⟨isB_1, ⟨rfl, rfl, h⟩⟩

abbrev rm_X6_neverFromFour : Room := { frames := 1, cells := 0, slots := 0, locals := 20 }
abbrev av_X6_neverFromFour (a t : Nat → Nat) (p0 : Int32) : List Value := [.int p0]
abbrev qc_X6_neverFromFour (dC : Nat → ClassId) (dI : Nat → Nat → Nat) (a : Nat → Nat) (kA : Nat → ClassId) (sz : Nat) (M : cM) (L : cL) (Z : Int32 → Prop) : Array Value → State → Outcome → State → Prop := va_Qi (fun r (u : cM × cL) => u.1 = M ∧ u.2 = L ∧ Z r) (cpAt dC dI a kA (cpA a sz)) (cpA a sz)
set_option maxHeartbeats 4000000 in
set_option maxRecDepth 100000 in
theorem met_X6_neverFromFour (l : Launch) (dC : Nat → ClassId) (dI : Nat → Nat → Nat) (a : Nat → Nat) (kA : Nat → ClassId) (t : Nat → Nat) (sz : Nat) (M : cM) (L : cL) (p0 : Int32) (Z : Int32 → Prop) (h : wp_X6_neverFromFour M L p0 Z) : Met l yX6_neverFromFour (Cond.code yX6_neverFromFour cX6_neverFromFour 1 (some .boolean) :: uW) rm_X6_neverFromFour (va_Pc (av_X6_neverFromFour a t p0) (cpPre dC dI a kA t M L sz)) (qc_X6_neverFromFour dC dI a kA sz M L Z) 0 0 (cpA a sz) := by
  refine cpenter (cc := cX6_neverFromFour) (n := 1) (ret := (some .boolean)) (by decide) rfl (Nat.le_of_ble_eq_true rfl) ?_
  intro p e s m below meth c ls hx hb hml hr hlocks hown hts hK hE hsz hI hl hmn
  have hu : ∀ w ∈ uW, w.before (av_X6_neverFromFour a t p0).toArray s = true := fun w h => hts w (List.mem_cons_of_mem _ h)
  have hown : s.vm.findClass RX6 = some m.cls := hown
  have hl : lv_has ls 1 [(0, .int p0)] := hl
  unfold wp_X6_neverFromFour at h
  refine lv_iload_n hx hb dX6_neverFromFour_0 rfl (lv_at hl 0 rfl) ?_
  refine cpcalli_p hsz hI (va_runS (As := [.int p0]) (rest := []) ⟨hx, hb, hml, hown, hu⟩ (met_X6_neverFromEither l dC dI a kA t _ M L p0 _ h) (cwl_X6_260_S hu ⟨by decide, by decide⟩) (cppreS hK hE hsz hI) rfl rfl hl.1 rfl (lv_room (Nat.le_of_ble_eq_true rfl)) dX6_neverFromFour_1 ⟨by decide, by decide⟩) (fun r1 H locs h hI => ?_)
  refine lv_if_ne (tgt := 13) hx hb dX6_neverFromFour_4 (by decide) (fun c2 => ?_) (fun c2 => ?_)
  · have h := h.1 c2
    refine lv_iconst (v := (1 : Int32)) hx hb dX6_neverFromFour_13 (by decide) ?_
    refine lv_goto (tgt := 18) hx hb dX6_neverFromFour_14 (by decide) ?_
    exact cpzret (Z := (fun r M' L' => M' = M ∧ L' = L ∧ Z r)) hx hb hr hlocks hK hI dX6_neverFromFour_18 ⟨isB_1, ⟨rfl, rfl, h⟩⟩
  · have h := h.2 c2
    refine lv_iload_n hx hb dX6_neverFromFour_7 rfl (lv_at hl 0 rfl) ?_
    refine lv_bipush (v := (58 : Int32)) hx hb dX6_neverFromFour_8 (by decide) ?_
    refine lv_icmp_ne (tgt := 17) hx hb dX6_neverFromFour_10 (by decide) (fun c3 => ?_) (fun c3 => ?_)
    · have h := h.1 c3
      refine lv_iconst (v := (0 : Int32)) hx hb dX6_neverFromFour_17 (by decide) ?_
      exact cpzret (Z := (fun r M' L' => M' = M ∧ L' = L ∧ Z r)) hx hb hr hlocks hK hI dX6_neverFromFour_18 ⟨isB_0, ⟨rfl, rfl, h⟩⟩
    · have h := h.2 c3
      refine lv_iconst (v := (1 : Int32)) hx hb dX6_neverFromFour_13 (by decide) ?_
      refine lv_goto (tgt := 18) hx hb dX6_neverFromFour_14 (by decide) ?_
      exact cpzret (Z := (fun r M' L' => M' = M ∧ L' = L ∧ Z r)) hx hb hr hlocks hK hI dX6_neverFromFour_18 ⟨isB_1, ⟨rfl, rfl, h⟩⟩

abbrev rm_X6_faultOfTransport_0_11 : Room := { frames := 1, cells := 0, slots := 0, locals := 21 }
abbrev av_X6_faultOfTransport_0_11 (a t : Nat → Nat) (p2 : Int32) : List Value := [.ref (a 0), .ref (a 11), .int p2]
abbrev qc_X6_faultOfTransport_0_11 (dC : Nat → ClassId) (dI : Nat → Nat → Nat) (a : Nat → Nat) (kA : Nat → ClassId) (sz : Nat) (M : cM) (L : cL) (Z : Int32 → Prop) : Array Value → State → Outcome → State → Prop := va_Qi (fun r (u : cM × cL) => u.1 = M ∧ u.2 = L ∧ Z r) (cpAt dC dI a kA (cpA a sz)) (cpA a sz)
set_option maxHeartbeats 4000000 in
set_option maxRecDepth 100000 in
theorem met_X6_faultOfTransport_0_11 (l : Launch) (dC : Nat → ClassId) (dI : Nat → Nat → Nat) (a : Nat → Nat) (kA : Nat → ClassId) (t : Nat → Nat) (sz : Nat) (M : cM) (L : cL) (p2 : Int32) (Z : Int32 → Prop) (h : wp_X6_faultOfTransport_0_11 M L p2 Z) : Met l yX6_faultOfTransport (Cond.code yX6_faultOfTransport cX6_faultOfTransport 5 (some .int) :: uW) rm_X6_faultOfTransport_0_11 (va_Pc (av_X6_faultOfTransport_0_11 a t p2) (cpPre dC dI a kA t M L sz)) (qc_X6_faultOfTransport_0_11 dC dI a kA sz M L Z) 0 0 (cpA a sz) := by
  refine cpenter (cc := cX6_faultOfTransport) (n := 5) (ret := (some .int)) (by decide) rfl (Nat.le_of_ble_eq_true rfl) ?_
  intro p e s m below meth c ls hx hb hml hr hlocks hown hts hK hE hsz hI hl hmn
  have hu : ∀ w ∈ uW, w.before (av_X6_faultOfTransport_0_11 a t p2).toArray s = true := fun w h => hts w (List.mem_cons_of_mem _ h)
  have hown : s.vm.findClass RX6 = some m.cls := hown
  have hl : lv_has ls 5 [(0, .ref (a 0)), (1, .ref (a 11)), (2, .int p2)] := hl
  unfold wp_X6_faultOfTransport_0_11 at h
  refine lv_aload_n hx hb dX6_faultOfTransport_0 rfl (lv_at hl 1 rfl) ?_
  refine va_get (D := (dC, dI)) (ci := 0) (v := .int (M 11 3)) (C := RX0) (T := TX0) (N := 18) hx hb hu uX0 hown hK hI.1 11 rfl rfl 3 (by decide) (hu _ uww_321) (fun _ h9 => h9) rfl dX6_faultOfTransport_1 ?_
  refine lv_bipush (v := (17 : Int32)) hx hb dX6_faultOfTransport_4 (by decide) ?_
  obtain ⟨K14, hK14, h⟩ := h
  have J14 : ∀ (v1 : Int32) (H : Heap) (locs : List Loc) (ls : Array Slot), K14 v1 → cpI dC dI a kA (cpA a sz) s M L H locs → lv_has ls 5 [(0, .ref (a 0)), (1, .ref (a 11)), (2, .int p2)] → W p l e rm_X6_faultOfTransport_0_11 s m (av_X6_faultOfTransport_0_11 a t p2).toArray below meth c H locs 0 0 (MQ below (qc_X6_faultOfTransport_0_11 dC dI a kA sz M L Z) (av_X6_faultOfTransport_0_11 a t p2).toArray s 0 0 (cpA a sz)) (F0 m 14 ls [.int v1]) := by
    intro v1 H locs ls h hI hl
    have h := hK14 v1 h
    refine lv_istore_n (lv' := [(3, .int v1), (0, .ref (a 0)), (1, .ref (a 11)), (2, .int p2)]) hx hb dX6_faultOfTransport_14 rfl hl (by decide) rfl (fun ls hl => ?_)
    refine lv_aload_n hx hb dX6_faultOfTransport_15 rfl (lv_at hl 2 rfl) ?_
    refine va_get (D := (dC, dI)) (ci := 0) (v := .int (M 11 3)) (C := RX0) (T := TX0) (N := 18) hx hb hu uX0 hown hK hI.1 11 rfl rfl 3 (by decide) (hu _ uww_321) (fun _ h9 => h9) rfl dX6_faultOfTransport_16 ?_
    refine lv_iconst (v := (1 : Int32)) hx hb dX6_faultOfTransport_19 (by decide) ?_
    obtain ⟨K37, hK37, h⟩ := h
    have J37 : ∀ (v2 : Int32) (H : Heap) (locs : List Loc) (ls : Array Slot), K37 v2 → cpI dC dI a kA (cpA a sz) s M L H locs → lv_has ls 5 [(0, .ref (a 0)), (1, .ref (a 11)), (2, .int p2), (3, .int v1)] → W p l e rm_X6_faultOfTransport_0_11 s m (av_X6_faultOfTransport_0_11 a t p2).toArray below meth c H locs 0 0 (MQ below (qc_X6_faultOfTransport_0_11 dC dI a kA sz M L Z) (av_X6_faultOfTransport_0_11 a t p2).toArray s 0 0 (cpA a sz)) (F0 m 37 ls [.int v2]) := by
      intro v2 H locs ls h hI hl
      have h := hK37 v2 h
      refine lv_istore (lv' := [(4, .int v2), (0, .ref (a 0)), (1, .ref (a 11)), (2, .int p2), (3, .int v1)]) hx hb dX6_faultOfTransport_37 hl (by decide) rfl (fun ls hl => ?_)
      refine lv_aload_n hx hb dX6_faultOfTransport_39 rfl (lv_at hl 2 rfl) ?_
      refine va_get (D := (dC, dI)) (ci := 0) (v := .int (M 11 6)) (C := RX0) (T := TX0) (N := 18) hx hb hu uX0 hown hK hI.1 11 rfl rfl 6 (by decide) (hu _ uww_322) (fun _ h9 => h9) rfl dX6_faultOfTransport_40 ?_
      refine lv_if_ne (tgt := 64) hx hb dX6_faultOfTransport_43 (by decide) (fun c3 => ?_) (fun c3 => ?_)
      · have h := h.1 c3
        refine lv_iconst (v := (0 : Int32)) hx hb dX6_faultOfTransport_64 (by decide) ?_
        exact cpiret (Z := (fun r M' L' => M' = M ∧ L' = L ∧ Z r)) hx hb hr hlocks hK hI dX6_faultOfTransport_65 ⟨rfl, rfl, h⟩
      · have h := h.2 c3
        refine lv_iload_n hx hb dX6_faultOfTransport_46 rfl (lv_at hl 4 rfl) ?_
        obtain ⟨K66, hK66, h⟩ := h
        have J66 : ∀  (H : Heap) (locs : List Loc) (ls : Array Slot), K66  → cpI dC dI a kA (cpA a sz) s M L H locs → lv_has ls 5 [(0, .ref (a 0)), (1, .ref (a 11)), (2, .int p2), (3, .int v1)] → W p l e rm_X6_faultOfTransport_0_11 s m (av_X6_faultOfTransport_0_11 a t p2).toArray below meth c H locs 0 0 (MQ below (qc_X6_faultOfTransport_0_11 dC dI a kA sz M L Z) (av_X6_faultOfTransport_0_11 a t p2).toArray s 0 0 (cpA a sz)) (F0 m 66 ls []) := by
          intro  H locs ls h hI hl
          have h := hK66  h
          refine lv_aload_n hx hb dX6_faultOfTransport_66 rfl (lv_at hl 1 rfl) ?_
          refine va_get (D := (dC, dI)) (ci := 0) (v := .int (M 11 8)) (C := RX0) (T := TX0) (N := 18) hx hb hu uX0 hown hK hI.1 11 rfl rfl 8 (by decide) (hu _ uww_323) (fun _ h9 => h9) rfl dX6_faultOfTransport_67 ?_
          refine lv_aload_n hx hb dX6_faultOfTransport_70 rfl (lv_at hl 1 rfl) ?_
          refine va_get (D := (dC, dI)) (ci := 0) (v := .int (M 11 3)) (C := RX0) (T := TX0) (N := 18) hx hb hu uX0 hown hK hI.1 11 rfl rfl 3 (by decide) (hu _ uww_321) (fun _ h9 => h9) rfl dX6_faultOfTransport_71 ?_
          refine lv_bipush (v := (6 : Int32)) hx hb dX6_faultOfTransport_74 (by decide) ?_
          obtain ⟨K86, hK86, h⟩ := h
          have J86 : ∀ (v4 : Int32) (H : Heap) (locs : List Loc) (ls : Array Slot), K86 v4 → cpI dC dI a kA (cpA a sz) s M L H locs → lv_has ls 5 [(0, .ref (a 0)), (1, .ref (a 11)), (2, .int p2), (3, .int v1)] → W p l e rm_X6_faultOfTransport_0_11 s m (av_X6_faultOfTransport_0_11 a t p2).toArray below meth c H locs 0 0 (MQ below (qc_X6_faultOfTransport_0_11 dC dI a kA sz M L Z) (av_X6_faultOfTransport_0_11 a t p2).toArray s 0 0 (cpA a sz)) (F0 m 86 ls [.int v4, .int (M 11 8)]) := by
            intro v4 H locs ls h hI hl
            have h := hK86 v4 h
            refine lv_icmp_ge (tgt := 91) hx hb dX6_faultOfTransport_86 (by decide) (fun c5 => ?_) (fun c5 => ?_)
            · have h := h.1 c5
              refine lv_iload_n hx hb dX6_faultOfTransport_91 rfl (lv_at hl 3 rfl) ?_
              obtain ⟨K124, hK124, h⟩ := h
              have J124 : ∀  (H : Heap) (locs : List Loc) (ls : Array Slot), K124  → cpI dC dI a kA (cpA a sz) s M L H locs → lv_has ls 5 [(0, .ref (a 0)), (1, .ref (a 11)), (2, .int p2), (3, .int v1)] → W p l e rm_X6_faultOfTransport_0_11 s m (av_X6_faultOfTransport_0_11 a t p2).toArray below meth c H locs 0 0 (MQ below (qc_X6_faultOfTransport_0_11 dC dI a kA sz M L Z) (av_X6_faultOfTransport_0_11 a t p2).toArray s 0 0 (cpA a sz)) (F0 m 124 ls []) := by
                intro  H locs ls h hI hl
                have h := hK124  h
                refine lv_iload_n hx hb dX6_faultOfTransport_124 rfl (lv_at hl 3 rfl) ?_
                refine lv_if_eq (tgt := 154) hx hb dX6_faultOfTransport_125 (by decide) (fun c6 => ?_) (fun c6 => ?_)
                · have h := h.1 c6
                  refine lv_iconst (v := (0 : Int32)) hx hb dX6_faultOfTransport_154 (by decide) ?_
                  exact cpiret (Z := (fun r M' L' => M' = M ∧ L' = L ∧ Z r)) hx hb hr hlocks hK hI dX6_faultOfTransport_155 ⟨rfl, rfl, h⟩
                · have h := h.2 c6
                  refine lv_iload_n hx hb dX6_faultOfTransport_128 rfl (lv_at hl 2 rfl) ?_
                  refine lv_if_ne (tgt := 154) hx hb dX6_faultOfTransport_129 (by decide) (fun c7 => ?_) (fun c7 => ?_)
                  · have h := h.1 c7
                    refine lv_iconst (v := (0 : Int32)) hx hb dX6_faultOfTransport_154 (by decide) ?_
                    exact cpiret (Z := (fun r M' L' => M' = M ∧ L' = L ∧ Z r)) hx hb hr hlocks hK hI dX6_faultOfTransport_155 ⟨rfl, rfl, h⟩
                  · have h := h.2 c7
                    refine lv_aload_n hx hb dX6_faultOfTransport_132 rfl (lv_at hl 0 rfl) ?_
                    refine va_get (D := (dC, dI)) (ci := 5) (v := .ref (a 1)) (C := RX6) (T := TX6) (N := 17) hx hb hu uX6 hown hK hI.1 0 rfl rfl 0 (by decide) (hu _ uww_213) (fun _ h9 => h9) rfl dX6_faultOfTransport_133 ?_
                    refine lv_aload_n hx hb dX6_faultOfTransport_136 rfl (lv_at hl 1 rfl) ?_
                    refine va_get (D := (dC, dI)) (ci := 0) (v := .int (M 11 7)) (C := RX0) (T := TX0) (N := 18) hx hb hu uX0 hown hK hI.1 11 rfl rfl 7 (by decide) (hu _ uww_325) (fun _ h9 => h9) rfl dX6_faultOfTransport_137 ?_
                    refine lv_bipush (v := (6 : Int32)) hx hb dX6_faultOfTransport_140 (by decide) ?_
                    refine lv_iadd hx hb dX6_faultOfTransport_142 ?_
                    refine cpcalli_p hsz hI (va_runV (As := [.int ((M 11 7) + (6 : Int32))]) (rest := []) ⟨hx, hb, hml, hown, hu⟩ (met_X4_word_1 l dC dI a kA t _ M L ((M 11 7) + (6 : Int32)) _ h) (cwl_X6_272_X4 hu ⟨by decide, by decide⟩) (cppre (ci := 3) hK hE hsz hI rfl rfl) rfl rfl hl.1 rfl (lv_room (Nat.le_of_ble_eq_true rfl)) dX6_faultOfTransport_143 ⟨by decide, by decide⟩) (fun r8 H locs h hI => ?_)
                    refine lv_if_ne (tgt := 154) hx hb dX6_faultOfTransport_146 (by decide) (fun c9 => ?_) (fun c9 => ?_)
                    · have h := h.1 c9
                      refine lv_iconst (v := (0 : Int32)) hx hb dX6_faultOfTransport_154 (by decide) ?_
                      exact cpiret (Z := (fun r M' L' => M' = M ∧ L' = L ∧ Z r)) hx hb hr hlocks hK hI dX6_faultOfTransport_155 ⟨rfl, rfl, h⟩
                    · have h := h.2 c9
                      refine lv_bipush (v := (7 : Int32)) hx hb dX6_faultOfTransport_149 (by decide) ?_
                      refine lv_goto (tgt := 155) hx hb dX6_faultOfTransport_151 (by decide) ?_
                      exact cpiret (Z := (fun r M' L' => M' = M ∧ L' = L ∧ Z r)) hx hb hr hlocks hK hI dX6_faultOfTransport_155 ⟨rfl, rfl, h⟩
              refine lv_if_eq (tgt := 124) hx hb dX6_faultOfTransport_92 (by decide) (fun c10 => ?_) (fun c10 => ?_)
              · have h := h.1 c10
                exact J124  _ _ _ h hI (lv_sub hl [0, 1, 2, 3] rfl)
              · have h := h.2 c10
                refine lv_aload_n hx hb dX6_faultOfTransport_95 rfl (lv_at hl 1 rfl) ?_
                refine va_get (D := (dC, dI)) (ci := 0) (v := .int (M 11 5)) (C := RX0) (T := TX0) (N := 18) hx hb hu uX0 hown hK hI.1 11 rfl rfl 5 (by decide) (hu _ uww_324) (fun _ h9 => h9) rfl dX6_faultOfTransport_96 ?_
                refine lv_if_ne (tgt := 124) hx hb dX6_faultOfTransport_99 (by decide) (fun c11 => ?_) (fun c11 => ?_)
                · have h := h.1 c11
                  exact J124  _ _ _ h hI (lv_sub hl [0, 1, 2, 3] rfl)
                · have h := h.2 c11
                  refine lv_aload_n hx hb dX6_faultOfTransport_102 rfl (lv_at hl 0 rfl) ?_
                  refine va_get (D := (dC, dI)) (ci := 5) (v := .ref (a 1)) (C := RX6) (T := TX6) (N := 17) hx hb hu uX6 hown hK hI.1 0 rfl rfl 0 (by decide) (hu _ uww_213) (fun _ h9 => h9) rfl dX6_faultOfTransport_103 ?_
                  refine lv_aload_n hx hb dX6_faultOfTransport_106 rfl (lv_at hl 1 rfl) ?_
                  refine va_get (D := (dC, dI)) (ci := 0) (v := .int (M 11 7)) (C := RX0) (T := TX0) (N := 18) hx hb hu uX0 hown hK hI.1 11 rfl rfl 7 (by decide) (hu _ uww_325) (fun _ h9 => h9) rfl dX6_faultOfTransport_107 ?_
                  refine lv_iconst (v := (4 : Int32)) hx hb dX6_faultOfTransport_110 (by decide) ?_
                  refine lv_iadd hx hb dX6_faultOfTransport_111 ?_
                  refine cpcalli_p hsz hI (va_runV (As := [.int ((M 11 7) + (4 : Int32))]) (rest := []) ⟨hx, hb, hml, hown, hu⟩ (met_X4_word_1 l dC dI a kA t _ M L ((M 11 7) + (4 : Int32)) _ h) (cwl_X6_272_X4 hu ⟨by decide, by decide⟩) (cppre (ci := 3) hK hE hsz hI rfl rfl) rfl rfl hl.1 rfl (lv_room (Nat.le_of_ble_eq_true rfl)) dX6_faultOfTransport_112 ⟨by decide, by decide⟩) (fun r12 H locs h hI => ?_)
                  refine lv_aload_n hx hb dX6_faultOfTransport_115 rfl (lv_at hl 1 rfl) ?_
                  refine va_get (D := (dC, dI)) (ci := 0) (v := .int (M 11 8)) (C := RX0) (T := TX0) (N := 18) hx hb hu uX0 hown hK hI.1 11 rfl rfl 8 (by decide) (hu _ uww_323) (fun _ h9 => h9) rfl dX6_faultOfTransport_116 ?_
                  refine lv_icmp_eq (tgt := 124) hx hb dX6_faultOfTransport_119 (by decide) (fun c13 => ?_) (fun c13 => ?_)
                  · have h := h.1 c13
                    exact J124  _ _ _ h hI (lv_sub hl [0, 1, 2, 3] rfl)
                  · have h := h.2 c13
                    refine lv_iconst (v := (4 : Int32)) hx hb dX6_faultOfTransport_122 (by decide) ?_
                    exact cpiret (Z := (fun r M' L' => M' = M ∧ L' = L ∧ Z r)) hx hb hr hlocks hK hI dX6_faultOfTransport_123 ⟨rfl, rfl, h⟩
            · have h := h.2 c5
              refine lv_iconst (v := (4 : Int32)) hx hb dX6_faultOfTransport_89 (by decide) ?_
              exact cpiret (Z := (fun r M' L' => M' = M ∧ L' = L ∧ Z r)) hx hb hr hlocks hK hI dX6_faultOfTransport_90 ⟨rfl, rfl, h⟩
          refine lv_icmp_ne (tgt := 84) hx hb dX6_faultOfTransport_76 (by decide) (fun c14 => ?_) (fun c14 => ?_)
          · have h := h.1 c14
            refine lv_bipush (v := (8 : Int32)) hx hb dX6_faultOfTransport_84 (by decide) ?_
            exact J86 (8 : Int32) _ _ _ h hI (lv_sub hl [0, 1, 2, 3] rfl)
          · have h := h.2 c14
            refine lv_bipush (v := (20 : Int32)) hx hb dX6_faultOfTransport_79 (by decide) ?_
            refine lv_goto (tgt := 86) hx hb dX6_faultOfTransport_81 (by decide) ?_
            exact J86 (20 : Int32) _ _ _ h hI (lv_sub hl [0, 1, 2, 3] rfl)
        refine lv_if_ne (tgt := 66) hx hb dX6_faultOfTransport_47 (by decide) (fun c15 => ?_) (fun c15 => ?_)
        · have h := h.1 c15
          exact J66  _ _ _ h hI (lv_sub hl [1, 2, 3, 4] rfl)
        · have h := h.2 c15
          refine lv_iload hx hb dX6_faultOfTransport_50 (lv_at hl 0 rfl) ?_
          refine lv_if_ne (tgt := 66) hx hb dX6_faultOfTransport_52 (by decide) (fun c16 => ?_) (fun c16 => ?_)
          · have h := h.1 c16
            exact J66  _ _ _ h hI (lv_sub hl [1, 2, 3, 4] rfl)
          · have h := h.2 c16
            refine lv_aload_n hx hb dX6_faultOfTransport_55 rfl (lv_at hl 2 rfl) ?_
            refine va_get (D := (dC, dI)) (ci := 0) (v := .int (M 11 3)) (C := RX0) (T := TX0) (N := 18) hx hb hu uX0 hown hK hI.1 11 rfl rfl 3 (by decide) (hu _ uww_321) (fun _ h9 => h9) rfl dX6_faultOfTransport_56 ?_
            refine lv_bipush (v := (6 : Int32)) hx hb dX6_faultOfTransport_59 (by decide) ?_
            refine lv_icmp_eq (tgt := 66) hx hb dX6_faultOfTransport_61 (by decide) (fun c17 => ?_) (fun c17 => ?_)
            · have h := h.1 c17
              exact J66  _ _ _ h hI (lv_sub hl [1, 2, 3, 4] rfl)
            · have h := h.2 c17
              refine lv_iconst (v := (0 : Int32)) hx hb dX6_faultOfTransport_64 (by decide) ?_
              exact cpiret (Z := (fun r M' L' => M' = M ∧ L' = L ∧ Z r)) hx hb hr hlocks hK hI dX6_faultOfTransport_65 ⟨rfl, rfl, h⟩
    obtain ⟨K32, hK32, h⟩ := h
    have J32 : ∀  (H : Heap) (locs : List Loc) (ls : Array Slot), K32  → cpI dC dI a kA (cpA a sz) s M L H locs → lv_has ls 5 [(0, .ref (a 0)), (1, .ref (a 11)), (2, .int p2), (3, .int v1)] → W p l e rm_X6_faultOfTransport_0_11 s m (av_X6_faultOfTransport_0_11 a t p2).toArray below meth c H locs 0 0 (MQ below (qc_X6_faultOfTransport_0_11 dC dI a kA sz M L Z) (av_X6_faultOfTransport_0_11 a t p2).toArray s 0 0 (cpA a sz)) (F0 m 32 ls []) := by
      intro  H locs ls h hI hl
      have h := hK32  h
      refine lv_iconst (v := (1 : Int32)) hx hb dX6_faultOfTransport_32 (by decide) ?_
      refine lv_goto (tgt := 37) hx hb dX6_faultOfTransport_33 (by decide) ?_
      exact J37 (1 : Int32) _ _ _ h hI (lv_sub hl [0, 1, 2, 3] rfl)
    refine lv_icmp_eq (tgt := 32) hx hb dX6_faultOfTransport_20 (by decide) (fun c18 => ?_) (fun c18 => ?_)
    · have h := h.1 c18
      exact J32  _ _ _ h hI (lv_sub hl [1, 2, 3, 0] rfl)
    · have h := h.2 c18
      refine lv_aload_n hx hb dX6_faultOfTransport_23 rfl (lv_at hl 2 rfl) ?_
      refine va_get (D := (dC, dI)) (ci := 0) (v := .int (M 11 3)) (C := RX0) (T := TX0) (N := 18) hx hb hu uX0 hown hK hI.1 11 rfl rfl 3 (by decide) (hu _ uww_321) (fun _ h9 => h9) rfl dX6_faultOfTransport_24 ?_
      refine lv_bipush (v := (58 : Int32)) hx hb dX6_faultOfTransport_27 (by decide) ?_
      refine lv_icmp_ne (tgt := 36) hx hb dX6_faultOfTransport_29 (by decide) (fun c19 => ?_) (fun c19 => ?_)
      · have h := h.1 c19
        refine lv_iconst (v := (0 : Int32)) hx hb dX6_faultOfTransport_36 (by decide) ?_
        exact J37 (0 : Int32) _ _ _ h hI (lv_sub hl [1, 2, 3, 0] rfl)
      · have h := h.2 c19
        exact J32  _ _ _ h hI (lv_sub hl [1, 2, 3, 0] rfl)
  refine lv_icmp_ne (tgt := 13) hx hb dX6_faultOfTransport_6 (by decide) (fun c20 => ?_) (fun c20 => ?_)
  · have h := h.1 c20
    refine lv_iconst (v := (0 : Int32)) hx hb dX6_faultOfTransport_13 (by decide) ?_
    exact J14 (0 : Int32) _ _ _ h hI (lv_sub hl [0, 1, 2] rfl)
  · have h := h.2 c20
    refine lv_iconst (v := (1 : Int32)) hx hb dX6_faultOfTransport_9 (by decide) ?_
    refine lv_goto (tgt := 14) hx hb dX6_faultOfTransport_10 (by decide) ?_
    exact J14 (1 : Int32) _ _ _ h hI (lv_sub hl [0, 1, 2] rfl)

abbrev rm_X6_isEchoFour : Room := { frames := 0, cells := 0, slots := 0, locals := 0 }
abbrev av_X6_isEchoFour (a t : Nat → Nat) (p0 : Int32) : List Value := [.int p0]
abbrev qc_X6_isEchoFour (dC : Nat → ClassId) (dI : Nat → Nat → Nat) (a : Nat → Nat) (kA : Nat → ClassId) (sz : Nat) (M : cM) (L : cL) (Z : Int32 → Prop) : Array Value → State → Outcome → State → Prop := va_Qi (fun r (u : cM × cL) => u.1 = M ∧ u.2 = L ∧ Z r) (cpAt dC dI a kA (cpA a sz)) (cpA a sz)
set_option maxHeartbeats 4000000 in
set_option maxRecDepth 100000 in
theorem met_X6_isEchoFour (l : Launch) (dC : Nat → ClassId) (dI : Nat → Nat → Nat) (a : Nat → Nat) (kA : Nat → ClassId) (t : Nat → Nat) (sz : Nat) (M : cM) (L : cL) (p0 : Int32) (Z : Int32 → Prop) (h : wp_X6_isEchoFour M L p0 Z) : Met l yX6_isEchoFour (Cond.code yX6_isEchoFour cX6_isEchoFour 1 (some .boolean) :: uW) rm_X6_isEchoFour (va_Pc (av_X6_isEchoFour a t p0) (cpPre dC dI a kA t M L sz)) (qc_X6_isEchoFour dC dI a kA sz M L Z) 0 0 (cpA a sz) := by
  refine cpenter (cc := cX6_isEchoFour) (n := 1) (ret := (some .boolean)) (by decide) rfl (Nat.le_of_ble_eq_true rfl) ?_
  intro p e s m below meth c ls hx hb hml hr hlocks hown hts hK hE hsz hI hl hmn
  have hu : ∀ w ∈ uW, w.before (av_X6_isEchoFour a t p0).toArray s = true := fun w h => hts w (List.mem_cons_of_mem _ h)
  have hown : s.vm.findClass RX6 = some m.cls := hown
  have hl : lv_has ls 1 [(0, .int p0)] := hl
  unfold wp_X6_isEchoFour at h
  refine lv_iload_n hx hb dX6_isEchoFour_0 rfl (lv_at hl 0 rfl) ?_
  refine lv_bipush (v := (8 : Int32)) hx hb dX6_isEchoFour_1 (by decide) ?_
  refine lv_icmp_eq (tgt := 10) hx hb dX6_isEchoFour_3 (by decide) (fun c1 => ?_) (fun c1 => ?_)
  · have h := h.1 c1
    refine lv_iconst (v := (1 : Int32)) hx hb dX6_isEchoFour_10 (by decide) ?_
    refine lv_goto (tgt := 15) hx hb dX6_isEchoFour_11 (by decide) ?_
    exact cpzret (Z := (fun r M' L' => M' = M ∧ L' = L ∧ Z r)) hx hb hr hlocks hK hI dX6_isEchoFour_15 ⟨isB_1, ⟨rfl, rfl, h⟩⟩
  · have h := h.2 c1
    refine lv_iload_n hx hb dX6_isEchoFour_6 rfl (lv_at hl 0 rfl) ?_
    refine lv_if_ne (tgt := 14) hx hb dX6_isEchoFour_7 (by decide) (fun c2 => ?_) (fun c2 => ?_)
    · have h := h.1 c2
      refine lv_iconst (v := (0 : Int32)) hx hb dX6_isEchoFour_14 (by decide) ?_
      exact cpzret (Z := (fun r M' L' => M' = M ∧ L' = L ∧ Z r)) hx hb hr hlocks hK hI dX6_isEchoFour_15 ⟨isB_0, ⟨rfl, rfl, h⟩⟩
    · have h := h.2 c2
      refine lv_iconst (v := (1 : Int32)) hx hb dX6_isEchoFour_10 (by decide) ?_
      refine lv_goto (tgt := 15) hx hb dX6_isEchoFour_11 (by decide) ?_
      exact cpzret (Z := (fun r M' L' => M' = M ∧ L' = L ∧ Z r)) hx hb hr hlocks hK hI dX6_isEchoFour_15 ⟨isB_1, ⟨rfl, rfl, h⟩⟩

abbrev rm_X6_isErrorFour : Room := { frames := 0, cells := 0, slots := 0, locals := 0 }
abbrev av_X6_isErrorFour (a t : Nat → Nat) (p0 : Int32) : List Value := [.int p0]
abbrev qc_X6_isErrorFour (dC : Nat → ClassId) (dI : Nat → Nat → Nat) (a : Nat → Nat) (kA : Nat → ClassId) (sz : Nat) (M : cM) (L : cL) (Z : Int32 → Prop) : Array Value → State → Outcome → State → Prop := va_Qi (fun r (u : cM × cL) => u.1 = M ∧ u.2 = L ∧ Z r) (cpAt dC dI a kA (cpA a sz)) (cpA a sz)
set_option maxHeartbeats 4000000 in
set_option maxRecDepth 100000 in
theorem met_X6_isErrorFour (l : Launch) (dC : Nat → ClassId) (dI : Nat → Nat → Nat) (a : Nat → Nat) (kA : Nat → ClassId) (t : Nat → Nat) (sz : Nat) (M : cM) (L : cL) (p0 : Int32) (Z : Int32 → Prop) (h : wp_X6_isErrorFour M L p0 Z) : Met l yX6_isErrorFour (Cond.code yX6_isErrorFour cX6_isErrorFour 1 (some .boolean) :: uW) rm_X6_isErrorFour (va_Pc (av_X6_isErrorFour a t p0) (cpPre dC dI a kA t M L sz)) (qc_X6_isErrorFour dC dI a kA sz M L Z) 0 0 (cpA a sz) := by
  refine cpenter (cc := cX6_isErrorFour) (n := 1) (ret := (some .boolean)) (by decide) rfl (Nat.le_of_ble_eq_true rfl) ?_
  intro p e s m below meth c ls hx hb hml hr hlocks hown hts hK hE hsz hI hl hmn
  have hu : ∀ w ∈ uW, w.before (av_X6_isErrorFour a t p0).toArray s = true := fun w h => hts w (List.mem_cons_of_mem _ h)
  have hown : s.vm.findClass RX6 = some m.cls := hown
  have hl : lv_has ls 1 [(0, .int p0)] := hl
  unfold wp_X6_isErrorFour at h
  refine lv_iload_n hx hb dX6_isErrorFour_0 rfl (lv_at hl 0 rfl) ?_
  refine lv_iconst (v := (3 : Int32)) hx hb dX6_isErrorFour_1 (by decide) ?_
  refine lv_icmp_eq (tgt := 17) hx hb dX6_isErrorFour_2 (by decide) (fun c1 => ?_) (fun c1 => ?_)
  · have h := h.1 c1
    refine lv_iconst (v := (1 : Int32)) hx hb dX6_isErrorFour_17 (by decide) ?_
    refine lv_goto (tgt := 22) hx hb dX6_isErrorFour_18 (by decide) ?_
    exact cpzret (Z := (fun r M' L' => M' = M ∧ L' = L ∧ Z r)) hx hb hr hlocks hK hI dX6_isErrorFour_22 ⟨isB_1, ⟨rfl, rfl, h⟩⟩
  · have h := h.2 c1
    refine lv_iload_n hx hb dX6_isErrorFour_5 rfl (lv_at hl 0 rfl) ?_
    refine lv_bipush (v := (11 : Int32)) hx hb dX6_isErrorFour_6 (by decide) ?_
    refine lv_icmp_eq (tgt := 17) hx hb dX6_isErrorFour_8 (by decide) (fun c2 => ?_) (fun c2 => ?_)
    · have h := h.1 c2
      refine lv_iconst (v := (1 : Int32)) hx hb dX6_isErrorFour_17 (by decide) ?_
      refine lv_goto (tgt := 22) hx hb dX6_isErrorFour_18 (by decide) ?_
      exact cpzret (Z := (fun r M' L' => M' = M ∧ L' = L ∧ Z r)) hx hb hr hlocks hK hI dX6_isErrorFour_22 ⟨isB_1, ⟨rfl, rfl, h⟩⟩
    · have h := h.2 c2
      refine lv_iload_n hx hb dX6_isErrorFour_11 rfl (lv_at hl 0 rfl) ?_
      refine lv_bipush (v := (12 : Int32)) hx hb dX6_isErrorFour_12 (by decide) ?_
      refine lv_icmp_ne (tgt := 21) hx hb dX6_isErrorFour_14 (by decide) (fun c3 => ?_) (fun c3 => ?_)
      · have h := h.1 c3
        refine lv_iconst (v := (0 : Int32)) hx hb dX6_isErrorFour_21 (by decide) ?_
        exact cpzret (Z := (fun r M' L' => M' = M ∧ L' = L ∧ Z r)) hx hb hr hlocks hK hI dX6_isErrorFour_22 ⟨isB_0, ⟨rfl, rfl, h⟩⟩
      · have h := h.2 c3
        refine lv_iconst (v := (1 : Int32)) hx hb dX6_isErrorFour_17 (by decide) ?_
        refine lv_goto (tgt := 22) hx hb dX6_isErrorFour_18 (by decide) ?_
        exact cpzret (Z := (fun r M' L' => M' = M ∧ L' = L ∧ Z r)) hx hb hr hlocks hK hI dX6_isErrorFour_22 ⟨isB_1, ⟨rfl, rfl, h⟩⟩
