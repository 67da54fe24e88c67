abbrev rm_X7_words_0_5 : Room := { frames := 1, cells := 0, slots := 0, locals := 21 }
abbrev av_X7_words_0_5 (a t : Nat → Nat) (p2 : Int32) (p3 : Int32) : List Value := [.ref (a 0), .ref (a 5), .int p2, .int p3]
abbrev qc_X7_words_0_5 (dC : Nat → ClassId) (dI : Nat → Nat → Nat) (a : Nat → Nat) (kA : Nat → ClassId) (sz : Nat) (M : cM) (L : cL) (Z : cL → Prop) : Array Value → State → Outcome → State → Prop := va_Qv (fun (u : cM × cL) => u.1 = M ∧ Z u.2) (rpAt dC dI a kA (rpA a sz)) (rpA a sz)
set_option maxHeartbeats 4000000 in
set_option maxRecDepth 100000 in
theorem met_X7_words_0_5 (l : Launch) (dC : Nat → ClassId) (dI : Nat → Nat → Nat) (a : Nat → Nat) (kA : Nat → ClassId) (t : Nat → Nat) (sz : Nat) (M : cM) (L : cL) (p2 : Int32) (p3 : Int32) (Z : cL → Prop) (h : wp_X7_words_0_5 M L p2 p3 Z) : Met l yX7_words (Cond.code yX7_words cX7_words 5 none :: uW) rm_X7_words_0_5 (va_Pc (av_X7_words_0_5 a t p2 p3) (rpPre dC dI a kA t M L sz)) (qc_X7_words_0_5 dC dI a kA sz M L Z) 0 0 (rpA a sz) := by
  refine rpenter (cc := cX7_words) (n := 5) (ret := none) (by decide) rfl (Nat.le_of_ble_eq_true rfl) ?_
  intro p e s m below meth c ls hx hb hml hr hlocks hown hts hK hE hsz hI hl hmn
  have hu : ∀ w ∈ uW, w.before (av_X7_words_0_5 a t p2 p3).toArray s = true := fun w h => hts w (List.mem_cons_of_mem _ h)
  have hown : s.vm.findClass RX7 = some m.cls := hown
  have hl : lv_has ls 5 [(0, .ref (a 0)), (1, .ref (a 5)), (2, .int p2), (3, .int p3)] := hl
  unfold wp_X7_words_0_5 at h
  refine lv_iload_n hx hb dX7_words_0 rfl (lv_at hl 2 rfl) ?_
  refine lv_istore (lv' := [(4, .int p2), (0, .ref (a 0)), (1, .ref (a 5)), (2, .int p2), (3, .int p3)]) hx hb dX7_words_1 hl (by decide) rfl (fun ls hl => ?_)
  obtain ⟨I3, m3, h, hs3⟩ := h
  have P3 : ∀ (n3 : Nat) (x1 : Int32) (L2 : cL) (H : Heap) (locs : List Loc) (ls : Array Slot), I3 x1 L2 → m3 x1 L2 < n3 → rpI dC dI a kA (rpA a sz) s M L2 H locs → lv_has ls 5 [(0, .ref (a 0)), (1, .ref (a 5)), (3, .int p3), (4, .int x1)] → W p l e rm_X7_words_0_5 s m (av_X7_words_0_5 a t p2 p3).toArray below meth c H locs 0 0 (MQ below (qc_X7_words_0_5 dC dI a kA sz M L Z) (av_X7_words_0_5 a t p2 p3).toArray s 0 0 (rpA a sz)) (F0 m 3 ls []) := by
    intro n3
    induction n3 with
    | zero => intro x1 L2 H locs ls _ hn; exact absurd hn (Nat.not_lt_zero _)
    | succ n3 ih3 =>
      intro x1 L2 H locs ls h hn3 hI hl
      have h := hs3 x1 L2 h
      refine lv_iload hx hb dX7_words_3 (lv_at hl 3 rfl) ?_
      refine lv_iload_n hx hb dX7_words_5 rfl (lv_at hl 2 rfl) ?_
      refine lv_icmp_ge (tgt := 53) hx hb dX7_words_6 (by decide) (fun c3 => ?_) (fun c3 => ?_)
      · have h := h.1 c3
        exact rpvret (Z := (fun M' L' => M' = M ∧ Z L')) hx hb hr hlocks hK hI dX7_words_53 ⟨rfl, h⟩
      · have h := h.2 c3
        refine lv_aload_n hx hb dX7_words_9 rfl (lv_at hl 0 rfl) ?_
        refine lv_aload_n hx hb dX7_words_10 rfl (lv_at hl 1 rfl) ?_
        refine lv_iload hx hb dX7_words_11 (lv_at hl 3 rfl) ?_
        refine va_bald hx hb hK hI.1 5 4 rfl rfl h.1 dX7_words_13 ?_
        have h := h.2
        refine lv_sipush (v := (255 : Int32)) hx hb dX7_words_14 (by decide) ?_
        refine lv_iand hx hb dX7_words_17 ?_
        refine lv_bipush (v := (8 : Int32)) hx hb dX7_words_18 (by decide) ?_
        refine lv_ishl hx hb dX7_words_20 ?_
        refine lv_iload hx hb dX7_words_21 (lv_at hl 3 rfl) ?_
        refine lv_iconst (v := (1 : Int32)) hx hb dX7_words_23 (by decide) ?_
        refine lv_iadd hx hb dX7_words_24 ?_
        refine lv_iload_n hx hb dX7_words_25 rfl (lv_at hl 2 rfl) ?_
        obtain ⟨K43, hK43, h⟩ := h
        have J43 : ∀ (v4 : Int32) (H : Heap) (locs : List Loc) (ls : Array Slot), K43 v4 → rpI dC dI a kA (rpA a sz) s M L2 H locs → lv_has ls 5 [(0, .ref (a 0)), (1, .ref (a 5)), (3, .int p3), (4, .int x1)] → W p l e rm_X7_words_0_5 s m (av_X7_words_0_5 a t p2 p3).toArray below meth c H locs 0 0 (MQ below (qc_X7_words_0_5 dC dI a kA sz M L Z) (av_X7_words_0_5 a t p2 p3).toArray s 0 0 (rpA a sz)) (F0 m 43 ls [.int v4, .int (((M 5 x1.toNatClampNeg) &&& (255 : Int32)) <<< ((8 : Int32) &&& 31)), .ref (a 0)]) := by
          intro v4 H locs ls h hI hl
          have h := hK43 v4 h
          refine lv_ior hx hb dX7_words_43 ?_
          refine rpcallv_l hsz hI (va_runV (As := [.int ((((M 5 x1.toNatClampNeg) &&& (255 : Int32)) <<< ((8 : Int32) &&& 31)) ||| v4)]) (rest := []) ⟨hx, hb, hml, hown, hu⟩ (met_X7_word_0 l dC dI a kA t _ M L2 ((((M 5 x1.toNatClampNeg) &&& (255 : Int32)) <<< ((8 : Int32) &&& 31)) ||| v4) _ h) (cwl_X7_108_X7 hu ⟨by decide, by decide⟩) (rppre (ci := 6) hK hE hsz hI rfl rfl) rfl rfl hl.1 rfl (lv_room (Nat.le_of_ble_eq_true rfl)) dX7_words_44 ⟨by decide, by decide⟩) (fun L5 H locs h hI => ?_)
          obtain ⟨x6, ex6⟩ : ∃ y : Int32, y = (x1 + (2 : Int32)) := ⟨_, rfl⟩
          have h := h x6 ex6
          refine lv_iinc (v := x6) (lv' := [(4, .int x6), (0, .ref (a 0)), (1, .ref (a 5)), (3, .int p3)]) hx hb dX7_words_47 hl (k := 3) rfl (by rw [ex6]; rfl) (by decide) rfl (fun ls hl => ?_)
          refine lv_goto (tgt := 3) hx hb dX7_words_50 (by decide) ?_
          exact ih3 x6 L5 _ _ _ h.1 (Nat.lt_of_lt_of_le h.2 (Nat.le_of_lt_succ hn3)) hI (lv_sub hl [1, 2, 3, 0] rfl)
        refine lv_icmp_ge (tgt := 42) hx hb dX7_words_26 (by decide) (fun c7 => ?_) (fun c7 => ?_)
        · have h := h.1 c7
          refine lv_iconst (v := (0 : Int32)) hx hb dX7_words_42 (by decide) ?_
          exact J43 (0 : Int32) _ _ _ h hI (lv_sub hl [0, 1, 2, 3] rfl)
        · have h := h.2 c7
          refine lv_aload_n hx hb dX7_words_29 rfl (lv_at hl 1 rfl) ?_
          refine lv_iload hx hb dX7_words_30 (lv_at hl 3 rfl) ?_
          refine lv_iconst (v := (1 : Int32)) hx hb dX7_words_32 (by decide) ?_
          refine lv_iadd hx hb dX7_words_33 ?_
          refine va_bald hx hb hK hI.1 5 4 rfl rfl h.1 dX7_words_34 ?_
          have h := h.2
          refine lv_sipush (v := (255 : Int32)) hx hb dX7_words_35 (by decide) ?_
          refine lv_iand hx hb dX7_words_38 ?_
          refine lv_goto (tgt := 43) hx hb dX7_words_39 (by decide) ?_
          exact J43 ((M 5 (x1 + (1 : Int32)).toNatClampNeg) &&& (255 : Int32)) _ _ _ h hI (lv_sub hl [0, 1, 2, 3] rfl)
  exact P3 (m3 p2 L + 1) p2 L _ _ _ h (Nat.lt_succ_self _) hI (lv_sub hl [1, 2, 4, 0] rfl)

abbrev rm_X7_putTwo_5 : Room := { frames := 0, cells := 0, slots := 0, locals := 0 }
abbrev av_X7_putTwo_5 (a t : Nat → Nat) (p1 : Int32) (p2 : Int32) : List Value := [.ref (a 5), .int p1, .int p2]
abbrev qc_X7_putTwo_5 (dC : Nat → ClassId) (dI : Nat → Nat → Nat) (a : Nat → Nat) (kA : Nat → ClassId) (sz : Nat) (M : cM) (L : cL) (Z : cM → Prop) : Array Value → State → Outcome → State → Prop := va_Qv (fun (u : cM × cL) => u.2 = L ∧ Z u.1) (rpAt dC dI a kA (rpA a sz)) (rpA a sz)
set_option maxHeartbeats 4000000 in
set_option maxRecDepth 100000 in
theorem met_X7_putTwo_5 (l : Launch) (dC : Nat → ClassId) (dI : Nat → Nat → Nat) (a : Nat → Nat) (kA : Nat → ClassId) (t : Nat → Nat) (sz : Nat) (M : cM) (L : cL) (p1 : Int32) (p2 : Int32) (Z : cM → Prop) (h : wp_X7_putTwo_5 M L p1 p2 Z) : Met l yX7_putTwo (Cond.code yX7_putTwo cX7_putTwo 3 none :: uW) rm_X7_putTwo_5 (va_Pc (av_X7_putTwo_5 a t p1 p2) (rpPre dC dI a kA t M L sz)) (qc_X7_putTwo_5 dC dI a kA sz M L Z) 0 0 (rpA a sz) := by
  refine rpenter (cc := cX7_putTwo) (n := 3) (ret := none) (by decide) rfl (Nat.le_of_ble_eq_true rfl) ?_
  intro p e s m below meth c ls hx hb hml hr hlocks hown hts hK hE hsz hI hl hmn
  have hu : ∀ w ∈ uW, w.before (av_X7_putTwo_5 a t p1 p2).toArray s = true := fun w h => hts w (List.mem_cons_of_mem _ h)
  have hown : s.vm.findClass RX7 = some m.cls := hown
  have hl : lv_has ls 3 [(0, .ref (a 5)), (1, .int p1), (2, .int p2)] := hl
  unfold wp_X7_putTwo_5 at h
  refine lv_aload_n hx hb dX7_putTwo_0 rfl (lv_at hl 0 rfl) ?_
  refine lv_iload_n hx hb dX7_putTwo_1 rfl (lv_at hl 1 rfl) ?_
  refine lv_iload_n hx hb dX7_putTwo_2 rfl (lv_at hl 2 rfl) ?_
  refine lv_bipush (v := (8 : Int32)) hx hb dX7_putTwo_3 (by decide) ?_
  refine lv_ishr hx hb dX7_putTwo_5 ?_
  refine lv_i2b hx hb dX7_putTwo_6 rfl ?_
  refine rpbast hx hb hK hI 5 4 rfl rfl h.1 (rpset_5 _ _ _ _ _ _) dX7_putTwo_7 (fun H locs M1 eM1 hI => ?_)
  have h := h.2 M1 eM1
  refine lv_aload_n hx hb dX7_putTwo_8 rfl (lv_at hl 0 rfl) ?_
  refine lv_iload_n hx hb dX7_putTwo_9 rfl (lv_at hl 1 rfl) ?_
  refine lv_iconst (v := (1 : Int32)) hx hb dX7_putTwo_10 (by decide) ?_
  refine lv_iadd hx hb dX7_putTwo_11 ?_
  refine lv_iload_n hx hb dX7_putTwo_12 rfl (lv_at hl 2 rfl) ?_
  refine lv_i2b hx hb dX7_putTwo_13 rfl ?_
  refine rpbast hx hb hK hI 5 4 rfl rfl h.1 (rpset_5 _ _ _ _ _ _) dX7_putTwo_14 (fun H locs M2 eM2 hI => ?_)
  have h := h.2 M2 eM2
  exact rpvret (Z := (fun M' L' => L' = L ∧ Z M')) hx hb hr hlocks hK hI dX7_putTwo_15 ⟨rfl, h⟩

abbrev rm_X7_sumAt : Room := { frames := 0, cells := 0, slots := 0, locals := 0 }
abbrev av_X7_sumAt (a t : Nat → Nat) (p0 : Int32) : List Value := [.int p0]
abbrev qc_X7_sumAt (dC : Nat → ClassId) (dI : Nat → Nat → Nat) (a : Nat → Nat) (kA : Nat → ClassId) (sz : Nat) (M : cM) (L : cL) (Z : Int32 → Prop) : Array Value → State → Outcome → State → Prop := va_Qi (fun r (u : cM × cL) => u.1 = M ∧ u.2 = L ∧ Z r) (rpAt dC dI a kA (rpA a sz)) (rpA a sz)
set_option maxHeartbeats 4000000 in
set_option maxRecDepth 100000 in
theorem met_X7_sumAt (l : Launch) (dC : Nat → ClassId) (dI : Nat → Nat → Nat) (a : Nat → Nat) (kA : Nat → ClassId) (t : Nat → Nat) (sz : Nat) (M : cM) (L : cL) (p0 : Int32) (Z : Int32 → Prop) (h : wp_X7_sumAt M L p0 Z) : Met l yX7_sumAt (Cond.code yX7_sumAt cX7_sumAt 1 (some .int) :: uW) rm_X7_sumAt (va_Pc (av_X7_sumAt a t p0) (rpPre dC dI a kA t M L sz)) (qc_X7_sumAt dC dI a kA sz M L Z) 0 0 (rpA a sz) := by
  refine rpenter (cc := cX7_sumAt) (n := 1) (ret := (some .int)) (by decide) rfl (Nat.le_of_ble_eq_true rfl) ?_
  intro p e s m below meth c ls hx hb hml hr hlocks hown hts hK hE hsz hI hl hmn
  have hu : ∀ w ∈ uW, w.before (av_X7_sumAt a t p0).toArray s = true := fun w h => hts w (List.mem_cons_of_mem _ h)
  have hown : s.vm.findClass RX7 = some m.cls := hown
  have hl : lv_has ls 1 [(0, .int p0)] := hl
  unfold wp_X7_sumAt at h
  refine lv_iload_n hx hb dX7_sumAt_0 rfl (lv_at hl 0 rfl) ?_
  refine lv_bipush (v := (17 : Int32)) hx hb dX7_sumAt_1 (by decide) ?_
  refine lv_icmp_ne (tgt := 11) hx hb dX7_sumAt_3 (by decide) (fun c1 => ?_) (fun c1 => ?_)
  · have h := h.1 c1
    refine lv_bipush (v := (16 : Int32)) hx hb dX7_sumAt_11 (by decide) ?_
    exact rpiret (Z := (fun r M' L' => M' = M ∧ L' = L ∧ Z r)) hx hb hr hlocks hK hI dX7_sumAt_13 ⟨rfl, rfl, h⟩
  · have h := h.2 c1
    refine lv_bipush (v := (6 : Int32)) hx hb dX7_sumAt_6 (by decide) ?_
    refine lv_goto (tgt := 13) hx hb dX7_sumAt_8 (by decide) ?_
    exact rpiret (Z := (fun r M' L' => M' = M ∧ L' = L ∧ Z r)) hx hb hr hlocks hK hI dX7_sumAt_13 ⟨rfl, rfl, h⟩

abbrev rm_X7_octetAt_5 : Room := { frames := 0, cells := 0, slots := 0, locals := 0 }
abbrev av_X7_octetAt_5 (a t : Nat → Nat) (p1 : Int32) : List Value := [.ref (a 5), .int p1]
abbrev qc_X7_octetAt_5 (dC : Nat → ClassId) (dI : Nat → Nat → Nat) (a : Nat → Nat) (kA : Nat → ClassId) (sz : Nat) (M : cM) (L : cL) (Z : Int32 → Prop) : Array Value → State → Outcome → State → Prop := va_Qi (fun r (u : cM × cL) => u.1 = M ∧ u.2 = L ∧ Z r) (rpAt dC dI a kA (rpA a sz)) (rpA a sz)
set_option maxHeartbeats 4000000 in
set_option maxRecDepth 100000 in
theorem met_X7_octetAt_5 (l : Launch) (dC : Nat → ClassId) (dI : Nat → Nat → Nat) (a : Nat → Nat) (kA : Nat → ClassId) (t : Nat → Nat) (sz : Nat) (M : cM) (L : cL) (p1 : Int32) (Z : Int32 → Prop) (h : wp_X7_octetAt_5 M L p1 Z) : Met l yX7_octetAt (Cond.code yX7_octetAt cX7_octetAt 2 (some .int) :: uW) rm_X7_octetAt_5 (va_Pc (av_X7_octetAt_5 a t p1) (rpPre dC dI a kA t M L sz)) (qc_X7_octetAt_5 dC dI a kA sz M L Z) 0 0 (rpA a sz) := by
  refine rpenter (cc := cX7_octetAt) (n := 2) (ret := (some .int)) (by decide) rfl (Nat.le_of_ble_eq_true rfl) ?_
  intro p e s m below meth c ls hx hb hml hr hlocks hown hts hK hE hsz hI hl hmn
  have hu : ∀ w ∈ uW, w.before (av_X7_octetAt_5 a t p1).toArray s = true := fun w h => hts w (List.mem_cons_of_mem _ h)
  have hown : s.vm.findClass RX7 = some m.cls := hown
  have hl : lv_has ls 2 [(0, .ref (a 5)), (1, .int p1)] := hl
  unfold wp_X7_octetAt_5 at h
  refine lv_aload_n hx hb dX7_octetAt_0 rfl (lv_at hl 0 rfl) ?_
  refine lv_iload_n hx hb dX7_octetAt_1 rfl (lv_at hl 1 rfl) ?_
  refine va_bald hx hb hK hI.1 5 4 rfl rfl h.1 dX7_octetAt_2 ?_
  have h := h.2
  refine lv_sipush (v := (255 : Int32)) hx hb dX7_octetAt_3 (by decide) ?_
  refine lv_iand hx hb dX7_octetAt_6 ?_
  exact rpiret (Z := (fun r M' L' => M' = M ∧ L' = L ∧ Z r)) hx hb hr hlocks hK hI dX7_octetAt_7 ⟨rfl, rfl, h⟩

abbrev rm_X7_twoAt_5 : Room := { frames := 1, cells := 0, slots := 0, locals := 21 }
abbrev av_X7_twoAt_5 (a t : Nat → Nat) (p1 : Int32) : List Value := [.ref (a 5), .int p1]
abbrev qc_X7_twoAt_5 (dC : Nat → ClassId) (dI : Nat → Nat → Nat) (a : Nat → Nat) (kA : Nat → ClassId) (sz : Nat) (M : cM) (L : cL) (Z : Int32 → Prop) : Array Value → State → Outcome → State → Prop := va_Qi (fun r (u : cM × cL) => u.1 = M ∧ u.2 = L ∧ Z r) (rpAt dC dI a kA (rpA a sz)) (rpA a sz)
set_option maxHeartbeats 4000000 in
set_option maxRecDepth 100000 in
theorem met_X7_twoAt_5 (l : Launch) (dC : Nat → ClassId) (dI : Nat → Nat → Nat) (a : Nat → Nat) (kA : Nat → ClassId) (t : Nat → Nat) (sz : Nat) (M : cM) (L : cL) (p1 : Int32) (Z : Int32 → Prop) (h : wp_X7_twoAt_5 M L p1 Z) : Met l yX7_twoAt (Cond.code yX7_twoAt cX7_twoAt 2 (some .int) :: uW) rm_X7_twoAt_5 (va_Pc (av_X7_twoAt_5 a t p1) (rpPre dC dI a kA t M L sz)) (qc_X7_twoAt_5 dC dI a kA sz M L Z) 0 0 (rpA a sz) := by
  refine rpenter (cc := cX7_twoAt) (n := 2) (ret := (some .int)) (by decide) rfl (Nat.le_of_ble_eq_true rfl) ?_
  intro p e s m below meth c ls hx hb hml hr hlocks hown hts hK hE hsz hI hl hmn
  have hu : ∀ w ∈ uW, w.before (av_X7_twoAt_5 a t p1).toArray s = true := fun w h => hts w (List.mem_cons_of_mem _ h)
  have hown : s.vm.findClass RX7 = some m.cls := hown
  have hl : lv_has ls 2 [(0, .ref (a 5)), (1, .int p1)] := hl
  unfold wp_X7_twoAt_5 at h
  refine lv_aload_n hx hb dX7_twoAt_0 rfl (lv_at hl 0 rfl) ?_
  refine lv_iload_n hx hb dX7_twoAt_1 rfl (lv_at hl 1 rfl) ?_
  refine rpcalli_p hsz hI (va_runS (As := [.ref (a 5), .int p1]) (rest := []) ⟨hx, hb, hml, hown, hu⟩ (met_X7_octetAt_5 l dC dI a kA t _ M L p1 _ h) (cwl_X7_111_S hu ⟨by decide, by decide⟩) (rppreS hK hE hsz hI) rfl rfl hl.1 rfl (lv_room (Nat.le_of_ble_eq_true rfl)) dX7_twoAt_2 ⟨by decide, by decide⟩) (fun r1 H locs h hI => ?_)
  refine lv_bipush (v := (8 : Int32)) hx hb dX7_twoAt_5 (by decide) ?_
  refine lv_ishl hx hb dX7_twoAt_7 ?_
  refine lv_aload_n hx hb dX7_twoAt_8 rfl (lv_at hl 0 rfl) ?_
  refine lv_iload_n hx hb dX7_twoAt_9 rfl (lv_at hl 1 rfl) ?_
  refine lv_iconst (v := (1 : Int32)) hx hb dX7_twoAt_10 (by decide) ?_
  refine lv_iadd hx hb dX7_twoAt_11 ?_
  refine rpcalli_p hsz hI (va_runS (As := [.ref (a 5), .int (p1 + (1 : Int32))]) (rest := [.int (r1 <<< ((8 : Int32) &&& 31))]) ⟨hx, hb, hml, hown, hu⟩ (met_X7_octetAt_5 l dC dI a kA t _ M L (p1 + (1 : Int32)) _ h) (cwl_X7_111_S hu ⟨by decide, by decide⟩) (rppreS hK hE hsz hI) rfl rfl hl.1 rfl (lv_room (Nat.le_of_ble_eq_true rfl)) dX7_twoAt_12 ⟨by decide, by decide⟩) (fun r2 H locs h hI => ?_)
  refine lv_ior hx hb dX7_twoAt_15 ?_
  exact rpiret (Z := (fun r M' L' => M' = M ∧ L' = L ∧ Z r)) hx hb hr hlocks hK hI dX7_twoAt_16 ⟨rfl, rfl, h⟩

abbrev rm_X7_turned_0 : Room := { frames := 1, cells := 0, slots := 0, locals := 21 }
abbrev av_X7_turned_0 (a t : Nat → Nat) (p1 : Int32) : List Value := [.ref (a 0), .int p1]
abbrev qc_X7_turned_0 (dC : Nat → ClassId) (dI : Nat → Nat → Nat) (a : Nat → Nat) (kA : Nat → ClassId) (sz : Nat) (M : cM) (L : cL) (Z : cL → Prop) : Array Value → State → Outcome → State → Prop := va_Qv (fun (u : cM × cL) => u.1 = M ∧ Z u.2) (rpAt dC dI a kA (rpA a sz)) (rpA a sz)
set_option maxHeartbeats 4000000 in
set_option maxRecDepth 100000 in
theorem met_X7_turned_0 (l : Launch) (dC : Nat → ClassId) (dI : Nat → Nat → Nat) (a : Nat → Nat) (kA : Nat → ClassId) (t : Nat → Nat) (sz : Nat) (M : cM) (L : cL) (p1 : Int32) (Z : cL → Prop) (h : wp_X7_turned_0 M L p1 Z) : Met l yX7_turned (Cond.code yX7_turned cX7_turned 2 none :: uW) rm_X7_turned_0 (va_Pc (av_X7_turned_0 a t p1) (rpPre dC dI a kA t M L sz)) (qc_X7_turned_0 dC dI a kA sz M L Z) 0 0 (rpA a sz) := by
  refine rpenter (cc := cX7_turned) (n := 2) (ret := none) (by decide) rfl (Nat.le_of_ble_eq_true rfl) ?_
  intro p e s m below meth c ls hx hb hml hr hlocks hown hts hK hE hsz hI hl hmn
  have hu : ∀ w ∈ uW, w.before (av_X7_turned_0 a t p1).toArray s = true := fun w h => hts w (List.mem_cons_of_mem _ h)
  have hown : s.vm.findClass RX7 = some m.cls := hown
  have hl : lv_has ls 2 [(0, .ref (a 0)), (1, .int p1)] := hl
  unfold wp_X7_turned_0 at h
  refine lv_aload_n hx hb dX7_turned_0 rfl (lv_at hl 0 rfl) ?_
  refine lv_iload_n hx hb dX7_turned_1 rfl (lv_at hl 1 rfl) ?_
  refine lv_iconst (v := (-1 : Int32)) hx hb dX7_turned_2 (by decide) ?_
  refine lv_ixor hx hb dX7_turned_3 ?_
  refine lv_ldc (own := RX7) (v := (65535 : Int32)) hx hb hown (hu _ uww_596) dX7_turned_4 ?_
  refine lv_iand hx hb dX7_turned_6 ?_
  refine rpcallv_l hsz hI (va_runV (As := [.int ((p1 ^^^ (-1 : Int32)) &&& (65535 : Int32))]) (rest := []) ⟨hx, hb, hml, hown, hu⟩ (met_X7_word_0 l dC dI a kA t _ M L ((p1 ^^^ (-1 : Int32)) &&& (65535 : Int32)) _ h) (cwl_X7_108_X7 hu ⟨by decide, by decide⟩) (rppre (ci := 6) hK hE hsz hI rfl rfl) rfl rfl hl.1 rfl (lv_room (Nat.le_of_ble_eq_true rfl)) dX7_turned_7 ⟨by decide, by decide⟩) (fun L1 H locs h hI => ?_)
  exact rpvret (Z := (fun M' L' => M' = M ∧ Z L')) hx hb hr hlocks hK hI dX7_turned_10 ⟨rfl, h⟩

abbrev rm_X7_addresses_0 : Room := { frames := 2, cells := 0, slots := 0, locals := 43 }
abbrev av_X7_addresses_0 (a t : Nat → Nat) (p1 : Int32) : List Value := [.ref (a 0), .int p1]
abbrev qc_X7_addresses_0 (dC : Nat → ClassId) (dI : Nat → Nat → Nat) (a : Nat → Nat) (kA : Nat → ClassId) (sz : Nat) (M : cM) (L : cL) (Z : cL → Prop) : Array Value → State → Outcome → State → Prop := va_Qv (fun (u : cM × cL) => u.1 = M ∧ Z u.2) (rpAt dC dI a kA (rpA a sz)) (rpA a sz)
set_option maxHeartbeats 4000000 in
set_option maxRecDepth 100000 in
theorem met_X7_addresses_0 (l : Launch) (dC : Nat → ClassId) (dI : Nat → Nat → Nat) (a : Nat → Nat) (kA : Nat → ClassId) (t : Nat → Nat) (sz : Nat) (M : cM) (L : cL) (p1 : Int32) (Z : cL → Prop) (h : wp_X7_addresses_0 M L p1 Z) : Met l yX7_addresses (Cond.code yX7_addresses cX7_addresses 2 none :: uW) rm_X7_addresses_0 (va_Pc (av_X7_addresses_0 a t p1) (rpPre dC dI a kA t M L sz)) (qc_X7_addresses_0 dC dI a kA sz M L Z) 0 0 (rpA a sz) := by
  refine rpenter (cc := cX7_addresses) (n := 2) (ret := none) (by decide) rfl (Nat.le_of_ble_eq_true rfl) ?_
  intro p e s m below meth c ls hx hb hml hr hlocks hown hts hK hE hsz hI hl hmn
  have hu : ∀ w ∈ uW, w.before (av_X7_addresses_0 a t p1).toArray s = true := fun w h => hts w (List.mem_cons_of_mem _ h)
  have hown : s.vm.findClass RX7 = some m.cls := hown
  have hl : lv_has ls 2 [(0, .ref (a 0)), (1, .int p1)] := hl
  unfold wp_X7_addresses_0 at h
  refine lv_aload_n hx hb dX7_addresses_0 rfl (lv_at hl 0 rfl) ?_
  refine lv_aload_n hx hb dX7_addresses_1 rfl (lv_at hl 0 rfl) ?_
  refine va_get (D := (dC, dI)) (ci := 6) (v := .int (M 0 25)) (C := RX7) (T := TX7) (N := 44) hx hb hu uX7 hown hK hI.1 0 rfl rfl 25 (by decide) (hu _ uww_628) (fun _ h9 => h9) rfl dX7_addresses_2 ?_
  refine lv_iload_n hx hb dX7_addresses_5 rfl (lv_at hl 1 rfl) ?_
  refine rpcallv_l hsz hI (va_runV (As := [.int (M 0 25), .int p1]) (rest := []) ⟨hx, hb, hml, hown, hu⟩ (met_X7_ints_0 l dC dI a kA t _ M L (M 0 25) p1 _ h) (cwl_X7_163_X7 hu ⟨by decide, by decide⟩) (rppre (ci := 6) hK hE hsz hI rfl rfl) rfl rfl hl.1 rfl (lv_room (Nat.le_of_ble_eq_true rfl)) dX7_addresses_6 ⟨by decide, by decide⟩) (fun L1 H locs h hI => ?_)
  refine lv_aload_n hx hb dX7_addresses_9 rfl (lv_at hl 0 rfl) ?_
  refine lv_aload_n hx hb dX7_addresses_10 rfl (lv_at hl 0 rfl) ?_
  refine va_get (D := (dC, dI)) (ci := 6) (v := .int (M 0 26)) (C := RX7) (T := TX7) (N := 44) hx hb hu uX7 hown hK hI.1 0 rfl rfl 26 (by decide) (hu _ uww_629) (fun _ h9 => h9) rfl dX7_addresses_11 ?_
  refine lv_iload_n hx hb dX7_addresses_14 rfl (lv_at hl 1 rfl) ?_
  refine rpcallv_l hsz hI (va_runV (As := [.int (M 0 26), .int p1]) (rest := []) ⟨hx, hb, hml, hown, hu⟩ (met_X7_ints_0 l dC dI a kA t _ M L1 (M 0 26) p1 _ h) (cwl_X7_163_X7 hu ⟨by decide, by decide⟩) (rppre (ci := 6) hK hE hsz hI rfl rfl) rfl rfl hl.1 rfl (lv_room (Nat.le_of_ble_eq_true rfl)) dX7_addresses_15 ⟨by decide, by decide⟩) (fun L2 H locs h hI => ?_)
  exact rpvret (Z := (fun M' L' => M' = M ∧ Z L')) hx hb hr hlocks hK hI dX7_addresses_18 ⟨rfl, h⟩

abbrev rm_X7_adjust_0_5 : Room := { frames := 3, cells := 0, slots := 0, locals := 66 }
abbrev av_X7_adjust_0_5 (a t : Nat → Nat) (p2 : Int32) (p3 : Int32) (p4 : Int32) : List Value := [.ref (a 0), .ref (a 5), .int p2, .int p3, .int p4]
abbrev qc_X7_adjust_0_5 (dC : Nat → ClassId) (dI : Nat → Nat → Nat) (a : Nat → Nat) (kA : Nat → ClassId) (sz : Nat) (M : cM) (L : cL) (Z : cM → cL → Prop) : Array Value → State → Outcome → State → Prop := va_Qv (fun (u : cM × cL) => Z u.1 u.2) (rpAt dC dI a kA (rpA a sz)) (rpA a sz)
set_option maxHeartbeats 4000000 in
set_option maxRecDepth 100000 in
theorem met_X7_adjust_0_5 (l : Launch) (dC : Nat → ClassId) (dI : Nat → Nat → Nat) (a : Nat → Nat) (kA : Nat → ClassId) (t : Nat → Nat) (sz : Nat) (M : cM) (L : cL) (p2 : Int32) (p3 : Int32) (p4 : Int32) (Z : cM → cL → Prop) (h : wp_X7_adjust_0_5 M L p2 p3 p4 Z) : Met l yX7_adjust (Cond.code yX7_adjust cX7_adjust 6 none :: uW) rm_X7_adjust_0_5 (va_Pc (av_X7_adjust_0_5 a t p2 p3 p4) (rpPre dC dI a kA t M L sz)) (qc_X7_adjust_0_5 dC dI a kA sz M L Z) 0 0 (rpA a sz) := by
  refine rpenter (cc := cX7_adjust) (n := 6) (ret := none) (by decide) rfl (Nat.le_of_ble_eq_true rfl) ?_
  intro p e s m below meth c ls hx hb hml hr hlocks hown hts hK hE hsz hI hl hmn
  have hu : ∀ w ∈ uW, w.before (av_X7_adjust_0_5 a t p2 p3 p4).toArray s = true := fun w h => hts w (List.mem_cons_of_mem _ h)
  have hown : s.vm.findClass RX7 = some m.cls := hown
  have hl : lv_has ls 6 [(0, .ref (a 0)), (1, .ref (a 5)), (2, .int p2), (3, .int p3), (4, .int p4)] := hl
  unfold wp_X7_adjust_0_5 at h
  refine lv_aload_n hx hb dX7_adjust_0 rfl (lv_at hl 0 rfl) ?_
  refine lv_lconst (v := (0 : Int64)) hx hb dX7_adjust_1 (by decide) ?_
  refine rpputl (ci := 6) (C := RX7) (T := TX7) (N := 44) (ty := .long) hx hb hu uX7 tyX7 tyX7_ok nmX7 hown hK hI 0 rfl rfl 18 (by decide) (hu _ uww_593) (fun _ h9 => h9) rfl (by decide +kernel) rfl rfl (Nat.le_of_ble_eq_true rfl) (rpset_0_18 _ _ _ _ _) dX7_adjust_2 (fun H locs L1 eL1 hI => ?_)
  have h := h L1 eL1
  refine lv_aload_n hx hb dX7_adjust_5 rfl (lv_at hl 0 rfl) ?_
  refine lv_aload_n hx hb dX7_adjust_6 rfl (lv_at hl 1 rfl) ?_
  refine lv_iload_n hx hb dX7_adjust_7 rfl (lv_at hl 2 rfl) ?_
  refine rpcalli_p hsz hI (va_runS (As := [.ref (a 5), .int p2]) (rest := [.ref (a 0)]) ⟨hx, hb, hml, hown, hu⟩ (met_X7_twoAt_5 l dC dI a kA t _ M L1 p2 _ h) (cwl_X7_115_S hu ⟨by decide, by decide⟩) (rppreS hK hE hsz hI) rfl rfl hl.1 rfl (lv_room (Nat.le_of_ble_eq_true rfl)) dX7_adjust_8 ⟨by decide, by decide⟩) (fun r2 H locs h hI => ?_)
  refine rpcallv_l hsz hI (va_runV (As := [.int r2]) (rest := []) ⟨hx, hb, hml, hown, hu⟩ (met_X7_turned_0 l dC dI a kA t _ M L1 r2 _ h) (cwl_X7_171_X7 hu ⟨by decide, by decide⟩) (rppre (ci := 6) hK hE hsz hI rfl rfl) rfl rfl hl.1 rfl (lv_room (Nat.le_of_ble_eq_true rfl)) dX7_adjust_11 ⟨by decide, by decide⟩) (fun L3 H locs h hI => ?_)
  refine lv_iload hx hb dX7_adjust_14 (lv_at hl 4 rfl) ?_
  obtain ⟨K42, hK42, h⟩ := h
  have J42 : ∀ (L4 : cL) (H : Heap) (locs : List Loc) (ls : Array Slot), K42 L4 → rpI dC dI a kA (rpA a sz) s M L4 H locs → lv_has ls 6 [(0, .ref (a 0)), (1, .ref (a 5)), (2, .int p2), (3, .int p3)] → W p l e rm_X7_adjust_0_5 s m (av_X7_adjust_0_5 a t p2 p3 p4).toArray below meth c H locs 0 0 (MQ below (qc_X7_adjust_0_5 dC dI a kA sz M L Z) (av_X7_adjust_0_5 a t p2 p3 p4).toArray s 0 0 (rpA a sz)) (F0 m 42 ls []) := by
    intro L4 H locs ls h hI hl
    have h := hK42 L4 h
    refine lv_aload_n hx hb dX7_adjust_42 rfl (lv_at hl 0 rfl) ?_
    refine rpcalli_p hsz hI (va_runV (As := []) (rest := []) ⟨hx, hb, hml, hown, hu⟩ (met_X7_checksum_0 l dC dI a kA t _ M L4  _ h) (cwl_X7_177_X7 hu ⟨by decide, by decide⟩) (rppre (ci := 6) hK hE hsz hI rfl rfl) rfl rfl hl.1 rfl (lv_room (Nat.le_of_ble_eq_true rfl)) dX7_adjust_43 ⟨by decide, by decide⟩) (fun r5 H locs h hI => ?_)
    refine lv_istore (lv' := [(5, .int r5), (0, .ref (a 0)), (1, .ref (a 5)), (2, .int p2), (3, .int p3)]) hx hb dX7_adjust_46 hl (by decide) rfl (fun ls hl => ?_)
    refine lv_aload_n hx hb dX7_adjust_48 rfl (lv_at hl 2 rfl) ?_
    refine lv_iload_n hx hb dX7_adjust_49 rfl (lv_at hl 3 rfl) ?_
    refine lv_iload_n hx hb dX7_adjust_50 rfl (lv_at hl 4 rfl) ?_
    refine lv_bipush (v := (17 : Int32)) hx hb dX7_adjust_51 (by decide) ?_
    obtain ⟨K68, hK68, h⟩ := h
    have J68 : ∀ (v6 : Int32) (H : Heap) (locs : List Loc) (ls : Array Slot), K68 v6 → rpI dC dI a kA (rpA a sz) s M L4 H locs → lv_has ls 6 [] → W p l e rm_X7_adjust_0_5 s m (av_X7_adjust_0_5 a t p2 p3 p4).toArray below meth c H locs 0 0 (MQ below (qc_X7_adjust_0_5 dC dI a kA sz M L Z) (av_X7_adjust_0_5 a t p2 p3 p4).toArray s 0 0 (rpA a sz)) (F0 m 68 ls [.int v6, .int p2, .ref (a 5)]) := by
      intro v6 H locs ls h hI hl
      have h := hK68 v6 h
      refine rpcallv_m hsz hI (va_runS (As := [.ref (a 5), .int p2, .int v6]) (rest := []) ⟨hx, hb, hml, hown, hu⟩ (met_X7_putTwo_5 l dC dI a kA t _ M L4 p2 v6 _ h) (cwl_X7_121_S hu ⟨by decide, by decide⟩) (rppreS hK hE hsz hI) rfl rfl hl.1 rfl (lv_room (Nat.le_of_ble_eq_true rfl)) dX7_adjust_68 ⟨by decide, by decide⟩) (fun M7 H locs h hI => ?_)
      exact rpvret (Z := (fun M' L' => Z M' L')) hx hb hr hlocks hK hI dX7_adjust_71 h
    obtain ⟨K66, hK66, h⟩ := h
    have J66 : ∀  (H : Heap) (locs : List Loc) (ls : Array Slot), K66  → rpI dC dI a kA (rpA a sz) s M L4 H locs → lv_has ls 6 [(5, .int r5)] → W p l e rm_X7_adjust_0_5 s m (av_X7_adjust_0_5 a t p2 p3 p4).toArray below meth c H locs 0 0 (MQ below (qc_X7_adjust_0_5 dC dI a kA sz M L Z) (av_X7_adjust_0_5 a t p2 p3 p4).toArray s 0 0 (rpA a sz)) (F0 m 66 ls [.int p2, .ref (a 5)]) := by
      intro  H locs ls h hI hl
      have h := hK66  h
      refine lv_iload hx hb dX7_adjust_66 (lv_at hl 0 rfl) ?_
      exact J68 r5 _ _ _ h hI (lv_sub hl [] rfl)
    refine lv_icmp_ne (tgt := 66) hx hb dX7_adjust_53 (by decide) (fun c8 => ?_) (fun c8 => ?_)
    · have h := h.1 c8
      exact J66  _ _ _ h hI (lv_sub hl [0] rfl)
    · have h := h.2 c8
      refine lv_iload hx hb dX7_adjust_56 (lv_at hl 0 rfl) ?_
      refine lv_if_ne (tgt := 66) hx hb dX7_adjust_58 (by decide) (fun c9 => ?_) (fun c9 => ?_)
      · have h := h.1 c9
        exact J66  _ _ _ h hI (lv_sub hl [0] rfl)
      · have h := h.2 c9
        refine lv_ldc (own := RX7) (v := (65535 : Int32)) hx hb hown (hu _ uww_596) dX7_adjust_61 ?_
        refine lv_goto (tgt := 68) hx hb dX7_adjust_63 (by decide) ?_
        exact J68 (65535 : Int32) _ _ _ h hI (lv_sub hl [] rfl)
  refine lv_if_eq (tgt := 32) hx hb dX7_adjust_16 (by decide) (fun c10 => ?_) (fun c10 => ?_)
  · have h := h.1 c10
    refine lv_aload_n hx hb dX7_adjust_32 rfl (lv_at hl 0 rfl) ?_
    refine lv_iconst (v := (1 : Int32)) hx hb dX7_adjust_33 (by decide) ?_
    refine rpcallv_l hsz hI (va_runV (As := [.int (1 : Int32)]) (rest := []) ⟨hx, hb, hml, hown, hu⟩ (met_X7_images_0 l dC dI a kA t _ M L3 (1 : Int32) _ h) (cwl_X7_167_X7 hu ⟨by decide, by decide⟩) (rppre (ci := 6) hK hE hsz hI rfl rfl) rfl rfl hl.1 rfl (lv_room (Nat.le_of_ble_eq_true rfl)) dX7_adjust_34 ⟨by decide, by decide⟩) (fun L11 H locs h hI => ?_)
    refine lv_aload_n hx hb dX7_adjust_37 rfl (lv_at hl 0 rfl) ?_
    refine lv_iconst (v := (0 : Int32)) hx hb dX7_adjust_38 (by decide) ?_
    refine rpcallv_l hsz hI (va_runV (As := [.int (0 : Int32)]) (rest := []) ⟨hx, hb, hml, hown, hu⟩ (met_X7_addresses_0 l dC dI a kA t _ M L11 (0 : Int32) _ h) (cwl_X7_174_X7 hu ⟨by decide, by decide⟩) (rppre (ci := 6) hK hE hsz hI rfl rfl) rfl rfl hl.1 rfl (lv_room (Nat.le_of_ble_eq_true rfl)) dX7_adjust_39 ⟨by decide, by decide⟩) (fun L12 H locs h hI => ?_)
    exact J42 L12 _ _ _ h hI (lv_sub hl [0, 1, 2, 3] rfl)
  · have h := h.2 c10
    refine lv_aload_n hx hb dX7_adjust_19 rfl (lv_at hl 0 rfl) ?_
    refine lv_iconst (v := (1 : Int32)) hx hb dX7_adjust_20 (by decide) ?_
    refine rpcallv_l hsz hI (va_runV (As := [.int (1 : Int32)]) (rest := []) ⟨hx, hb, hml, hown, hu⟩ (met_X7_addresses_0 l dC dI a kA t _ M L3 (1 : Int32) _ h) (cwl_X7_174_X7 hu ⟨by decide, by decide⟩) (rppre (ci := 6) hK hE hsz hI rfl rfl) rfl rfl hl.1 rfl (lv_room (Nat.le_of_ble_eq_true rfl)) dX7_adjust_21 ⟨by decide, by decide⟩) (fun L13 H locs h hI => ?_)
    refine lv_aload_n hx hb dX7_adjust_24 rfl (lv_at hl 0 rfl) ?_
    refine lv_iconst (v := (0 : Int32)) hx hb dX7_adjust_25 (by decide) ?_
    refine rpcallv_l hsz hI (va_runV (As := [.int (0 : Int32)]) (rest := []) ⟨hx, hb, hml, hown, hu⟩ (met_X7_images_0 l dC dI a kA t _ M L13 (0 : Int32) _ h) (cwl_X7_167_X7 hu ⟨by decide, by decide⟩) (rppre (ci := 6) hK hE hsz hI rfl rfl) rfl rfl hl.1 rfl (lv_room (Nat.le_of_ble_eq_true rfl)) dX7_adjust_26 ⟨by decide, by decide⟩) (fun L14 H locs h hI => ?_)
    refine lv_goto (tgt := 42) hx hb dX7_adjust_29 (by decide) ?_
    exact J42 L14 _ _ _ h hI (lv_sub hl [0, 1, 2, 3] rfl)

abbrev rm_X7_echo_0_5 : Room := { frames := 4, cells := 0, slots := 0, locals := 89 }
abbrev av_X7_echo_0_5 (a t : Nat → Nat) (p2 : Int32) (p3 : Int32) (p4 : Int32) : List Value := [.ref (a 0), .ref (a 5), .int p2, .int p3, .int p4]
abbrev qc_X7_echo_0_5 (dC : Nat → ClassId) (dI : Nat → Nat → Nat) (a : Nat → Nat) (kA : Nat → ClassId) (sz : Nat) (M : cM) (L : cL) (Z : cM → cL → Prop) : Array Value → State → Outcome → State → Prop := va_Qv (fun (u : cM × cL) => Z u.1 u.2) (rpAt dC dI a kA (rpA a sz)) (rpA a sz)
set_option maxHeartbeats 4000000 in
set_option maxRecDepth 100000 in
theorem met_X7_echo_0_5 (l : Launch) (dC : Nat → ClassId) (dI : Nat → Nat → Nat) (a : Nat → Nat) (kA : Nat → ClassId) (t : Nat → Nat) (sz : Nat) (M : cM) (L : cL) (p2 : Int32) (p3 : Int32) (p4 : Int32) (Z : cM → cL → Prop) (h : wp_X7_echo_0_5 M L p2 p3 p4 Z) : Met l yX7_echo (Cond.code yX7_echo cX7_echo 6 none :: uW) rm_X7_echo_0_5 (va_Pc (av_X7_echo_0_5 a t p2 p3 p4) (rpPre dC dI a kA t M L sz)) (qc_X7_echo_0_5 dC dI a kA sz M L Z) 0 0 (rpA a sz) := by
  refine rpenter (cc := cX7_echo) (n := 6) (ret := none) (by decide) rfl (Nat.le_of_ble_eq_true rfl) ?_
  intro p e s m below meth c ls hx hb hml hr hlocks hown hts hK hE hsz hI hl hmn
  have hu : ∀ w ∈ uW, w.before (av_X7_echo_0_5 a t p2 p3 p4).toArray s = true := fun w h => hts w (List.mem_cons_of_mem _ h)
  have hown : s.vm.findClass RX7 = some m.cls := hown
  have hl : lv_has ls 6 [(0, .ref (a 0)), (1, .ref (a 5)), (2, .int p2), (3, .int p3), (4, .int p4)] := hl
  unfold wp_X7_echo_0_5 at h
  refine lv_aload_n hx hb dX7_echo_0 rfl (lv_at hl 1 rfl) ?_
  refine lv_iload_n hx hb dX7_echo_1 rfl (lv_at hl 2 rfl) ?_
  refine rpcalli_p hsz hI (va_runS (As := [.ref (a 5), .int p2]) (rest := []) ⟨hx, hb, hml, hown, hu⟩ (met_X7_twoAt_5 l dC dI a kA t _ M L p2 _ h) (cwl_X7_115_S hu ⟨by decide, by decide⟩) (rppreS hK hE hsz hI) rfl rfl hl.1 rfl (lv_room (Nat.le_of_ble_eq_true rfl)) dX7_echo_2 ⟨by decide, by decide⟩) (fun r1 H locs h hI => ?_)
  refine lv_istore (lv' := [(5, .int r1), (0, .ref (a 0)), (1, .ref (a 5)), (2, .int p2), (3, .int p3), (4, .int p4)]) hx hb dX7_echo_5 hl (by decide) rfl (fun ls hl => ?_)
  refine lv_aload_n hx hb dX7_echo_7 rfl (lv_at hl 2 rfl) ?_
  refine lv_iload_n hx hb dX7_echo_8 rfl (lv_at hl 3 rfl) ?_
  refine lv_iload hx hb dX7_echo_9 (lv_at hl 5 rfl) ?_
  obtain ⟨K53, hK53, h⟩ := h
  have J53 : ∀ (v2 : Int32) (H : Heap) (locs : List Loc) (ls : Array Slot), K53 v2 → rpI dC dI a kA (rpA a sz) s M L H locs → lv_has ls 6 [(0, .ref (a 0)), (1, .ref (a 5)), (2, .int p2), (3, .int p3), (4, .int p4), (5, .int r1)] → W p l e rm_X7_echo_0_5 s m (av_X7_echo_0_5 a t p2 p3 p4).toArray below meth c H locs 0 0 (MQ below (qc_X7_echo_0_5 dC dI a kA sz M L Z) (av_X7_echo_0_5 a t p2 p3 p4).toArray s 0 0 (rpA a sz)) (F0 m 53 ls [.int v2, .int p2, .ref (a 5)]) := by
    intro v2 H locs ls h hI hl
    have h := hK53 v2 h
    refine lv_i2b hx hb dX7_echo_53 rfl ?_
    refine rpbast hx hb hK hI 5 4 rfl rfl h.1 (rpset_5 _ _ _ _ _ _) dX7_echo_54 (fun H locs M3 eM3 hI => ?_)
    have h := h.2 M3 eM3
    refine lv_aload_n hx hb dX7_echo_55 rfl (lv_at hl 0 rfl) ?_
    refine lv_lconst (v := (0 : Int64)) hx hb dX7_echo_56 (by decide) ?_
    refine rpputl (ci := 6) (C := RX7) (T := TX7) (N := 44) (ty := .long) hx hb hu uX7 tyX7 tyX7_ok nmX7 hown hK hI 0 rfl rfl 18 (by decide) (hu _ uww_593) (fun _ h9 => h9) rfl (by decide +kernel) rfl rfl (Nat.le_of_ble_eq_true rfl) (rpset_0_18 _ _ _ _ _) dX7_echo_57 (fun H locs L4 eL4 hI => ?_)
    have h := h L4 eL4
    refine lv_aload_n hx hb dX7_echo_60 rfl (lv_at hl 0 rfl) ?_
    refine lv_aload_n hx hb dX7_echo_61 rfl (lv_at hl 1 rfl) ?_
    refine lv_iload_n hx hb dX7_echo_62 rfl (lv_at hl 2 rfl) ?_
    refine lv_iconst (v := (2 : Int32)) hx hb dX7_echo_63 (by decide) ?_
    refine lv_iadd hx hb dX7_echo_64 ?_
    refine rpcalli_p hsz hI (va_runS (As := [.ref (a 5), .int (p2 + (2 : Int32))]) (rest := [.ref (a 0)]) ⟨hx, hb, hml, hown, hu⟩ (met_X7_twoAt_5 l dC dI a kA t _ M3 L4 (p2 + (2 : Int32)) _ h) (cwl_X7_115_S hu ⟨by decide, by decide⟩) (rppreS hK hE hsz hI) rfl rfl hl.1 rfl (lv_room (Nat.le_of_ble_eq_true rfl)) dX7_echo_65 ⟨by decide, by decide⟩) (fun r5 H locs h hI => ?_)
    refine rpcallv_l hsz hI (va_runV (As := [.int r5]) (rest := []) ⟨hx, hb, hml, hown, hu⟩ (met_X7_turned_0 l dC dI a kA t _ M3 L4 r5 _ h) (cwl_X7_171_X7 hu ⟨by decide, by decide⟩) (rppre (ci := 6) hK hE hsz hI rfl rfl) rfl rfl hl.1 rfl (lv_room (Nat.le_of_ble_eq_true rfl)) dX7_echo_68 ⟨by decide, by decide⟩) (fun L6 H locs h hI => ?_)
    refine lv_aload_n hx hb dX7_echo_71 rfl (lv_at hl 0 rfl) ?_
    refine lv_iload hx hb dX7_echo_72 (lv_at hl 5 rfl) ?_
    refine rpcallv_l hsz hI (va_runV (As := [.int r1]) (rest := []) ⟨hx, hb, hml, hown, hu⟩ (met_X7_turned_0 l dC dI a kA t _ M3 L6 r1 _ h) (cwl_X7_171_X7 hu ⟨by decide, by decide⟩) (rppre (ci := 6) hK hE hsz hI rfl rfl) rfl rfl hl.1 rfl (lv_room (Nat.le_of_ble_eq_true rfl)) dX7_echo_74 ⟨by decide, by decide⟩) (fun L7 H locs h hI => ?_)
    refine lv_iload hx hb dX7_echo_77 (lv_at hl 4 rfl) ?_
    obtain ⟨K90, hK90, h⟩ := h
    have J90 : ∀ (L8 : cL) (H : Heap) (locs : List Loc) (ls : Array Slot), K90 L8 → rpI dC dI a kA (rpA a sz) s M3 L8 H locs → lv_has ls 6 [(0, .ref (a 0)), (1, .ref (a 5)), (2, .int p2), (3, .int p3), (4, .int p4)] → W p l e rm_X7_echo_0_5 s m (av_X7_echo_0_5 a t p2 p3 p4).toArray below meth c H locs 0 0 (MQ below (qc_X7_echo_0_5 dC dI a kA sz M L Z) (av_X7_echo_0_5 a t p2 p3 p4).toArray s 0 0 (rpA a sz)) (F0 m 90 ls []) := by
      intro L8 H locs ls h hI hl
      have h := hK90 L8 h
      refine lv_aload_n hx hb dX7_echo_90 rfl (lv_at hl 0 rfl) ?_
      refine lv_aload_n hx hb dX7_echo_91 rfl (lv_at hl 1 rfl) ?_
      refine lv_iload_n hx hb dX7_echo_92 rfl (lv_at hl 2 rfl) ?_
      refine rpcalli_p hsz hI (va_runS (As := [.ref (a 5), .int p2]) (rest := [.ref (a 0)]) ⟨hx, hb, hml, hown, hu⟩ (met_X7_twoAt_5 l dC dI a kA t _ M3 L8 p2 _ h) (cwl_X7_115_S hu ⟨by decide, by decide⟩) (rppreS hK hE hsz hI) rfl rfl hl.1 rfl (lv_room (Nat.le_of_ble_eq_true rfl)) dX7_echo_93 ⟨by decide, by decide⟩) (fun r9 H locs h hI => ?_)
      refine rpcallv_l hsz hI (va_runV (As := [.int r9]) (rest := []) ⟨hx, hb, hml, hown, hu⟩ (met_X7_word_0 l dC dI a kA t _ M3 L8 r9 _ h) (cwl_X7_108_X7 hu ⟨by decide, by decide⟩) (rppre (ci := 6) hK hE hsz hI rfl rfl) rfl rfl hl.1 rfl (lv_room (Nat.le_of_ble_eq_true rfl)) dX7_echo_96 ⟨by decide, by decide⟩) (fun L10 H locs h hI => ?_)
      refine lv_iload hx hb dX7_echo_99 (lv_at hl 4 rfl) ?_
      obtain ⟨K112, hK112, h⟩ := h
      have J112 : ∀ (L11 : cL) (H : Heap) (locs : List Loc) (ls : Array Slot), K112 L11 → rpI dC dI a kA (rpA a sz) s M3 L11 H locs → lv_has ls 6 [(0, .ref (a 0)), (1, .ref (a 5)), (2, .int p2)] → W p l e rm_X7_echo_0_5 s m (av_X7_echo_0_5 a t p2 p3 p4).toArray below meth c H locs 0 0 (MQ below (qc_X7_echo_0_5 dC dI a kA sz M L Z) (av_X7_echo_0_5 a t p2 p3 p4).toArray s 0 0 (rpA a sz)) (F0 m 112 ls []) := by
        intro L11 H locs ls h hI hl
        have h := hK112 L11 h
        refine lv_aload_n hx hb dX7_echo_112 rfl (lv_at hl 1 rfl) ?_
        refine lv_iload_n hx hb dX7_echo_113 rfl (lv_at hl 2 rfl) ?_
        refine lv_iconst (v := (2 : Int32)) hx hb dX7_echo_114 (by decide) ?_
        refine lv_iadd hx hb dX7_echo_115 ?_
        refine lv_aload_n hx hb dX7_echo_116 rfl (lv_at hl 0 rfl) ?_
        refine rpcalli_p hsz hI (va_runV (As := []) (rest := [.int (p2 + (2 : Int32)), .ref (a 5)]) ⟨hx, hb, hml, hown, hu⟩ (met_X7_checksum_0 l dC dI a kA t _ M3 L11  _ h) (cwl_X7_177_X7 hu ⟨by decide, by decide⟩) (rppre (ci := 6) hK hE hsz hI rfl rfl) rfl rfl hl.1 rfl (lv_room (Nat.le_of_ble_eq_true rfl)) dX7_echo_117 ⟨by decide, by decide⟩) (fun r12 H locs h hI => ?_)
        refine rpcallv_m hsz hI (va_runS (As := [.ref (a 5), .int (p2 + (2 : Int32)), .int r12]) (rest := []) ⟨hx, hb, hml, hown, hu⟩ (met_X7_putTwo_5 l dC dI a kA t _ M3 L11 (p2 + (2 : Int32)) r12 _ h) (cwl_X7_121_S hu ⟨by decide, by decide⟩) (rppreS hK hE hsz hI) rfl rfl hl.1 rfl (lv_room (Nat.le_of_ble_eq_true rfl)) dX7_echo_120 ⟨by decide, by decide⟩) (fun M13 H locs h hI => ?_)
        exact rpvret (Z := (fun M' L' => Z M' L')) hx hb hr hlocks hK hI dX7_echo_123 h
      refine lv_if_eq (tgt := 112) hx hb dX7_echo_101 (by decide) (fun c14 => ?_) (fun c14 => ?_)
      · have h := h.1 c14
        exact J112 L10 _ _ _ h hI (lv_sub hl [0, 1, 2] rfl)
      · have h := h.2 c14
        refine lv_aload_n hx hb dX7_echo_104 rfl (lv_at hl 0 rfl) ?_
        refine lv_iload_n hx hb dX7_echo_105 rfl (lv_at hl 3 rfl) ?_
        refine lv_bipush (v := (58 : Int32)) hx hb dX7_echo_106 (by decide) ?_
        refine lv_iconst (v := (0 : Int32)) hx hb dX7_echo_108 (by decide) ?_
        refine rpcallv_l hsz hI (va_runV (As := [.int p3, .int (58 : Int32), .int (0 : Int32)]) (rest := []) ⟨hx, hb, hml, hown, hu⟩ (met_X7_pseudo_0 l dC dI a kA t _ M3 L10 p3 (58 : Int32) (0 : Int32) _ h) (cwl_X7_181_X7 hu ⟨by decide, by decide⟩) (rppre (ci := 6) hK hE hsz hI rfl rfl) rfl rfl hl.1 rfl (lv_room (Nat.le_of_ble_eq_true rfl)) dX7_echo_109 ⟨by decide, by decide⟩) (fun L15 H locs h hI => ?_)
        exact J112 L15 _ _ _ h hI (lv_sub hl [0, 1, 2] rfl)
    refine lv_if_ne (tgt := 90) hx hb dX7_echo_79 (by decide) (fun c16 => ?_) (fun c16 => ?_)
    · have h := h.1 c16
      exact J90 L7 _ _ _ h hI (lv_sub hl [0, 1, 2, 3, 4] rfl)
    · have h := h.2 c16
      refine lv_aload_n hx hb dX7_echo_82 rfl (lv_at hl 0 rfl) ?_
      refine lv_iload_n hx hb dX7_echo_83 rfl (lv_at hl 3 rfl) ?_
      refine lv_bipush (v := (58 : Int32)) hx hb dX7_echo_84 (by decide) ?_
      refine lv_iconst (v := (1 : Int32)) hx hb dX7_echo_86 (by decide) ?_
      refine rpcallv_l hsz hI (va_runV (As := [.int p3, .int (58 : Int32), .int (1 : Int32)]) (rest := []) ⟨hx, hb, hml, hown, hu⟩ (met_X7_pseudo_0 l dC dI a kA t _ M3 L7 p3 (58 : Int32) (1 : Int32) _ h) (cwl_X7_181_X7 hu ⟨by decide, by decide⟩) (rppre (ci := 6) hK hE hsz hI rfl rfl) rfl rfl hl.1 rfl (lv_room (Nat.le_of_ble_eq_true rfl)) dX7_echo_87 ⟨by decide, by decide⟩) (fun L17 H locs h hI => ?_)
      exact J90 L17 _ _ _ h hI (lv_sub hl [0, 1, 2, 3, 4] rfl)
  refine lv_if_eq (tgt := 36) hx hb dX7_echo_11 (by decide) (fun c18 => ?_) (fun c18 => ?_)
  · have h := h.1 c18
    refine lv_iload hx hb dX7_echo_36 (lv_at hl 0 rfl) ?_
    refine lv_bipush (v := (8 : Int32)) hx hb dX7_echo_38 (by decide) ?_
    refine lv_ishr hx hb dX7_echo_40 ?_
    refine lv_sipush (v := (128 : Int32)) hx hb dX7_echo_41 (by decide) ?_
    refine lv_icmp_ne (tgt := 52) hx hb dX7_echo_44 (by decide) (fun c19 => ?_) (fun c19 => ?_)
    · have h := h.1 c19
      refine lv_iconst (v := (0 : Int32)) hx hb dX7_echo_52 (by decide) ?_
      exact J53 (0 : Int32) _ _ _ h hI (lv_sub hl [1, 2, 3, 4, 5, 0] rfl)
    · have h := h.2 c19
      refine lv_bipush (v := (8 : Int32)) hx hb dX7_echo_47 (by decide) ?_
      refine lv_goto (tgt := 53) hx hb dX7_echo_49 (by decide) ?_
      exact J53 (8 : Int32) _ _ _ h hI (lv_sub hl [1, 2, 3, 4, 5, 0] rfl)
  · have h := h.2 c18
    refine lv_iload hx hb dX7_echo_14 (lv_at hl 0 rfl) ?_
    refine lv_bipush (v := (8 : Int32)) hx hb dX7_echo_16 (by decide) ?_
    refine lv_ishr hx hb dX7_echo_18 ?_
    refine lv_bipush (v := (8 : Int32)) hx hb dX7_echo_19 (by decide) ?_
    refine lv_icmp_ne (tgt := 30) hx hb dX7_echo_21 (by decide) (fun c20 => ?_) (fun c20 => ?_)
    · have h := h.1 c20
      refine lv_sipush (v := (129 : Int32)) hx hb dX7_echo_30 (by decide) ?_
      refine lv_goto (tgt := 53) hx hb dX7_echo_33 (by decide) ?_
      exact J53 (129 : Int32) _ _ _ h hI (lv_sub hl [1, 2, 3, 4, 5, 0] rfl)
    · have h := h.2 c20
      refine lv_sipush (v := (128 : Int32)) hx hb dX7_echo_24 (by decide) ?_
      refine lv_goto (tgt := 53) hx hb dX7_echo_27 (by decide) ?_
      exact J53 (128 : Int32) _ _ _ h hI (lv_sub hl [1, 2, 3, 4, 5, 0] rfl)

abbrev rm_X7_error_0 : Room := { frames := 0, cells := 0, slots := 0, locals := 0 }
abbrev av_X7_error_0 (a t : Nat → Nat) (p1 : Int32) (p2 : Int32) (p3 : Int32) : List Value := [.ref (a 0), .int p1, .int p2, .int p3]
abbrev qc_X7_error_0 (dC : Nat → ClassId) (dI : Nat → Nat → Nat) (a : Nat → Nat) (kA : Nat → ClassId) (sz : Nat) (M : cM) (L : cL) (Z : cM → Prop) : Array Value → State → Outcome → State → Prop := va_Qv (fun (u : cM × cL) => u.2 = L ∧ Z u.1) (rpAt dC dI a kA (rpA a sz)) (rpA a sz)
set_option maxHeartbeats 4000000 in
set_option maxRecDepth 100000 in
theorem met_X7_error_0 (l : Launch) (dC : Nat → ClassId) (dI : Nat → Nat → Nat) (a : Nat → Nat) (kA : Nat → ClassId) (t : Nat → Nat) (sz : Nat) (M : cM) (L : cL) (p1 : Int32) (p2 : Int32) (p3 : Int32) (Z : cM → Prop) (h : wp_X7_error_0 M L p1 p2 p3 Z) : Met l yX7_error (Cond.code yX7_error cX7_error 4 none :: uW) rm_X7_error_0 (va_Pc (av_X7_error_0 a t p1 p2 p3) (rpPre dC dI a kA t M L sz)) (qc_X7_error_0 dC dI a kA sz M L Z) 0 0 (rpA a sz) := by
  refine rpenter (cc := cX7_error) (n := 4) (ret := none) (by decide) rfl (Nat.le_of_ble_eq_true rfl) ?_
  intro p e s m below meth c ls hx hb hml hr hlocks hown hts hK hE hsz hI hl hmn
  have hu : ∀ w ∈ uW, w.before (av_X7_error_0 a t p1 p2 p3).toArray s = true := fun w h => hts w (List.mem_cons_of_mem _ h)
  have hown : s.vm.findClass RX7 = some m.cls := hown
  have hl : lv_has ls 4 [(0, .ref (a 0)), (1, .int p1), (2, .int p2), (3, .int p3)] := hl
  unfold wp_X7_error_0 at h
  refine lv_aload_n hx hb dX7_error_0 rfl (lv_at hl 0 rfl) ?_
  refine lv_iload_n hx hb dX7_error_1 rfl (lv_at hl 1 rfl) ?_
  refine rpput (ci := 6) (C := RX7) (T := TX7) (N := 44) (ty := .int) hx hb hu uX7 tyX7 tyX7_ok nmX7 hown hK hI 0 rfl rfl 37 (by decide) (hu _ uww_726) (fun _ h9 => h9) rfl (by decide +kernel) rfl rfl (Nat.le_of_ble_eq_true rfl) (rpset_0_37 _ _ _ _ _) dX7_error_2 (fun H locs M1 eM1 hI => ?_)
  have h := h M1 eM1
  refine lv_aload_n hx hb dX7_error_5 rfl (lv_at hl 0 rfl) ?_
  refine lv_iload_n hx hb dX7_error_6 rfl (lv_at hl 2 rfl) ?_
  refine rpput (ci := 6) (C := RX7) (T := TX7) (N := 44) (ty := .int) hx hb hu uX7 tyX7 tyX7_ok nmX7 hown hK hI 0 rfl rfl 38 (by decide) (hu _ uww_727) (fun _ h9 => h9) rfl (by decide +kernel) rfl rfl (Nat.le_of_ble_eq_true rfl) (rpset_0_38 _ _ _ _ _) dX7_error_7 (fun H locs M2 eM2 hI => ?_)
  have h := h M2 eM2
  refine lv_aload_n hx hb dX7_error_10 rfl (lv_at hl 0 rfl) ?_
  refine lv_iload_n hx hb dX7_error_11 rfl (lv_at hl 3 rfl) ?_
  refine rpput (ci := 6) (C := RX7) (T := TX7) (N := 44) (ty := .int) hx hb hu uX7 tyX7 tyX7_ok nmX7 hown hK hI 0 rfl rfl 39 (by decide) (hu _ uww_728) (fun _ h9 => h9) rfl (by decide +kernel) rfl rfl (Nat.le_of_ble_eq_true rfl) (rpset_0_39 _ _ _ _ _) dX7_error_12 (fun H locs M3 eM3 hI => ?_)
  have h := h M3 eM3
  exact rpvret (Z := (fun M' L' => L' = L ∧ Z M')) hx hb hr hlocks hK hI dX7_error_15 ⟨rfl, h⟩

theorem rpx_get (a : Nat → Nat) (kA : Nat → ClassId) (M : cM) (L : cL) (q : Nat) (e : va_E) : (rpWd a kA M L ++ [(q, e)])[6]? = some (q, e) := rfl
theorem rpx_set (a : Nat → Nat) (kA : Nat → ClassId) (M : cM) (L : cL) (q : Nat) (e e1 : va_E) : (rpWd a kA M L ++ [(q, e)]).set 6 (q, e1) = rpWd a kA M L ++ [(q, e1)] := rfl

abbrev rm_X7_plateau : Room := { frames := 0, cells := 1, slots := 11, locals := 0 }
abbrev av_X7_plateau (a t : Nat → Nat) (p0 : Int32) : List Value := [.int p0]
abbrev qc_X7_plateau (dC : Nat → ClassId) (dI : Nat → Nat → Nat) (a : Nat → Nat) (kA : Nat → ClassId) (sz : Nat) (M : cM) (L : cL) (Z : Int32 → Prop) : Array Value → State → Outcome → State → Prop := va_Qi (fun r (u : cM × cL) => u.1 = M ∧ u.2 = L ∧ Z r) (rpAt dC dI a kA (rpA a sz)) (rpA a sz)
set_option maxHeartbeats 4000000 in
set_option maxRecDepth 100000 in
theorem met_X7_plateau (l : Launch) (dC : Nat → ClassId) (dI : Nat → Nat → Nat) (a : Nat → Nat) (kA : Nat → ClassId) (t : Nat → Nat) (sz : Nat) (M : cM) (L : cL) (p0 : Int32) (Z : Int32 → Prop) (h : wp_X7_plateau M L p0 Z) : Met l yX7_plateau (Cond.code yX7_plateau cX7_plateau 3 (some .int) :: uW) rm_X7_plateau (va_Pc (av_X7_plateau a t p0) (rpPre dC dI a kA t M L sz)) (qc_X7_plateau dC dI a kA sz M L Z) 1 11 (rpA a sz) := by
  refine rpenter (cc := cX7_plateau) (n := 3) (ret := (some .int)) (by decide) rfl (Nat.le_of_ble_eq_true rfl) ?_
  intro p e s m below meth c ls hx hb hml hr hlocks hown hts hK hE hsz hI hl hmn
  have hu : ∀ w ∈ uW, w.before (av_X7_plateau a t p0).toArray s = true := fun w h => hts w (List.mem_cons_of_mem _ h)
  have hl : lv_has ls 3 [(0, .int p0)] := hl
  unfold wp_X7_plateau at h
  have hA : ∀ q, s.heap.size ≤ q → rpA a sz q := fun q h => Or.inr (by rw [← hsz]; exact h)
  refine lv_bipush (v := (11 : Int32)) hx hb dX7_plateau_0 (by decide) ?_
  refine va_newa (atype := .int) (n := (11 : Int32)) (N' := 11) (a0 := (11, .inl (fun _ => 0))) (ty := .int) hx hb (hu (.arrayClass .int) uww_129) rfl hK hI.1 hI.2.1 hI.2.2 hA (fun cA => rfl) (by decide) (by decide) (by decide) (by decide) (by decide) dX7_plateau_2 (fun q cA H hK hP hD hS => ?_)
  obtain ⟨f0, ef0⟩ : ∃ z : Nat → Int32, z = (fun _ => 0) := ⟨_, rfl⟩
  rw [← ef0] at hP hD
  have h := h f0 ef0
  refine W.widen (k := 1) (n := 11) (by decide) (by decide) ?_
  refine lv_dup hx hb dX7_plateau_4 rfl ?_
  refine lv_iconst (v := (0 : Int32)) hx hb dX7_plateau_5 (by decide) ?_
  refine lv_ldc (own := RX7) (v := (65535 : Int32)) hx hb hown (hu _ uww_596) dX7_plateau_6 ?_
  refine va_iast hx hb hK hP hD hS 6 5 (rpx_get _ _ _ _ _ _) rfl (by unfold vp_in; decide) dX7_plateau_8 (fun H locs hP hD hS => ?_)
  obtain ⟨f1, ef1⟩ : ∃ z : Nat → Int32, z = upd f0 (0 : Int32).toNatClampNeg (65535 : Int32) := ⟨_, rfl⟩
  rw [rpx_set, ← ef1] at hP hD
  have h := h f1 ef1
  refine lv_dup hx hb dX7_plateau_9 rfl ?_
  refine lv_iconst (v := (1 : Int32)) hx hb dX7_plateau_10 (by decide) ?_
  refine lv_sipush (v := (32000 : Int32)) hx hb dX7_plateau_11 (by decide) ?_
  refine va_iast hx hb hK hP hD hS 6 5 (rpx_get _ _ _ _ _ _) rfl (by unfold vp_in; decide) dX7_plateau_14 (fun H locs hP hD hS => ?_)
  obtain ⟨f2, ef2⟩ : ∃ z : Nat → Int32, z = upd f1 (1 : Int32).toNatClampNeg (32000 : Int32) := ⟨_, rfl⟩
  rw [rpx_set, ← ef2] at hP hD
  have h := h f2 ef2
  refine lv_dup hx hb dX7_plateau_15 rfl ?_
  refine lv_iconst (v := (2 : Int32)) hx hb dX7_plateau_16 (by decide) ?_
  refine lv_sipush (v := (17914 : Int32)) hx hb dX7_plateau_17 (by decide) ?_
  refine va_iast hx hb hK hP hD hS 6 5 (rpx_get _ _ _ _ _ _) rfl (by unfold vp_in; decide) dX7_plateau_20 (fun H locs hP hD hS => ?_)
  obtain ⟨f3, ef3⟩ : ∃ z : Nat → Int32, z = upd f2 (2 : Int32).toNatClampNeg (17914 : Int32) := ⟨_, rfl⟩
  rw [rpx_set, ← ef3] at hP hD
  have h := h f3 ef3
  refine lv_dup hx hb dX7_plateau_21 rfl ?_
  refine lv_iconst (v := (3 : Int32)) hx hb dX7_plateau_22 (by decide) ?_
  refine lv_sipush (v := (8166 : Int32)) hx hb dX7_plateau_23 (by decide) ?_
  refine va_iast hx hb hK hP hD hS 6 5 (rpx_get _ _ _ _ _ _) rfl (by unfold vp_in; decide) dX7_plateau_26 (fun H locs hP hD hS => ?_)
  obtain ⟨f4, ef4⟩ : ∃ z : Nat → Int32, z = upd f3 (3 : Int32).toNatClampNeg (8166 : Int32) := ⟨_, rfl⟩
  rw [rpx_set, ← ef4] at hP hD
  have h := h f4 ef4
  refine lv_dup hx hb dX7_plateau_27 rfl ?_
  refine lv_iconst (v := (4 : Int32)) hx hb dX7_plateau_28 (by decide) ?_
  refine lv_sipush (v := (4352 : Int32)) hx hb dX7_plateau_29 (by decide) ?_
  refine va_iast hx hb hK hP hD hS 6 5 (rpx_get _ _ _ _ _ _) rfl (by unfold vp_in; decide) dX7_plateau_32 (fun H locs hP hD hS => ?_)
  obtain ⟨f5, ef5⟩ : ∃ z : Nat → Int32, z = upd f4 (4 : Int32).toNatClampNeg (4352 : Int32) := ⟨_, rfl⟩
  rw [rpx_set, ← ef5] at hP hD
  have h := h f5 ef5
  refine lv_dup hx hb dX7_plateau_33 rfl ?_
  refine lv_iconst (v := (5 : Int32)) hx hb dX7_plateau_34 (by decide) ?_
  refine lv_sipush (v := (2002 : Int32)) hx hb dX7_plateau_35 (by decide) ?_
  refine va_iast hx hb hK hP hD hS 6 5 (rpx_get _ _ _ _ _ _) rfl (by unfold vp_in; decide) dX7_plateau_38 (fun H locs hP hD hS => ?_)
  obtain ⟨f6, ef6⟩ : ∃ z : Nat → Int32, z = upd f5 (5 : Int32).toNatClampNeg (2002 : Int32) := ⟨_, rfl⟩
  rw [rpx_set, ← ef6] at hP hD
  have h := h f6 ef6
  refine lv_dup hx hb dX7_plateau_39 rfl ?_
  refine lv_bipush (v := (6 : Int32)) hx hb dX7_plateau_40 (by decide) ?_
  refine lv_sipush (v := (1492 : Int32)) hx hb dX7_plateau_42 (by decide) ?_
  refine va_iast hx hb hK hP hD hS 6 5 (rpx_get _ _ _ _ _ _) rfl (by unfold vp_in; decide) dX7_plateau_45 (fun H locs hP hD hS => ?_)
  obtain ⟨f7, ef7⟩ : ∃ z : Nat → Int32, z = upd f6 (6 : Int32).toNatClampNeg (1492 : Int32) := ⟨_, rfl⟩
  rw [rpx_set, ← ef7] at hP hD
  have h := h f7 ef7
  refine lv_dup hx hb dX7_plateau_46 rfl ?_
  refine lv_bipush (v := (7 : Int32)) hx hb dX7_plateau_47 (by decide) ?_
  refine lv_sipush (v := (1006 : Int32)) hx hb dX7_plateau_49 (by decide) ?_
  refine va_iast hx hb hK hP hD hS 6 5 (rpx_get _ _ _ _ _ _) rfl (by unfold vp_in; decide) dX7_plateau_52 (fun H locs hP hD hS => ?_)
  obtain ⟨f8, ef8⟩ : ∃ z : Nat → Int32, z = upd f7 (7 : Int32).toNatClampNeg (1006 : Int32) := ⟨_, rfl⟩
  rw [rpx_set, ← ef8] at hP hD
  have h := h f8 ef8
  refine lv_dup hx hb dX7_plateau_53 rfl ?_
  refine lv_bipush (v := (8 : Int32)) hx hb dX7_plateau_54 (by decide) ?_
  refine lv_sipush (v := (508 : Int32)) hx hb dX7_plateau_56 (by decide) ?_
  refine va_iast hx hb hK hP hD hS 6 5 (rpx_get _ _ _ _ _ _) rfl (by unfold vp_in; decide) dX7_plateau_59 (fun H locs hP hD hS => ?_)
  obtain ⟨f9, ef9⟩ : ∃ z : Nat → Int32, z = upd f8 (8 : Int32).toNatClampNeg (508 : Int32) := ⟨_, rfl⟩
  rw [rpx_set, ← ef9] at hP hD
  have h := h f9 ef9
  refine lv_dup hx hb dX7_plateau_60 rfl ?_
  refine lv_bipush (v := (9 : Int32)) hx hb dX7_plateau_61 (by decide) ?_
  refine lv_sipush (v := (296 : Int32)) hx hb dX7_plateau_63 (by decide) ?_
  refine va_iast hx hb hK hP hD hS 6 5 (rpx_get _ _ _ _ _ _) rfl (by unfold vp_in; decide) dX7_plateau_66 (fun H locs hP hD hS => ?_)
  obtain ⟨f10, ef10⟩ : ∃ z : Nat → Int32, z = upd f9 (9 : Int32).toNatClampNeg (296 : Int32) := ⟨_, rfl⟩
  rw [rpx_set, ← ef10] at hP hD
  have h := h f10 ef10
  refine lv_dup hx hb dX7_plateau_67 rfl ?_
  refine lv_bipush (v := (10 : Int32)) hx hb dX7_plateau_68 (by decide) ?_
  refine lv_bipush (v := (68 : Int32)) hx hb dX7_plateau_70 (by decide) ?_
  refine va_iast hx hb hK hP hD hS 6 5 (rpx_get _ _ _ _ _ _) rfl (by unfold vp_in; decide) dX7_plateau_72 (fun H locs hP hD hS => ?_)
  obtain ⟨f11, ef11⟩ : ∃ z : Nat → Int32, z = upd f10 (10 : Int32).toNatClampNeg (68 : Int32) := ⟨_, rfl⟩
  rw [rpx_set, ← ef11] at hP hD
  have h := h f11 ef11
  generalize f11 = f at hP hD h
  refine lv_astore_n (lv' := [(1, .ref q), (0, .int p0)]) hx hb dX7_plateau_73 rfl hl (by decide) rfl (fun ls hl => ?_)
  refine lv_iconst (v := (0 : Int32)) hx hb dX7_plateau_74 (by decide) ?_
  refine lv_istore_n (lv' := [(2, .int (0 : Int32)), (1, .ref q), (0, .int p0)]) hx hb dX7_plateau_75 rfl hl (by decide) rfl (fun ls hl => ?_)
  obtain ⟨I9, m9, h, hs9⟩ := h
  have P9 : ∀ (n9 : Nat) (x : Int32) (H : Heap) (locs : List Loc) (ls : Array Slot), I9 x → m9 x < n9 → va_P (dC, dI) vwCl (rpWd a kA M L ++ [(q, .inl (cA, 11, .inl f))]) H → va_D (rpA a sz) (rpWd a kA M L ++ [(q, .inl (cA, 11, .inl f))]) → va_S (rpA a sz) s.heap H locs → lv_has ls 3 [(0, .int p0), (1, .ref q), (2, .int x)] → W p l e rm_X7_plateau s m (av_X7_plateau a t p0).toArray below meth c H locs 1 11 (MQ below (qc_X7_plateau dC dI a kA sz M L Z) (av_X7_plateau a t p0).toArray s 1 11 (rpA a sz)) (F0 m 76 ls []) := by
    intro n9
    induction n9 with
    | zero => intro x H locs ls _ hn; exact absurd hn (Nat.not_lt_zero _)
    | succ n9 ih9 =>
      intro x H locs ls h hn9 hP hD hS hl
      have h := hs9 x h
      have hIr : rpI dC dI a kA (rpA a sz) s M L H locs := ⟨hP.sub (ws' := rpWd a kA M L) [0, 1, 2, 3, 4, 5] rfl, hD.sub (ws' := rpWd a kA M L) [0, 1, 2, 3, 4, 5] (by decide) rfl, hS⟩
      have hKr : va_K (dC, dI) vwCl (rpTy kA) s := hK.sub [0, 1, 2, 3, 4] rfl
      refine lv_iload_n hx hb dX7_plateau_76 rfl (lv_at hl 2 rfl) ?_
      refine lv_bipush (v := (11 : Int32)) hx hb dX7_plateau_77 (by decide) ?_
      refine lv_icmp_ge (tgt := 99) hx hb dX7_plateau_79 (by decide) (fun c1 => ?_) (fun c1 => ?_)
      · have h := h.1 c1
        refine lv_bipush (v := (68 : Int32)) hx hb dX7_plateau_99 (by decide) ?_
        exact rpiret (Z := (fun r M' L' => M' = M ∧ L' = L ∧ Z r)) hx hb hr hlocks hKr hIr dX7_plateau_101 ⟨rfl, rfl, h⟩
      · have h := h.2 c1
        refine lv_aload_n hx hb dX7_plateau_82 rfl (lv_at hl 1 rfl) ?_
        refine lv_iload_n hx hb dX7_plateau_83 rfl (lv_at hl 2 rfl) ?_
        refine va_iald hx hb hK hP 6 5 (rpx_get _ _ _ _ _ _) rfl h.1 dX7_plateau_84 ?_
        refine lv_iload_n hx hb dX7_plateau_85 rfl (lv_at hl 0 rfl) ?_
        refine lv_icmp_ge (tgt := 93) hx hb dX7_plateau_86 (by decide) (fun c2 => ?_) (fun c2 => ?_)
        · have hi := h.1
          have h := h.2.1 c2
          obtain ⟨x2, e2⟩ : ∃ y : Int32, y = x + 1 := ⟨_, rfl⟩
          have h := h x2 e2
          refine lv_iinc (v := x2) (lv' := [(2, .int x2), (0, .int p0), (1, .ref q)]) hx hb dX7_plateau_93 hl (k := 2) rfl (by rw [e2]; rfl) (by decide) rfl (fun ls hl => ?_)
          refine lv_goto (tgt := 76) hx hb dX7_plateau_96 (by decide) ?_
          exact ih9 x2 _ _ _ h.1 (Nat.lt_of_lt_of_le h.2 (Nat.le_of_lt_succ hn9)) hP hD hS (lv_sub hl [1, 2, 0] rfl)
        · have hi := h.1
          have h := h.2.2 c2
          refine lv_aload_n hx hb dX7_plateau_89 rfl (lv_at hl 1 rfl) ?_
          refine lv_iload_n hx hb dX7_plateau_90 rfl (lv_at hl 2 rfl) ?_
          refine va_iald hx hb hK hP 6 5 (rpx_get _ _ _ _ _ _) rfl hi dX7_plateau_91 ?_
          exact rpiret (Z := (fun r M' L' => M' = M ∧ L' = L ∧ Z r)) hx hb hr hlocks hKr hIr dX7_plateau_92 ⟨rfl, rfl, h⟩
  exact P9 (m9 0 + 1) 0 _ _ _ h (Nat.lt_succ_self _) hP hD hS (lv_sub hl [2, 1, 0] rfl)

abbrev rm_X7_errorToSix_0 : Room := { frames := 2, cells := 1, slots := 11, locals := 42 }
abbrev av_X7_errorToSix_0 (a t : Nat → Nat) (p1 : Int32) (p2 : Int32) (p3 : Int32) : List Value := [.ref (a 0), .int p1, .int p2, .int p3]
abbrev qc_X7_errorToSix_0 (dC : Nat → ClassId) (dI : Nat → Nat → Nat) (a : Nat → Nat) (kA : Nat → ClassId) (sz : Nat) (M : cM) (L : cL) (Z : Int32 → cM → Prop) : Array Value → State → Outcome → State → Prop := va_Qi (fun r (u : cM × cL) => u.2 = L ∧ Z r u.1) (rpAt dC dI a kA (rpA a sz)) (rpA a sz)
set_option maxHeartbeats 4000000 in
set_option maxRecDepth 100000 in
theorem met_X7_errorToSix_0 (l : Launch) (dC : Nat → ClassId) (dI : Nat → Nat → Nat) (a : Nat → Nat) (kA : Nat → ClassId) (t : Nat → Nat) (sz : Nat) (M : cM) (L : cL) (p1 : Int32) (p2 : Int32) (p3 : Int32) (Z : Int32 → cM → Prop) (h : wp_X7_errorToSix_0 M L p1 p2 p3 Z) : Met l yX7_errorToSix (Cond.code yX7_errorToSix cX7_errorToSix 6 (some .boolean) :: uW) rm_X7_errorToSix_0 (va_Pc (av_X7_errorToSix_0 a t p1 p2 p3) (rpPre dC dI a kA t M L sz)) (qc_X7_errorToSix_0 dC dI a kA sz M L Z) 1 11 (rpA a sz) := by
  refine rpenter (cc := cX7_errorToSix) (n := 6) (ret := (some .boolean)) (by decide) rfl (Nat.le_of_ble_eq_true rfl) ?_
  intro p e s m below meth c ls hx hb hml hr hlocks hown hts hK hE hsz hI hl hmn
  have hu : ∀ w ∈ uW, w.before (av_X7_errorToSix_0 a t p1 p2 p3).toArray s = true := fun w h => hts w (List.mem_cons_of_mem _ h)
  have hown : s.vm.findClass RX7 = some m.cls := hown
  have hl : lv_has ls 6 [(0, .ref (a 0)), (1, .int p1), (2, .int p2), (3, .int p3)] := hl
  unfold wp_X7_errorToSix_0 at h
  refine lv_iload_n hx hb dX7_errorToSix_0 rfl (lv_at hl 1 rfl) ?_
  refine lv_bipush (v := (11 : Int32)) hx hb dX7_errorToSix_1 (by decide) ?_
  refine lv_icmp_ne (tgt := 15) hx hb dX7_errorToSix_3 (by decide) (fun c1 => ?_) (fun c1 => ?_)
  · have h := h.1 c1
    refine lv_iload_n hx hb dX7_errorToSix_15 rfl (lv_at hl 1 rfl) ?_
    refine lv_bipush (v := (12 : Int32)) hx hb dX7_errorToSix_16 (by decide) ?_
    refine lv_icmp_ne (tgt := 145) hx hb dX7_errorToSix_18 (by decide) (fun c2 => ?_) (fun c2 => ?_)
    · have h := h.1 c2
      refine lv_iload_n hx hb dX7_errorToSix_145 rfl (lv_at hl 2 rfl) ?_
      by_cases c146_0 : p2 = (0 : Int32)
      · have h := h.1 c146_0
        refine lv_tableIn (off := 78) (tgt := 224) hx hb dX7_errorToSix_146 (by rw [c146_0]; decide) (by rw [c146_0]; decide) (by rw [c146_0]; rfl) (by decide) ?_
        refine lv_aload_n hx hb dX7_errorToSix_224 rfl (lv_at hl 0 rfl) ?_
        refine lv_iconst (v := (1 : Int32)) hx hb dX7_errorToSix_225 (by decide) ?_
        refine lv_iconst (v := (0 : Int32)) hx hb dX7_errorToSix_226 (by decide) ?_
        refine lv_iconst (v := (0 : Int32)) hx hb dX7_errorToSix_227 (by decide) ?_
        refine rpcallv_m hsz hI (va_runV (As := [.int (1 : Int32), .int (0 : Int32), .int (0 : Int32)]) (rest := []) ⟨hx, hb, hml, hown, hu⟩ (met_X7_error_0 l dC dI a kA t _ M L (1 : Int32) (0 : Int32) (0 : Int32) _ h) (cwl_X7_288_X7 hu ⟨by decide, by decide⟩) (rppre (ci := 6) hK hE hsz hI rfl rfl) rfl rfl hl.1 rfl (lv_room (Nat.le_of_ble_eq_true rfl)) dX7_errorToSix_228 ⟨by decide, by decide⟩) (fun M3 H locs h hI => ?_)
        refine lv_iconst (v := (1 : Int32)) hx hb dX7_errorToSix_231 (by decide) ?_
        refine W.widen (k := 1) (n := 11) (by decide) (by decide) ?_
        exact rpzret (Z := (fun r M' L' => L' = L ∧ Z r M')) hx hb hr hlocks hK hI dX7_errorToSix_232 ⟨isB_1, ⟨rfl, h⟩⟩
      · have h := h.2 c146_0
        by_cases c146_1 : p2 = (1 : Int32)
        · have h := h.1 c146_1
          refine lv_tableIn (off := 78) (tgt := 224) hx hb dX7_errorToSix_146 (by rw [c146_1]; decide) (by rw [c146_1]; decide) (by rw [c146_1]; rfl) (by decide) ?_
          refine lv_aload_n hx hb dX7_errorToSix_224 rfl (lv_at hl 0 rfl) ?_
          refine lv_iconst (v := (1 : Int32)) hx hb dX7_errorToSix_225 (by decide) ?_
          refine lv_iconst (v := (0 : Int32)) hx hb dX7_errorToSix_226 (by decide) ?_
          refine lv_iconst (v := (0 : Int32)) hx hb dX7_errorToSix_227 (by decide) ?_
          refine rpcallv_m hsz hI (va_runV (As := [.int (1 : Int32), .int (0 : Int32), .int (0 : Int32)]) (rest := []) ⟨hx, hb, hml, hown, hu⟩ (met_X7_error_0 l dC dI a kA t _ M L (1 : Int32) (0 : Int32) (0 : Int32) _ h) (cwl_X7_288_X7 hu ⟨by decide, by decide⟩) (rppre (ci := 6) hK hE hsz hI rfl rfl) rfl rfl hl.1 rfl (lv_room (Nat.le_of_ble_eq_true rfl)) dX7_errorToSix_228 ⟨by decide, by decide⟩) (fun M4 H locs h hI => ?_)
          refine lv_iconst (v := (1 : Int32)) hx hb dX7_errorToSix_231 (by decide) ?_
          refine W.widen (k := 1) (n := 11) (by decide) (by decide) ?_
          exact rpzret (Z := (fun r M' L' => L' = L ∧ Z r M')) hx hb hr hlocks hK hI dX7_errorToSix_232 ⟨isB_1, ⟨rfl, h⟩⟩
        · have h := h.2 c146_1
          by_cases c146_2 : p2 = (2 : Int32)
          · have h := h.1 c146_2
            refine lv_tableIn (off := 87) (tgt := 233) hx hb dX7_errorToSix_146 (by rw [c146_2]; decide) (by rw [c146_2]; decide) (by rw [c146_2]; rfl) (by decide) ?_
            refine lv_aload_n hx hb dX7_errorToSix_233 rfl (lv_at hl 0 rfl) ?_
            refine lv_iconst (v := (4 : Int32)) hx hb dX7_errorToSix_234 (by decide) ?_
            refine lv_iconst (v := (1 : Int32)) hx hb dX7_errorToSix_235 (by decide) ?_
            refine lv_bipush (v := (6 : Int32)) hx hb dX7_errorToSix_236 (by decide) ?_
            refine rpcallv_m hsz hI (va_runV (As := [.int (4 : Int32), .int (1 : Int32), .int (6 : Int32)]) (rest := []) ⟨hx, hb, hml, hown, hu⟩ (met_X7_error_0 l dC dI a kA t _ M L (4 : Int32) (1 : Int32) (6 : Int32) _ h) (cwl_X7_288_X7 hu ⟨by decide, by decide⟩) (rppre (ci := 6) hK hE hsz hI rfl rfl) rfl rfl hl.1 rfl (lv_room (Nat.le_of_ble_eq_true rfl)) dX7_errorToSix_238 ⟨by decide, by decide⟩) (fun M5 H locs h hI => ?_)
            refine lv_iconst (v := (1 : Int32)) hx hb dX7_errorToSix_241 (by decide) ?_
            refine W.widen (k := 1) (n := 11) (by decide) (by decide) ?_
            exact rpzret (Z := (fun r M' L' => L' = L ∧ Z r M')) hx hb hr hlocks hK hI dX7_errorToSix_242 ⟨isB_1, ⟨rfl, h⟩⟩
          · have h := h.2 c146_2
            by_cases c146_3 : p2 = (3 : Int32)
            · have h := h.1 c146_3
              refine lv_tableIn (off := 97) (tgt := 243) hx hb dX7_errorToSix_146 (by rw [c146_3]; decide) (by rw [c146_3]; decide) (by rw [c146_3]; rfl) (by decide) ?_
              refine lv_aload_n hx hb dX7_errorToSix_243 rfl (lv_at hl 0 rfl) ?_
              refine lv_iconst (v := (1 : Int32)) hx hb dX7_errorToSix_244 (by decide) ?_
              refine lv_iconst (v := (4 : Int32)) hx hb dX7_errorToSix_245 (by decide) ?_
              refine lv_iconst (v := (0 : Int32)) hx hb dX7_errorToSix_246 (by decide) ?_
              refine rpcallv_m hsz hI (va_runV (As := [.int (1 : Int32), .int (4 : Int32), .int (0 : Int32)]) (rest := []) ⟨hx, hb, hml, hown, hu⟩ (met_X7_error_0 l dC dI a kA t _ M L (1 : Int32) (4 : Int32) (0 : Int32) _ h) (cwl_X7_288_X7 hu ⟨by decide, by decide⟩) (rppre (ci := 6) hK hE hsz hI rfl rfl) rfl rfl hl.1 rfl (lv_room (Nat.le_of_ble_eq_true rfl)) dX7_errorToSix_247 ⟨by decide, by decide⟩) (fun M6 H locs h hI => ?_)
              refine lv_iconst (v := (1 : Int32)) hx hb dX7_errorToSix_250 (by decide) ?_
              refine W.widen (k := 1) (n := 11) (by decide) (by decide) ?_
              exact rpzret (Z := (fun r M' L' => L' = L ∧ Z r M')) hx hb hr hlocks hK hI dX7_errorToSix_251 ⟨isB_1, ⟨rfl, h⟩⟩
            · have h := h.2 c146_3
              by_cases c146_4 : p2 = (4 : Int32)
              · have h := h.1 c146_4
                refine lv_tableIn (off := 115) (tgt := 261) hx hb dX7_errorToSix_146 (by rw [c146_4]; decide) (by rw [c146_4]; decide) (by rw [c146_4]; rfl) (by decide) ?_
                refine lv_aload_n hx hb dX7_errorToSix_261 rfl (lv_at hl 0 rfl) ?_
                refine va_get (D := (dC, dI)) (ci := 6) (v := .ref (a 5)) (C := RX7) (T := TX7) (N := 44) hx hb hu uX7 hown hK hI.1 0 rfl rfl 23 (by decide) (hu _ uww_554) (fun _ h9 => h9) rfl dX7_errorToSix_262 ?_
                refine lv_bipush (v := (6 : Int32)) hx hb dX7_errorToSix_265 (by decide) ?_
                refine rpcalli_p hsz hI (va_runS (As := [.ref (a 5), .int (6 : Int32)]) (rest := []) ⟨hx, hb, hml, hown, hu⟩ (met_X7_twoAt_5 l dC dI a kA t _ M L (6 : Int32) _ h) (cwl_X7_115_S hu ⟨by decide, by decide⟩) (rppreS hK hE hsz hI) rfl rfl hl.1 rfl (lv_room (Nat.le_of_ble_eq_true rfl)) dX7_errorToSix_267 ⟨by decide, by decide⟩) (fun r7 H locs h hI => ?_)
                refine lv_istore (lv' := [(4, .int r7), (0, .ref (a 0)), (1, .int p1), (2, .int p2), (3, .int p3)]) hx hb dX7_errorToSix_270 hl (by decide) rfl (fun ls hl => ?_)
                refine lv_iload hx hb dX7_errorToSix_272 (lv_at hl 0 rfl) ?_
                obtain ⟨K302, hK302, h⟩ := h
                have J302 : ∀ (x8 : Int32) (H : Heap) (locs : List Loc) (ls : Array Slot), K302 x8 → rpI dC dI a kA (rpA a sz) s M L H locs → lv_has ls 6 [(0, .ref (a 0)), (4, .int x8)] → W p l e rm_X7_errorToSix_0 s m (av_X7_errorToSix_0 a t p1 p2 p3).toArray below meth c H locs 1 11 (MQ below (qc_X7_errorToSix_0 dC dI a kA sz M L Z) (av_X7_errorToSix_0 a t p1 p2 p3).toArray s 1 11 (rpA a sz)) (F0 m 302 ls []) := by
                  intro x8 H locs ls h hI hl
                  have h := hK302 x8 h
                  obtain ⟨x9, ex9⟩ : ∃ y : Int32, y = (x8 + (20 : Int32)) := ⟨_, rfl⟩
                  have h := h x9 ex9
                  refine lv_iinc (v := x9) (lv' := [(4, .int x9), (0, .ref (a 0))]) hx hb dX7_errorToSix_302 hl (k := 1) rfl (by rw [ex9]; rfl) (by decide) rfl (fun ls hl => ?_)
                  refine lv_iload hx hb dX7_errorToSix_305 (lv_at hl 0 rfl) ?_
                  refine lv_aload_n hx hb dX7_errorToSix_307 rfl (lv_at hl 1 rfl) ?_
                  refine va_get (D := (dC, dI)) (ci := 6) (v := .int (M 0 10)) (C := RX7) (T := TX7) (N := 44) hx hb hu uX7 hown hK hI.1 0 rfl rfl 10 (by decide) (hu _ uww_548) (fun _ h9 => h9) rfl dX7_errorToSix_308 ?_
                  obtain ⟨K323, hK323, h⟩ := h
                  have J323 : ∀ (v10 : Int32) (H : Heap) (locs : List Loc) (ls : Array Slot), K323 v10 → rpI dC dI a kA (rpA a sz) s M L H locs → lv_has ls 6 [(0, .ref (a 0))] → W p l e rm_X7_errorToSix_0 s m (av_X7_errorToSix_0 a t p1 p2 p3).toArray below meth c H locs 1 11 (MQ below (qc_X7_errorToSix_0 dC dI a kA sz M L Z) (av_X7_errorToSix_0 a t p1 p2 p3).toArray s 1 11 (rpA a sz)) (F0 m 323 ls [.int v10]) := by
                    intro v10 H locs ls h hI hl
                    have h := hK323 v10 h
                    refine lv_istore (lv' := [(4, .int v10), (0, .ref (a 0))]) hx hb dX7_errorToSix_323 hl (by decide) rfl (fun ls hl => ?_)
                    refine lv_iload hx hb dX7_errorToSix_325 (lv_at hl 0 rfl) ?_
                    refine lv_aload_n hx hb dX7_errorToSix_327 rfl (lv_at hl 1 rfl) ?_
                    refine va_get (D := (dC, dI)) (ci := 6) (v := .int (M 0 9)) (C := RX7) (T := TX7) (N := 44) hx hb hu uX7 hown hK hI.1 0 rfl rfl 9 (by decide) (hu _ uww_547) (fun _ h9 => h9) rfl dX7_errorToSix_328 ?_
                    refine lv_bipush (v := (20 : Int32)) hx hb dX7_errorToSix_331 (by decide) ?_
                    refine lv_iadd hx hb dX7_errorToSix_333 ?_
                    obtain ⟨K349, hK349, h⟩ := h
                    have J349 : ∀ (v11 : Int32) (H : Heap) (locs : List Loc) (ls : Array Slot), K349 v11 → rpI dC dI a kA (rpA a sz) s M L H locs → lv_has ls 6 [(0, .ref (a 0))] → W p l e rm_X7_errorToSix_0 s m (av_X7_errorToSix_0 a t p1 p2 p3).toArray below meth c H locs 1 11 (MQ below (qc_X7_errorToSix_0 dC dI a kA sz M L Z) (av_X7_errorToSix_0 a t p1 p2 p3).toArray s 1 11 (rpA a sz)) (F0 m 349 ls [.int v11]) := by
                      intro v11 H locs ls h hI hl
                      have h := hK349 v11 h
                      refine lv_istore (lv' := [(4, .int v11), (0, .ref (a 0))]) hx hb dX7_errorToSix_349 hl (by decide) rfl (fun ls hl => ?_)
                      refine lv_aload_n hx hb dX7_errorToSix_351 rfl (lv_at hl 1 rfl) ?_
                      refine lv_iconst (v := (2 : Int32)) hx hb dX7_errorToSix_352 (by decide) ?_
                      refine lv_iconst (v := (0 : Int32)) hx hb dX7_errorToSix_353 (by decide) ?_
                      refine lv_iload hx hb dX7_errorToSix_354 (lv_at hl 0 rfl) ?_
                      refine lv_sipush (v := (1280 : Int32)) hx hb dX7_errorToSix_356 (by decide) ?_
                      obtain ⟨K370, hK370, h⟩ := h
                      have J370 : ∀ (v12 : Int32) (H : Heap) (locs : List Loc) (ls : Array Slot), K370 v12 → rpI dC dI a kA (rpA a sz) s M L H locs → lv_has ls 6 [] → W p l e rm_X7_errorToSix_0 s m (av_X7_errorToSix_0 a t p1 p2 p3).toArray below meth c H locs 1 11 (MQ below (qc_X7_errorToSix_0 dC dI a kA sz M L Z) (av_X7_errorToSix_0 a t p1 p2 p3).toArray s 1 11 (rpA a sz)) (F0 m 370 ls [.int v12, .int (0 : Int32), .int (2 : Int32), .ref (a 0)]) := by
                        intro v12 H locs ls h hI hl
                        have h := hK370 v12 h
                        refine rpcallv_m hsz hI (va_runV (As := [.int (2 : Int32), .int (0 : Int32), .int v12]) (rest := []) ⟨hx, hb, hml, hown, hu⟩ (met_X7_error_0 l dC dI a kA t _ M L (2 : Int32) (0 : Int32) v12 _ h) (cwl_X7_288_X7 hu ⟨by decide, by decide⟩) (rppre (ci := 6) hK hE hsz hI rfl rfl) rfl rfl hl.1 rfl (lv_room (Nat.le_of_ble_eq_true rfl)) dX7_errorToSix_370 ⟨by decide, by decide⟩) (fun M13 H locs h hI => ?_)
                        refine lv_iconst (v := (1 : Int32)) hx hb dX7_errorToSix_373 (by decide) ?_
                        exact rpzret (Z := (fun r M' L' => L' = L ∧ Z r M')) hx hb hr hlocks hK hI dX7_errorToSix_374 ⟨isB_1, ⟨rfl, h⟩⟩
                      refine lv_icmp_ge (tgt := 368) hx hb dX7_errorToSix_359 (by decide) (fun c14 => ?_) (fun c14 => ?_)
                      · have h := h.1 c14
                        refine lv_iload hx hb dX7_errorToSix_368 (lv_at hl 0 rfl) ?_
                        exact J370 v11 _ _ _ h hI (lv_sub hl [] rfl)
                      · have h := h.2 c14
                        refine lv_sipush (v := (1280 : Int32)) hx hb dX7_errorToSix_362 (by decide) ?_
                        refine lv_goto (tgt := 370) hx hb dX7_errorToSix_365 (by decide) ?_
                        exact J370 (1280 : Int32) _ _ _ h hI (lv_sub hl [] rfl)
                    refine lv_icmp_ge (tgt := 342) hx hb dX7_errorToSix_334 (by decide) (fun c15 => ?_) (fun c15 => ?_)
                    · have h := h.1 c15
                      refine lv_aload_n hx hb dX7_errorToSix_342 rfl (lv_at hl 1 rfl) ?_
                      refine va_get (D := (dC, dI)) (ci := 6) (v := .int (M 0 9)) (C := RX7) (T := TX7) (N := 44) hx hb hu uX7 hown hK hI.1 0 rfl rfl 9 (by decide) (hu _ uww_547) (fun _ h9 => h9) rfl dX7_errorToSix_343 ?_
                      refine lv_bipush (v := (20 : Int32)) hx hb dX7_errorToSix_346 (by decide) ?_
                      refine lv_iadd hx hb dX7_errorToSix_348 ?_
                      exact J349 ((M 0 9) + (20 : Int32)) _ _ _ h hI (lv_sub hl [1] rfl)
                    · have h := h.2 c15
                      refine lv_iload hx hb dX7_errorToSix_337 (lv_at hl 0 rfl) ?_
                      refine lv_goto (tgt := 349) hx hb dX7_errorToSix_339 (by decide) ?_
                      exact J349 v10 _ _ _ h hI (lv_sub hl [1] rfl)
                  refine lv_icmp_ge (tgt := 319) hx hb dX7_errorToSix_311 (by decide) (fun c16 => ?_) (fun c16 => ?_)
                  · have h := h.1 c16
                    refine lv_aload_n hx hb dX7_errorToSix_319 rfl (lv_at hl 1 rfl) ?_
                    refine va_get (D := (dC, dI)) (ci := 6) (v := .int (M 0 10)) (C := RX7) (T := TX7) (N := 44) hx hb hu uX7 hown hK hI.1 0 rfl rfl 10 (by decide) (hu _ uww_548) (fun _ h9 => h9) rfl dX7_errorToSix_320 ?_
                    exact J323 (M 0 10) _ _ _ h hI (lv_sub hl [1] rfl)
                  · have h := h.2 c16
                    refine lv_iload hx hb dX7_errorToSix_314 (lv_at hl 0 rfl) ?_
                    refine lv_goto (tgt := 323) hx hb dX7_errorToSix_316 (by decide) ?_
                    exact J323 x9 _ _ _ h hI (lv_sub hl [1] rfl)
                refine lv_if_ne (tgt := 302) hx hb dX7_errorToSix_274 (by decide) (fun c17 => ?_) (fun c17 => ?_)
                · have h := h.1 c17
                  refine W.widen (k := 1) (n := 11) (by decide) (by decide) ?_
                  exact J302 r7 _ _ _ h hI (lv_sub hl [1, 0] rfl)
                · have h := h.2 c17
                  refine lv_iload_n hx hb dX7_errorToSix_277 rfl (lv_at hl 4 rfl) ?_
                  refine lv_bipush (v := (12 : Int32)) hx hb dX7_errorToSix_278 (by decide) ?_
                  obtain ⟨K300, hK300, h⟩ := h
                  have J300 : ∀ (v18 : Int32) (H : Heap) (locs : List Loc) (ls : Array Slot), K300 v18 → rpI dC dI a kA (rpA a sz) s M L H locs → lv_has ls 6 [(0, .ref (a 0))] → W p l e rm_X7_errorToSix_0 s m (av_X7_errorToSix_0 a t p1 p2 p3).toArray below meth c H locs 1 11 (MQ below (qc_X7_errorToSix_0 dC dI a kA sz M L Z) (av_X7_errorToSix_0 a t p1 p2 p3).toArray s 1 11 (rpA a sz)) (F0 m 300 ls [.int v18]) := by
                    intro v18 H locs ls h hI hl
                    have h := hK300 v18 h
                    refine lv_istore (lv' := [(4, .int v18), (0, .ref (a 0))]) hx hb dX7_errorToSix_300 hl (by decide) rfl (fun ls hl => ?_)
                    exact J302 v18 _ _ _ h hI (lv_sub hl [1, 0] rfl)
                  refine lv_icmp_ge (tgt := 288) hx hb dX7_errorToSix_280 (by decide) (fun c19 => ?_) (fun c19 => ?_)
                  · have h := h.1 c19
                    refine lv_aload_n hx hb dX7_errorToSix_288 rfl (lv_at hl 1 rfl) ?_
                    refine va_get (D := (dC, dI)) (ci := 6) (v := .ref (a 5)) (C := RX7) (T := TX7) (N := 44) hx hb hu uX7 hown hK hI.1 0 rfl rfl 23 (by decide) (hu _ uww_554) (fun _ h9 => h9) rfl dX7_errorToSix_289 ?_
                    refine lv_bipush (v := (10 : Int32)) hx hb dX7_errorToSix_292 (by decide) ?_
                    refine rpcalli_p hsz hI (va_runS (As := [.ref (a 5), .int (10 : Int32)]) (rest := []) ⟨hx, hb, hml, hown, hu⟩ (met_X7_twoAt_5 l dC dI a kA t _ M L (10 : Int32) _ h) (cwl_X7_115_S hu ⟨by decide, by decide⟩) (rppreS hK hE hsz hI) rfl rfl hl.1 rfl (lv_room (Nat.le_of_ble_eq_true rfl)) dX7_errorToSix_294 ⟨by decide, by decide⟩) (fun r20 H locs h hI => ?_)
                    refine rpcalli_p hsz hI (va_runS (As := [.int r20]) (rest := []) ⟨hx, hb, hml, hown, hu⟩ (met_X7_plateau l dC dI a kA t _ M L r20 _ h) (cwl_X7_292_S hu ⟨by decide, by decide⟩) (rppreS hK hE hsz hI) rfl rfl hl.1 rfl (lv_room (Nat.le_of_ble_eq_true rfl)) dX7_errorToSix_297 ⟨by decide, by decide⟩) (fun r21 H locs h hI => ?_)
                    refine W.widen (k := 1) (n := 11) (by decide) (by decide) ?_
                    exact J300 r21 _ _ _ h hI (lv_sub hl [1] rfl)
                  · have h := h.2 c19
                    refine lv_bipush (v := (68 : Int32)) hx hb dX7_errorToSix_283 (by decide) ?_
                    refine lv_goto (tgt := 300) hx hb dX7_errorToSix_285 (by decide) ?_
                    refine W.widen (k := 1) (n := 11) (by decide) (by decide) ?_
                    exact J300 (68 : Int32) _ _ _ h hI (lv_sub hl [1] rfl)
              · have h := h.2 c146_4
                by_cases c146_5 : p2 = (5 : Int32)
                · have h := h.1 c146_5
                  refine lv_tableIn (off := 78) (tgt := 224) hx hb dX7_errorToSix_146 (by rw [c146_5]; decide) (by rw [c146_5]; decide) (by rw [c146_5]; rfl) (by decide) ?_
                  refine lv_aload_n hx hb dX7_errorToSix_224 rfl (lv_at hl 0 rfl) ?_
                  refine lv_iconst (v := (1 : Int32)) hx hb dX7_errorToSix_225 (by decide) ?_
                  refine lv_iconst (v := (0 : Int32)) hx hb dX7_errorToSix_226 (by decide) ?_
                  refine lv_iconst (v := (0 : Int32)) hx hb dX7_errorToSix_227 (by decide) ?_
                  refine rpcallv_m hsz hI (va_runV (As := [.int (1 : Int32), .int (0 : Int32), .int (0 : Int32)]) (rest := []) ⟨hx, hb, hml, hown, hu⟩ (met_X7_error_0 l dC dI a kA t _ M L (1 : Int32) (0 : Int32) (0 : Int32) _ h) (cwl_X7_288_X7 hu ⟨by decide, by decide⟩) (rppre (ci := 6) hK hE hsz hI rfl rfl) rfl rfl hl.1 rfl (lv_room (Nat.le_of_ble_eq_true rfl)) dX7_errorToSix_228 ⟨by decide, by decide⟩) (fun M22 H locs h hI => ?_)
                  refine lv_iconst (v := (1 : Int32)) hx hb dX7_errorToSix_231 (by decide) ?_
                  refine W.widen (k := 1) (n := 11) (by decide) (by decide) ?_
                  exact rpzret (Z := (fun r M' L' => L' = L ∧ Z r M')) hx hb hr hlocks hK hI dX7_errorToSix_232 ⟨isB_1, ⟨rfl, h⟩⟩
                · have h := h.2 c146_5
                  by_cases c146_6 : p2 = (6 : Int32)
                  · have h := h.1 c146_6
                    refine lv_tableIn (off := 78) (tgt := 224) hx hb dX7_errorToSix_146 (by rw [c146_6]; decide) (by rw [c146_6]; decide) (by rw [c146_6]; rfl) (by decide) ?_
                    refine lv_aload_n hx hb dX7_errorToSix_224 rfl (lv_at hl 0 rfl) ?_
                    refine lv_iconst (v := (1 : Int32)) hx hb dX7_errorToSix_225 (by decide) ?_
                    refine lv_iconst (v := (0 : Int32)) hx hb dX7_errorToSix_226 (by decide) ?_
                    refine lv_iconst (v := (0 : Int32)) hx hb dX7_errorToSix_227 (by decide) ?_
                    refine rpcallv_m hsz hI (va_runV (As := [.int (1 : Int32), .int (0 : Int32), .int (0 : Int32)]) (rest := []) ⟨hx, hb, hml, hown, hu⟩ (met_X7_error_0 l dC dI a kA t _ M L (1 : Int32) (0 : Int32) (0 : Int32) _ h) (cwl_X7_288_X7 hu ⟨by decide, by decide⟩) (rppre (ci := 6) hK hE hsz hI rfl rfl) rfl rfl hl.1 rfl (lv_room (Nat.le_of_ble_eq_true rfl)) dX7_errorToSix_228 ⟨by decide, by decide⟩) (fun M23 H locs h hI => ?_)
                    refine lv_iconst (v := (1 : Int32)) hx hb dX7_errorToSix_231 (by decide) ?_
                    refine W.widen (k := 1) (n := 11) (by decide) (by decide) ?_
                    exact rpzret (Z := (fun r M' L' => L' = L ∧ Z r M')) hx hb hr hlocks hK hI dX7_errorToSix_232 ⟨isB_1, ⟨rfl, h⟩⟩
                  · have h := h.2 c146_6
                    by_cases c146_7 : p2 = (7 : Int32)
                    · have h := h.1 c146_7
                      refine lv_tableIn (off := 78) (tgt := 224) hx hb dX7_errorToSix_146 (by rw [c146_7]; decide) (by rw [c146_7]; decide) (by rw [c146_7]; rfl) (by decide) ?_
                      refine lv_aload_n hx hb dX7_errorToSix_224 rfl (lv_at hl 0 rfl) ?_
                      refine lv_iconst (v := (1 : Int32)) hx hb dX7_errorToSix_225 (by decide) ?_
                      refine lv_iconst (v := (0 : Int32)) hx hb dX7_errorToSix_226 (by decide) ?_
                      refine lv_iconst (v := (0 : Int32)) hx hb dX7_errorToSix_227 (by decide) ?_
                      refine rpcallv_m hsz hI (va_runV (As := [.int (1 : Int32), .int (0 : Int32), .int (0 : Int32)]) (rest := []) ⟨hx, hb, hml, hown, hu⟩ (met_X7_error_0 l dC dI a kA t _ M L (1 : Int32) (0 : Int32) (0 : Int32) _ h) (cwl_X7_288_X7 hu ⟨by decide, by decide⟩) (rppre (ci := 6) hK hE hsz hI rfl rfl) rfl rfl hl.1 rfl (lv_room (Nat.le_of_ble_eq_true rfl)) dX7_errorToSix_228 ⟨by decide, by decide⟩) (fun M24 H locs h hI => ?_)
                      refine lv_iconst (v := (1 : Int32)) hx hb dX7_errorToSix_231 (by decide) ?_
                      refine W.widen (k := 1) (n := 11) (by decide) (by decide) ?_
                      exact rpzret (Z := (fun r M' L' => L' = L ∧ Z r M')) hx hb hr hlocks hK hI dX7_errorToSix_232 ⟨isB_1, ⟨rfl, h⟩⟩
                    · have h := h.2 c146_7
                      by_cases c146_8 : p2 = (8 : Int32)
                      · have h := h.1 c146_8
                        refine lv_tableIn (off := 78) (tgt := 224) hx hb dX7_errorToSix_146 (by rw [c146_8]; decide) (by rw [c146_8]; decide) (by rw [c146_8]; rfl) (by decide) ?_
                        refine lv_aload_n hx hb dX7_errorToSix_224 rfl (lv_at hl 0 rfl) ?_
                        refine lv_iconst (v := (1 : Int32)) hx hb dX7_errorToSix_225 (by decide) ?_
                        refine lv_iconst (v := (0 : Int32)) hx hb dX7_errorToSix_226 (by decide) ?_
                        refine lv_iconst (v := (0 : Int32)) hx hb dX7_errorToSix_227 (by decide) ?_
                        refine rpcallv_m hsz hI (va_runV (As := [.int (1 : Int32), .int (0 : Int32), .int (0 : Int32)]) (rest := []) ⟨hx, hb, hml, hown, hu⟩ (met_X7_error_0 l dC dI a kA t _ M L (1 : Int32) (0 : Int32) (0 : Int32) _ h) (cwl_X7_288_X7 hu ⟨by decide, by decide⟩) (rppre (ci := 6) hK hE hsz hI rfl rfl) rfl rfl hl.1 rfl (lv_room (Nat.le_of_ble_eq_true rfl)) dX7_errorToSix_228 ⟨by decide, by decide⟩) (fun M25 H locs h hI => ?_)
                        refine lv_iconst (v := (1 : Int32)) hx hb dX7_errorToSix_231 (by decide) ?_
                        refine W.widen (k := 1) (n := 11) (by decide) (by decide) ?_
                        exact rpzret (Z := (fun r M' L' => L' = L ∧ Z r M')) hx hb hr hlocks hK hI dX7_errorToSix_232 ⟨isB_1, ⟨rfl, h⟩⟩
                      · have h := h.2 c146_8
                        by_cases c146_9 : p2 = (9 : Int32)
                        · have h := h.1 c146_9
                          refine lv_tableIn (off := 106) (tgt := 252) hx hb dX7_errorToSix_146 (by rw [c146_9]; decide) (by rw [c146_9]; decide) (by rw [c146_9]; rfl) (by decide) ?_
                          refine lv_aload_n hx hb dX7_errorToSix_252 rfl (lv_at hl 0 rfl) ?_
                          refine lv_iconst (v := (1 : Int32)) hx hb dX7_errorToSix_253 (by decide) ?_
                          refine lv_iconst (v := (1 : Int32)) hx hb dX7_errorToSix_254 (by decide) ?_
                          refine lv_iconst (v := (0 : Int32)) hx hb dX7_errorToSix_255 (by decide) ?_
                          refine rpcallv_m hsz hI (va_runV (As := [.int (1 : Int32), .int (1 : Int32), .int (0 : Int32)]) (rest := []) ⟨hx, hb, hml, hown, hu⟩ (met_X7_error_0 l dC dI a kA t _ M L (1 : Int32) (1 : Int32) (0 : Int32) _ h) (cwl_X7_288_X7 hu ⟨by decide, by decide⟩) (rppre (ci := 6) hK hE hsz hI rfl rfl) rfl rfl hl.1 rfl (lv_room (Nat.le_of_ble_eq_true rfl)) dX7_errorToSix_256 ⟨by decide, by decide⟩) (fun M26 H locs h hI => ?_)
                          refine lv_iconst (v := (1 : Int32)) hx hb dX7_errorToSix_259 (by decide) ?_
                          refine W.widen (k := 1) (n := 11) (by decide) (by decide) ?_
                          exact rpzret (Z := (fun r M' L' => L' = L ∧ Z r M')) hx hb hr hlocks hK hI dX7_errorToSix_260 ⟨isB_1, ⟨rfl, h⟩⟩
                        · have h := h.2 c146_9
                          by_cases c146_10 : p2 = (10 : Int32)
                          · have h := h.1 c146_10
                            refine lv_tableIn (off := 106) (tgt := 252) hx hb dX7_errorToSix_146 (by rw [c146_10]; decide) (by rw [c146_10]; decide) (by rw [c146_10]; rfl) (by decide) ?_
                            refine lv_aload_n hx hb dX7_errorToSix_252 rfl (lv_at hl 0 rfl) ?_
                            refine lv_iconst (v := (1 : Int32)) hx hb dX7_errorToSix_253 (by decide) ?_
                            refine lv_iconst (v := (1 : Int32)) hx hb dX7_errorToSix_254 (by decide) ?_
                            refine lv_iconst (v := (0 : Int32)) hx hb dX7_errorToSix_255 (by decide) ?_
                            refine rpcallv_m hsz hI (va_runV (As := [.int (1 : Int32), .int (1 : Int32), .int (0 : Int32)]) (rest := []) ⟨hx, hb, hml, hown, hu⟩ (met_X7_error_0 l dC dI a kA t _ M L (1 : Int32) (1 : Int32) (0 : Int32) _ h) (cwl_X7_288_X7 hu ⟨by decide, by decide⟩) (rppre (ci := 6) hK hE hsz hI rfl rfl) rfl rfl hl.1 rfl (lv_room (Nat.le_of_ble_eq_true rfl)) dX7_errorToSix_256 ⟨by decide, by decide⟩) (fun M27 H locs h hI => ?_)
                            refine lv_iconst (v := (1 : Int32)) hx hb dX7_errorToSix_259 (by decide) ?_
                            refine W.widen (k := 1) (n := 11) (by decide) (by decide) ?_
                            exact rpzret (Z := (fun r M' L' => L' = L ∧ Z r M')) hx hb hr hlocks hK hI dX7_errorToSix_260 ⟨isB_1, ⟨rfl, h⟩⟩
                          · have h := h.2 c146_10
                            by_cases c146_11 : p2 = (11 : Int32)
                            · have h := h.1 c146_11
                              refine lv_tableIn (off := 78) (tgt := 224) hx hb dX7_errorToSix_146 (by rw [c146_11]; decide) (by rw [c146_11]; decide) (by rw [c146_11]; rfl) (by decide) ?_
                              refine lv_aload_n hx hb dX7_errorToSix_224 rfl (lv_at hl 0 rfl) ?_
                              refine lv_iconst (v := (1 : Int32)) hx hb dX7_errorToSix_225 (by decide) ?_
                              refine lv_iconst (v := (0 : Int32)) hx hb dX7_errorToSix_226 (by decide) ?_
                              refine lv_iconst (v := (0 : Int32)) hx hb dX7_errorToSix_227 (by decide) ?_
                              refine rpcallv_m hsz hI (va_runV (As := [.int (1 : Int32), .int (0 : Int32), .int (0 : Int32)]) (rest := []) ⟨hx, hb, hml, hown, hu⟩ (met_X7_error_0 l dC dI a kA t _ M L (1 : Int32) (0 : Int32) (0 : Int32) _ h) (cwl_X7_288_X7 hu ⟨by decide, by decide⟩) (rppre (ci := 6) hK hE hsz hI rfl rfl) rfl rfl hl.1 rfl (lv_room (Nat.le_of_ble_eq_true rfl)) dX7_errorToSix_228 ⟨by decide, by decide⟩) (fun M28 H locs h hI => ?_)
                              refine lv_iconst (v := (1 : Int32)) hx hb dX7_errorToSix_231 (by decide) ?_
                              refine W.widen (k := 1) (n := 11) (by decide) (by decide) ?_
                              exact rpzret (Z := (fun r M' L' => L' = L ∧ Z r M')) hx hb hr hlocks hK hI dX7_errorToSix_232 ⟨isB_1, ⟨rfl, h⟩⟩
                            · have h := h.2 c146_11
                              by_cases c146_12 : p2 = (12 : Int32)
                              · have h := h.1 c146_12
                                refine lv_tableIn (off := 78) (tgt := 224) hx hb dX7_errorToSix_146 (by rw [c146_12]; decide) (by rw [c146_12]; decide) (by rw [c146_12]; rfl) (by decide) ?_
                                refine lv_aload_n hx hb dX7_errorToSix_224 rfl (lv_at hl 0 rfl) ?_
                                refine lv_iconst (v := (1 : Int32)) hx hb dX7_errorToSix_225 (by decide) ?_
                                refine lv_iconst (v := (0 : Int32)) hx hb dX7_errorToSix_226 (by decide) ?_
                                refine lv_iconst (v := (0 : Int32)) hx hb dX7_errorToSix_227 (by decide) ?_
                                refine rpcallv_m hsz hI (va_runV (As := [.int (1 : Int32), .int (0 : Int32), .int (0 : Int32)]) (rest := []) ⟨hx, hb, hml, hown, hu⟩ (met_X7_error_0 l dC dI a kA t _ M L (1 : Int32) (0 : Int32) (0 : Int32) _ h) (cwl_X7_288_X7 hu ⟨by decide, by decide⟩) (rppre (ci := 6) hK hE hsz hI rfl rfl) rfl rfl hl.1 rfl (lv_room (Nat.le_of_ble_eq_true rfl)) dX7_errorToSix_228 ⟨by decide, by decide⟩) (fun M29 H locs h hI => ?_)
                                refine lv_iconst (v := (1 : Int32)) hx hb dX7_errorToSix_231 (by decide) ?_
                                refine W.widen (k := 1) (n := 11) (by decide) (by decide) ?_
                                exact rpzret (Z := (fun r M' L' => L' = L ∧ Z r M')) hx hb hr hlocks hK hI dX7_errorToSix_232 ⟨isB_1, ⟨rfl, h⟩⟩
                              · have h := h.2 c146_12
                                by_cases c146_13 : p2 = (13 : Int32)
                                · have h := h.1 c146_13
                                  refine lv_tableIn (off := 106) (tgt := 252) hx hb dX7_errorToSix_146 (by rw [c146_13]; decide) (by rw [c146_13]; decide) (by rw [c146_13]; rfl) (by decide) ?_
                                  refine lv_aload_n hx hb dX7_errorToSix_252 rfl (lv_at hl 0 rfl) ?_
                                  refine lv_iconst (v := (1 : Int32)) hx hb dX7_errorToSix_253 (by decide) ?_
                                  refine lv_iconst (v := (1 : Int32)) hx hb dX7_errorToSix_254 (by decide) ?_
                                  refine lv_iconst (v := (0 : Int32)) hx hb dX7_errorToSix_255 (by decide) ?_
                                  refine rpcallv_m hsz hI (va_runV (As := [.int (1 : Int32), .int (1 : Int32), .int (0 : Int32)]) (rest := []) ⟨hx, hb, hml, hown, hu⟩ (met_X7_error_0 l dC dI a kA t _ M L (1 : Int32) (1 : Int32) (0 : Int32) _ h) (cwl_X7_288_X7 hu ⟨by decide, by decide⟩) (rppre (ci := 6) hK hE hsz hI rfl rfl) rfl rfl hl.1 rfl (lv_room (Nat.le_of_ble_eq_true rfl)) dX7_errorToSix_256 ⟨by decide, by decide⟩) (fun M30 H locs h hI => ?_)
                                  refine lv_iconst (v := (1 : Int32)) hx hb dX7_errorToSix_259 (by decide) ?_
                                  refine W.widen (k := 1) (n := 11) (by decide) (by decide) ?_
                                  exact rpzret (Z := (fun r M' L' => L' = L ∧ Z r M')) hx hb hr hlocks hK hI dX7_errorToSix_260 ⟨isB_1, ⟨rfl, h⟩⟩
                                · have h := h.2 c146_13
                                  by_cases c146_14 : p2 = (14 : Int32)
                                  · have h := h.1 c146_14
                                    refine lv_tableIn (off := 229) (tgt := 375) hx hb dX7_errorToSix_146 (by rw [c146_14]; decide) (by rw [c146_14]; decide) (by rw [c146_14]; rfl) (by decide) ?_
                                    refine lv_iconst (v := (0 : Int32)) hx hb dX7_errorToSix_375 (by decide) ?_
                                    refine W.widen (k := 1) (n := 11) (by decide) (by decide) ?_
                                    exact rpzret (Z := (fun r M' L' => L' = L ∧ Z r M')) hx hb hr hlocks hK hI dX7_errorToSix_376 ⟨isB_0, ⟨rfl, h⟩⟩
                                  · have h := h.2 c146_14
                                    by_cases c146_15 : p2 = (15 : Int32)
                                    · have h := h.1 c146_15
                                      refine lv_tableIn (off := 106) (tgt := 252) hx hb dX7_errorToSix_146 (by rw [c146_15]; decide) (by rw [c146_15]; decide) (by rw [c146_15]; rfl) (by decide) ?_
                                      refine lv_aload_n hx hb dX7_errorToSix_252 rfl (lv_at hl 0 rfl) ?_
                                      refine lv_iconst (v := (1 : Int32)) hx hb dX7_errorToSix_253 (by decide) ?_
                                      refine lv_iconst (v := (1 : Int32)) hx hb dX7_errorToSix_254 (by decide) ?_
                                      refine lv_iconst (v := (0 : Int32)) hx hb dX7_errorToSix_255 (by decide) ?_
                                      refine rpcallv_m hsz hI (va_runV (As := [.int (1 : Int32), .int (1 : Int32), .int (0 : Int32)]) (rest := []) ⟨hx, hb, hml, hown, hu⟩ (met_X7_error_0 l dC dI a kA t _ M L (1 : Int32) (1 : Int32) (0 : Int32) _ h) (cwl_X7_288_X7 hu ⟨by decide, by decide⟩) (rppre (ci := 6) hK hE hsz hI rfl rfl) rfl rfl hl.1 rfl (lv_room (Nat.le_of_ble_eq_true rfl)) dX7_errorToSix_256 ⟨by decide, by decide⟩) (fun M31 H locs h hI => ?_)
                                      refine lv_iconst (v := (1 : Int32)) hx hb dX7_errorToSix_259 (by decide) ?_
                                      refine W.widen (k := 1) (n := 11) (by decide) (by decide) ?_
                                      exact rpzret (Z := (fun r M' L' => L' = L ∧ Z r M')) hx hb hr hlocks hK hI dX7_errorToSix_260 ⟨isB_1, ⟨rfl, h⟩⟩
                                    · have h := h.2 c146_15
                                      have nc146_0 := lv_neT (a := 0) c146_0 (by decide)
                                      have nc146_1 := lv_neT (a := 1) c146_1 (by decide)
                                      have nc146_2 := lv_neT (a := 2) c146_2 (by decide)
                                      have nc146_3 := lv_neT (a := 3) c146_3 (by decide)
                                      have nc146_4 := lv_neT (a := 4) c146_4 (by decide)
                                      have nc146_5 := lv_neT (a := 5) c146_5 (by decide)
                                      have nc146_6 := lv_neT (a := 6) c146_6 (by decide)
                                      have nc146_7 := lv_neT (a := 7) c146_7 (by decide)
                                      have nc146_8 := lv_neT (a := 8) c146_8 (by decide)
                                      have nc146_9 := lv_neT (a := 9) c146_9 (by decide)
                                      have nc146_10 := lv_neT (a := 10) c146_10 (by decide)
                                      have nc146_11 := lv_neT (a := 11) c146_11 (by decide)
                                      have nc146_12 := lv_neT (a := 12) c146_12 (by decide)
                                      have nc146_13 := lv_neT (a := 13) c146_13 (by decide)
                                      have nc146_14 := lv_neT (a := 14) c146_14 (by decide)
                                      have nc146_15 := lv_neT (a := 15) c146_15 (by decide)
                                      refine lv_tableOut (tgt := 375) hx hb dX7_errorToSix_146 (by omega) (by decide) ?_
                                      refine lv_iconst (v := (0 : Int32)) hx hb dX7_errorToSix_375 (by decide) ?_
                                      refine W.widen (k := 1) (n := 11) (by decide) (by decide) ?_
                                      exact rpzret (Z := (fun r M' L' => L' = L ∧ Z r M')) hx hb hr hlocks hK hI dX7_errorToSix_376 ⟨isB_0, ⟨rfl, h⟩⟩
    · have h := h.2 c2
      refine lv_aload_n hx hb dX7_errorToSix_21 rfl (lv_at hl 0 rfl) ?_
      refine va_get (D := (dC, dI)) (ci := 6) (v := .ref (a 5)) (C := RX7) (T := TX7) (N := 44) hx hb hu uX7 hown hK hI.1 0 rfl rfl 23 (by decide) (hu _ uww_554) (fun _ h9 => h9) rfl dX7_errorToSix_22 ?_
      refine lv_iconst (v := (4 : Int32)) hx hb dX7_errorToSix_25 (by decide) ?_
      refine rpcalli_p hsz hI (va_runS (As := [.ref (a 5), .int (4 : Int32)]) (rest := []) ⟨hx, hb, hml, hown, hu⟩ (met_X7_octetAt_5 l dC dI a kA t _ M L (4 : Int32) _ h) (cwl_X7_111_S hu ⟨by decide, by decide⟩) (rppreS hK hE hsz hI) rfl rfl hl.1 rfl (lv_room (Nat.le_of_ble_eq_true rfl)) dX7_errorToSix_26 ⟨by decide, by decide⟩) (fun r32 H locs h hI => ?_)
      refine lv_istore (lv' := [(4, .int r32), (0, .ref (a 0)), (1, .int p1), (2, .int p2), (3, .int p3)]) hx hb dX7_errorToSix_29 hl (by decide) rfl (fun ls hl => ?_)
      refine lv_iload hx hb dX7_errorToSix_31 (lv_at hl 0 rfl) ?_
      refine lv_iconst (v := (2 : Int32)) hx hb dX7_errorToSix_33 (by decide) ?_
      obtain ⟨K115, hK115, h⟩ := h
      have J115 : ∀ (v33 : Int32) (H : Heap) (locs : List Loc) (ls : Array Slot), K115 v33 → rpI dC dI a kA (rpA a sz) s M L H locs → lv_has ls 6 [(0, .ref (a 0)), (2, .int p2)] → W p l e rm_X7_errorToSix_0 s m (av_X7_errorToSix_0 a t p1 p2 p3).toArray below meth c H locs 0 0 (MQ below (qc_X7_errorToSix_0 dC dI a kA sz M L Z) (av_X7_errorToSix_0 a t p1 p2 p3).toArray s 1 11 (rpA a sz)) (F0 m 115 ls [.int v33]) := by
        intro v33 H locs ls h hI hl
        have h := hK115 v33 h
        refine lv_istore (lv' := [(5, .int v33), (0, .ref (a 0)), (2, .int p2)]) hx hb dX7_errorToSix_115 hl (by decide) rfl (fun ls hl => ?_)
        refine lv_aload_n hx hb dX7_errorToSix_117 rfl (lv_at hl 1 rfl) ?_
        refine lv_iconst (v := (4 : Int32)) hx hb dX7_errorToSix_118 (by decide) ?_
        refine lv_iconst (v := (0 : Int32)) hx hb dX7_errorToSix_119 (by decide) ?_
        refine lv_iload hx hb dX7_errorToSix_120 (lv_at hl 0 rfl) ?_
        refine rpcallv_m hsz hI (va_runV (As := [.int (4 : Int32), .int (0 : Int32), .int v33]) (rest := []) ⟨hx, hb, hml, hown, hu⟩ (met_X7_error_0 l dC dI a kA t _ M L (4 : Int32) (0 : Int32) v33 _ h) (cwl_X7_288_X7 hu ⟨by decide, by decide⟩) (rppre (ci := 6) hK hE hsz hI rfl rfl) rfl rfl hl.1 rfl (lv_room (Nat.le_of_ble_eq_true rfl)) dX7_errorToSix_122 ⟨by decide, by decide⟩) (fun M34 H locs h hI => ?_)
        refine lv_iload_n hx hb dX7_errorToSix_125 rfl (lv_at hl 2 rfl) ?_
        obtain ⟨K134, hK134, h⟩ := h
        have J134 : ∀  (H : Heap) (locs : List Loc) (ls : Array Slot), K134  → rpI dC dI a kA (rpA a sz) s M34 L H locs → lv_has ls 6 [(5, .int v33)] → W p l e rm_X7_errorToSix_0 s m (av_X7_errorToSix_0 a t p1 p2 p3).toArray below meth c H locs 0 0 (MQ below (qc_X7_errorToSix_0 dC dI a kA sz M L Z) (av_X7_errorToSix_0 a t p1 p2 p3).toArray s 1 11 (rpA a sz)) (F0 m 134 ls []) := by
          intro  H locs ls h hI hl
          have h := hK134  h
          refine lv_iload hx hb dX7_errorToSix_134 (lv_at hl 0 rfl) ?_
          refine lv_if_lt (tgt := 143) hx hb dX7_errorToSix_136 (by decide) (fun c35 => ?_) (fun c35 => ?_)
          · have h := h.1 c35
            refine lv_iconst (v := (0 : Int32)) hx hb dX7_errorToSix_143 (by decide) ?_
            refine W.widen (k := 1) (n := 11) (by decide) (by decide) ?_
            exact rpzret (Z := (fun r M' L' => L' = L ∧ Z r M')) hx hb hr hlocks hK hI dX7_errorToSix_144 ⟨isB_0, ⟨rfl, h⟩⟩
          · have h := h.2 c35
            refine lv_iconst (v := (1 : Int32)) hx hb dX7_errorToSix_139 (by decide) ?_
            refine lv_goto (tgt := 144) hx hb dX7_errorToSix_140 (by decide) ?_
            refine W.widen (k := 1) (n := 11) (by decide) (by decide) ?_
            exact rpzret (Z := (fun r M' L' => L' = L ∧ Z r M')) hx hb hr hlocks hK hI dX7_errorToSix_144 ⟨isB_1, ⟨rfl, h⟩⟩
        refine lv_if_eq (tgt := 134) hx hb dX7_errorToSix_126 (by decide) (fun c36 => ?_) (fun c36 => ?_)
        · have h := h.1 c36
          exact J134  _ _ _ h hI (lv_sub hl [0] rfl)
        · have h := h.2 c36
          refine lv_iload_n hx hb dX7_errorToSix_129 rfl (lv_at hl 2 rfl) ?_
          refine lv_iconst (v := (2 : Int32)) hx hb dX7_errorToSix_130 (by decide) ?_
          refine lv_icmp_ne (tgt := 143) hx hb dX7_errorToSix_131 (by decide) (fun c37 => ?_) (fun c37 => ?_)
          · have h := h.1 c37
            refine lv_iconst (v := (0 : Int32)) hx hb dX7_errorToSix_143 (by decide) ?_
            refine W.widen (k := 1) (n := 11) (by decide) (by decide) ?_
            exact rpzret (Z := (fun r M' L' => L' = L ∧ Z r M')) hx hb hr hlocks hK hI dX7_errorToSix_144 ⟨isB_0, ⟨rfl, h⟩⟩
          · have h := h.2 c37
            exact J134  _ _ _ h hI (lv_sub hl [0] rfl)
      refine lv_icmp_ge (tgt := 42) hx hb dX7_errorToSix_34 (by decide) (fun c38 => ?_) (fun c38 => ?_)
      · have h := h.1 c38
        refine lv_iload hx hb dX7_errorToSix_42 (lv_at hl 0 rfl) ?_
        refine lv_iconst (v := (4 : Int32)) hx hb dX7_errorToSix_44 (by decide) ?_
        refine lv_icmp_ge (tgt := 52) hx hb dX7_errorToSix_45 (by decide) (fun c39 => ?_) (fun c39 => ?_)
        · have h := h.1 c39
          refine lv_iload hx hb dX7_errorToSix_52 (lv_at hl 0 rfl) ?_
          refine lv_bipush (v := (8 : Int32)) hx hb dX7_errorToSix_54 (by decide) ?_
          refine lv_icmp_ne (tgt := 64) hx hb dX7_errorToSix_56 (by decide) (fun c40 => ?_) (fun c40 => ?_)
          · have h := h.1 c40
            refine lv_iload hx hb dX7_errorToSix_64 (lv_at hl 0 rfl) ?_
            refine lv_bipush (v := (9 : Int32)) hx hb dX7_errorToSix_66 (by decide) ?_
            refine lv_icmp_ne (tgt := 76) hx hb dX7_errorToSix_68 (by decide) (fun c41 => ?_) (fun c41 => ?_)
            · have h := h.1 c41
              refine lv_iload hx hb dX7_errorToSix_76 (lv_at hl 0 rfl) ?_
              refine lv_bipush (v := (12 : Int32)) hx hb dX7_errorToSix_78 (by decide) ?_
              obtain ⟨K95, hK95, h⟩ := h
              have J95 : ∀  (H : Heap) (locs : List Loc) (ls : Array Slot), K95  → rpI dC dI a kA (rpA a sz) s M L H locs → lv_has ls 6 [(0, .ref (a 0)), (2, .int p2), (4, .int r32)] → W p l e rm_X7_errorToSix_0 s m (av_X7_errorToSix_0 a t p1 p2 p3).toArray below meth c H locs 0 0 (MQ below (qc_X7_errorToSix_0 dC dI a kA sz M L Z) (av_X7_errorToSix_0 a t p1 p2 p3).toArray s 1 11 (rpA a sz)) (F0 m 95 ls []) := by
                intro  H locs ls h hI hl
                have h := hK95  h
                refine lv_iload hx hb dX7_errorToSix_95 (lv_at hl 2 rfl) ?_
                refine lv_bipush (v := (16 : Int32)) hx hb dX7_errorToSix_97 (by decide) ?_
                obtain ⟨K114, hK114, h⟩ := h
                have J114 : ∀  (H : Heap) (locs : List Loc) (ls : Array Slot), K114  → rpI dC dI a kA (rpA a sz) s M L H locs → lv_has ls 6 [(0, .ref (a 0)), (2, .int p2)] → W p l e rm_X7_errorToSix_0 s m (av_X7_errorToSix_0 a t p1 p2 p3).toArray below meth c H locs 0 0 (MQ below (qc_X7_errorToSix_0 dC dI a kA sz M L Z) (av_X7_errorToSix_0 a t p1 p2 p3).toArray s 1 11 (rpA a sz)) (F0 m 114 ls []) := by
                  intro  H locs ls h hI hl
                  have h := hK114  h
                  refine lv_iconst (v := (-1 : Int32)) hx hb dX7_errorToSix_114 (by decide) ?_
                  exact J115 (-1 : Int32) _ _ _ h hI (lv_sub hl [0, 1] rfl)
                refine lv_icmp_lt (tgt := 114) hx hb dX7_errorToSix_99 (by decide) (fun c42 => ?_) (fun c42 => ?_)
                · have h := h.1 c42
                  exact J114  _ _ _ h hI (lv_sub hl [0, 1] rfl)
                · have h := h.2 c42
                  refine lv_iload hx hb dX7_errorToSix_102 (lv_at hl 2 rfl) ?_
                  refine lv_bipush (v := (20 : Int32)) hx hb dX7_errorToSix_104 (by decide) ?_
                  refine lv_icmp_ge (tgt := 114) hx hb dX7_errorToSix_106 (by decide) (fun c43 => ?_) (fun c43 => ?_)
                  · have h := h.1 c43
                    exact J114  _ _ _ h hI (lv_sub hl [0, 1] rfl)
                  · have h := h.2 c43
                    refine lv_bipush (v := (24 : Int32)) hx hb dX7_errorToSix_109 (by decide) ?_
                    refine lv_goto (tgt := 115) hx hb dX7_errorToSix_111 (by decide) ?_
                    exact J115 (24 : Int32) _ _ _ h hI (lv_sub hl [0, 1] rfl)
              refine lv_icmp_lt (tgt := 95) hx hb dX7_errorToSix_80 (by decide) (fun c44 => ?_) (fun c44 => ?_)
              · have h := h.1 c44
                exact J95  _ _ _ h hI (lv_sub hl [1, 3, 0] rfl)
              · have h := h.2 c44
                refine lv_iload hx hb dX7_errorToSix_83 (lv_at hl 0 rfl) ?_
                refine lv_bipush (v := (16 : Int32)) hx hb dX7_errorToSix_85 (by decide) ?_
                refine lv_icmp_ge (tgt := 95) hx hb dX7_errorToSix_87 (by decide) (fun c45 => ?_) (fun c45 => ?_)
                · have h := h.1 c45
                  exact J95  _ _ _ h hI (lv_sub hl [1, 3, 0] rfl)
                · have h := h.2 c45
                  refine lv_bipush (v := (8 : Int32)) hx hb dX7_errorToSix_90 (by decide) ?_
                  refine lv_goto (tgt := 115) hx hb dX7_errorToSix_92 (by decide) ?_
                  exact J115 (8 : Int32) _ _ _ h hI (lv_sub hl [1, 3] rfl)
            · have h := h.2 c41
              refine lv_bipush (v := (6 : Int32)) hx hb dX7_errorToSix_71 (by decide) ?_
              refine lv_goto (tgt := 115) hx hb dX7_errorToSix_73 (by decide) ?_
              exact J115 (6 : Int32) _ _ _ h hI (lv_sub hl [1, 3] rfl)
          · have h := h.2 c40
            refine lv_bipush (v := (7 : Int32)) hx hb dX7_errorToSix_59 (by decide) ?_
            refine lv_goto (tgt := 115) hx hb dX7_errorToSix_61 (by decide) ?_
            exact J115 (7 : Int32) _ _ _ h hI (lv_sub hl [1, 3] rfl)
        · have h := h.2 c39
          refine lv_iconst (v := (4 : Int32)) hx hb dX7_errorToSix_48 (by decide) ?_
          refine lv_goto (tgt := 115) hx hb dX7_errorToSix_49 (by decide) ?_
          exact J115 (4 : Int32) _ _ _ h hI (lv_sub hl [1, 3] rfl)
      · have h := h.2 c38
        refine lv_iload hx hb dX7_errorToSix_37 (lv_at hl 0 rfl) ?_
        refine lv_goto (tgt := 115) hx hb dX7_errorToSix_39 (by decide) ?_
        exact J115 r32 _ _ _ h hI (lv_sub hl [1, 3] rfl)
  · have h := h.2 c1
    refine lv_aload_n hx hb dX7_errorToSix_6 rfl (lv_at hl 0 rfl) ?_
    refine lv_iconst (v := (3 : Int32)) hx hb dX7_errorToSix_7 (by decide) ?_
    refine lv_iload_n hx hb dX7_errorToSix_8 rfl (lv_at hl 2 rfl) ?_
    refine lv_iconst (v := (0 : Int32)) hx hb dX7_errorToSix_9 (by decide) ?_
    refine rpcallv_m hsz hI (va_runV (As := [.int (3 : Int32), .int p2, .int (0 : Int32)]) (rest := []) ⟨hx, hb, hml, hown, hu⟩ (met_X7_error_0 l dC dI a kA t _ M L (3 : Int32) p2 (0 : Int32) _ h) (cwl_X7_288_X7 hu ⟨by decide, by decide⟩) (rppre (ci := 6) hK hE hsz hI rfl rfl) rfl rfl hl.1 rfl (lv_room (Nat.le_of_ble_eq_true rfl)) dX7_errorToSix_10 ⟨by decide, by decide⟩) (fun M46 H locs h hI => ?_)
    refine lv_iconst (v := (1 : Int32)) hx hb dX7_errorToSix_13 (by decide) ?_
    refine W.widen (k := 1) (n := 11) (by decide) (by decide) ?_
    exact rpzret (Z := (fun r M' L' => L' = L ∧ Z r M')) hx hb hr hlocks hK hI dX7_errorToSix_14 ⟨isB_1, ⟨rfl, h⟩⟩

abbrev rm_X7_mendInner_0 : Room := { frames := 5, cells := 0, slots := 0, locals := 114 }
abbrev av_X7_mendInner_0 (a t : Nat → Nat) (p1 : Int32) (p2 : Int32) (p3 : Int32) (p4 : Int32) (p5 : Int32) : List Value := [.ref (a 0), .int p1, .int p2, .int p3, .int p4, .int p5]
abbrev qc_X7_mendInner_0 (dC : Nat → ClassId) (dI : Nat → Nat → Nat) (a : Nat → Nat) (kA : Nat → ClassId) (sz : Nat) (M : cM) (L : cL) (Z : cM → cL → Prop) : Array Value → State → Outcome → State → Prop := va_Qv (fun (u : cM × cL) => Z u.1 u.2) (rpAt dC dI a kA (rpA a sz)) (rpA a sz)
set_option maxHeartbeats 4000000 in
set_option maxRecDepth 100000 in
theorem met_X7_mendInner_0 (l : Launch) (dC : Nat → ClassId) (dI : Nat → Nat → Nat) (a : Nat → Nat) (kA : Nat → ClassId) (t : Nat → Nat) (sz : Nat) (M : cM) (L : cL) (p1 : Int32) (p2 : Int32) (p3 : Int32) (p4 : Int32) (p5 : Int32) (Z : cM → cL → Prop) (h : wp_X7_mendInner_0 M L p1 p2 p3 p4 p5 Z) : Met l yX7_mendInner (Cond.code yX7_mendInner cX7_mendInner 7 none :: uW) rm_X7_mendInner_0 (va_Pc (av_X7_mendInner_0 a t p1 p2 p3 p4 p5) (rpPre dC dI a kA t M L sz)) (qc_X7_mendInner_0 dC dI a kA sz M L Z) 0 0 (rpA a sz) := by
  refine rpenter (cc := cX7_mendInner) (n := 7) (ret := none) (by decide) rfl (Nat.le_of_ble_eq_true rfl) ?_
  intro p e s m below meth c ls hx hb hml hr hlocks hown hts hK hE hsz hI hl hmn
  have hu : ∀ w ∈ uW, w.before (av_X7_mendInner_0 a t p1 p2 p3 p4 p5).toArray s = true := fun w h => hts w (List.mem_cons_of_mem _ h)
  have hown : s.vm.findClass RX7 = some m.cls := hown
  have hl : lv_has ls 7 [(0, .ref (a 0)), (1, .int p1), (2, .int p2), (3, .int p3), (4, .int p4), (5, .int p5)] := hl
  unfold wp_X7_mendInner_0 at h
  refine lv_iload hx hb dX7_mendInner_0 (lv_at hl 4 rfl) ?_
  refine lv_if_le (tgt := 6) hx hb dX7_mendInner_2 (by decide) (fun c1 => ?_) (fun c1 => ?_)
  · have h := h.1 c1
    refine lv_aload_n hx hb dX7_mendInner_6 rfl (lv_at hl 0 rfl) ?_
    refine va_get (D := (dC, dI)) (ci := 6) (v := .int (M 0 35)) (C := RX7) (T := TX7) (N := 44) hx hb hu uX7 hown hK hI.1 0 rfl rfl 35 (by decide) (hu _ uww_671) (fun _ h9 => h9) rfl dX7_mendInner_7 ?_
    refine lv_iload hx hb dX7_mendInner_10 (lv_at hl 5 rfl) ?_
    obtain ⟨K21, hK21, h⟩ := h
    have J21 : ∀ (v2 : Int32) (H : Heap) (locs : List Loc) (ls : Array Slot), K21 v2 → rpI dC dI a kA (rpA a sz) s M L H locs → lv_has ls 7 [(0, .ref (a 0)), (1, .int p1), (2, .int p2), (3, .int p3), (5, .int p5)] → W p l e rm_X7_mendInner_0 s m (av_X7_mendInner_0 a t p1 p2 p3 p4 p5).toArray below meth c H locs 0 0 (MQ below (qc_X7_mendInner_0 dC dI a kA sz M L Z) (av_X7_mendInner_0 a t p1 p2 p3 p4 p5).toArray s 0 0 (rpA a sz)) (F0 m 21 ls [.int v2, .int (M 0 35)]) := by
      intro v2 H locs ls h hI hl
      have h := hK21 v2 h
      refine lv_icmp_ne (tgt := 39) hx hb dX7_mendInner_21 (by decide) (fun c3 => ?_) (fun c3 => ?_)
      · have h := h.1 c3
        refine lv_aload_n hx hb dX7_mendInner_39 rfl (lv_at hl 0 rfl) ?_
        refine va_get (D := (dC, dI)) (ci := 6) (v := .int (M 0 35)) (C := RX7) (T := TX7) (N := 44) hx hb hu uX7 hown hK hI.1 0 rfl rfl 35 (by decide) (hu _ uww_671) (fun _ h9 => h9) rfl dX7_mendInner_40 ?_
        refine lv_bipush (v := (17 : Int32)) hx hb dX7_mendInner_43 (by decide) ?_
        obtain ⟨K57, hK57, h⟩ := h
        have J57 : ∀  (H : Heap) (locs : List Loc) (ls : Array Slot), K57  → rpI dC dI a kA (rpA a sz) s M L H locs → lv_has ls 7 [(0, .ref (a 0)), (1, .int p1), (2, .int p2), (5, .int p5)] → W p l e rm_X7_mendInner_0 s m (av_X7_mendInner_0 a t p1 p2 p3 p4 p5).toArray below meth c H locs 0 0 (MQ below (qc_X7_mendInner_0 dC dI a kA sz M L Z) (av_X7_mendInner_0 a t p1 p2 p3 p4 p5).toArray s 0 0 (rpA a sz)) (F0 m 57 ls []) := by
          intro  H locs ls h hI hl
          have h := hK57  h
          refine lv_aload_n hx hb dX7_mendInner_57 rfl (lv_at hl 0 rfl) ?_
          refine va_get (D := (dC, dI)) (ci := 6) (v := .int (M 0 35)) (C := RX7) (T := TX7) (N := 44) hx hb hu uX7 hown hK hI.1 0 rfl rfl 35 (by decide) (hu _ uww_671) (fun _ h9 => h9) rfl dX7_mendInner_58 ?_
          refine rpcalli_p hsz hI (va_runS (As := [.int (M 0 35)]) (rest := []) ⟨hx, hb, hml, hown, hu⟩ (met_X7_sumAt l dC dI a kA t _ M L (M 0 35) _ h) (cwl_X7_253_S hu ⟨by decide, by decide⟩) (rppreS hK hE hsz hI) rfl rfl hl.1 rfl (lv_room (Nat.le_of_ble_eq_true rfl)) dX7_mendInner_61 ⟨by decide, by decide⟩) (fun r4 H locs h hI => ?_)
          refine lv_istore (lv' := [(6, .int r4), (0, .ref (a 0)), (1, .int p1), (2, .int p2), (5, .int p5)]) hx hb dX7_mendInner_64 hl (by decide) rfl (fun ls hl => ?_)
          refine lv_iload_n hx hb dX7_mendInner_66 rfl (lv_at hl 3 rfl) ?_
          refine lv_iload hx hb dX7_mendInner_67 (lv_at hl 0 rfl) ?_
          refine lv_iconst (v := (2 : Int32)) hx hb dX7_mendInner_69 (by decide) ?_
          refine lv_iadd hx hb dX7_mendInner_70 ?_
          refine lv_icmp_lt (tgt := 115) hx hb dX7_mendInner_71 (by decide) (fun c5 => ?_) (fun c5 => ?_)
          · have h := h.1 c5
            exact rpvret (Z := (fun M' L' => Z M' L')) hx hb hr hlocks hK hI dX7_mendInner_115 h
          · have h := h.2 c5
            refine lv_aload_n hx hb dX7_mendInner_74 rfl (lv_at hl 1 rfl) ?_
            refine va_get (D := (dC, dI)) (ci := 6) (v := .int (M 0 35)) (C := RX7) (T := TX7) (N := 44) hx hb hu uX7 hown hK hI.1 0 rfl rfl 35 (by decide) (hu _ uww_671) (fun _ h9 => h9) rfl dX7_mendInner_75 ?_
            refine lv_bipush (v := (17 : Int32)) hx hb dX7_mendInner_78 (by decide) ?_
            obtain ⟨K97, hK97, h⟩ := h
            have J97 : ∀  (H : Heap) (locs : List Loc) (ls : Array Slot), K97  → rpI dC dI a kA (rpA a sz) s M L H locs → lv_has ls 7 [(0, .ref (a 0)), (1, .int p1), (5, .int p5), (6, .int r4)] → W p l e rm_X7_mendInner_0 s m (av_X7_mendInner_0 a t p1 p2 p3 p4 p5).toArray below meth c H locs 0 0 (MQ below (qc_X7_mendInner_0 dC dI a kA sz M L Z) (av_X7_mendInner_0 a t p1 p2 p3 p4 p5).toArray s 0 0 (rpA a sz)) (F0 m 97 ls []) := by
              intro  H locs ls h hI hl
              have h := hK97  h
              refine lv_aload_n hx hb dX7_mendInner_97 rfl (lv_at hl 0 rfl) ?_
              refine lv_aload_n hx hb dX7_mendInner_98 rfl (lv_at hl 0 rfl) ?_
              refine va_get (D := (dC, dI)) (ci := 6) (v := .ref (a 5)) (C := RX7) (T := TX7) (N := 44) hx hb hu uX7 hown hK hI.1 0 rfl rfl 23 (by decide) (hu _ uww_554) (fun _ h9 => h9) rfl dX7_mendInner_99 ?_
              refine lv_iload_n hx hb dX7_mendInner_102 rfl (lv_at hl 1 rfl) ?_
              refine lv_iload hx hb dX7_mendInner_103 (lv_at hl 3 rfl) ?_
              refine lv_iadd hx hb dX7_mendInner_105 ?_
              refine lv_aload_n hx hb dX7_mendInner_106 rfl (lv_at hl 0 rfl) ?_
              refine va_get (D := (dC, dI)) (ci := 6) (v := .int (M 0 35)) (C := RX7) (T := TX7) (N := 44) hx hb hu uX7 hown hK hI.1 0 rfl rfl 35 (by decide) (hu _ uww_671) (fun _ h9 => h9) rfl dX7_mendInner_107 ?_
              refine lv_iload hx hb dX7_mendInner_110 (lv_at hl 2 rfl) ?_
              refine rpcallv hsz hI (va_runV (As := [.ref (a 5), .int (p1 + r4), .int (M 0 35), .int p5]) (rest := []) ⟨hx, hb, hml, hown, hu⟩ (met_X7_adjust_0_5 l dC dI a kA t _ M L (p1 + r4) (M 0 35) p5 _ h) (cwl_X7_256_X7 hu ⟨by decide, by decide⟩) (rppre (ci := 6) hK hE hsz hI rfl rfl) rfl rfl hl.1 rfl (lv_room (Nat.le_of_ble_eq_true rfl)) dX7_mendInner_112 ⟨by decide, by decide⟩) (fun M6 L7 H locs h hI => ?_)
              exact rpvret (Z := (fun M' L' => Z M' L')) hx hb hr hlocks hK hI dX7_mendInner_115 h
            refine lv_icmp_ne (tgt := 97) hx hb dX7_mendInner_80 (by decide) (fun c8 => ?_) (fun c8 => ?_)
            · have h := h.1 c8
              exact J97  _ _ _ h hI (lv_sub hl [1, 2, 4, 0] rfl)
            · have h := h.2 c8
              refine lv_aload_n hx hb dX7_mendInner_83 rfl (lv_at hl 1 rfl) ?_
              refine va_get (D := (dC, dI)) (ci := 6) (v := .ref (a 5)) (C := RX7) (T := TX7) (N := 44) hx hb hu uX7 hown hK hI.1 0 rfl rfl 23 (by decide) (hu _ uww_554) (fun _ h9 => h9) rfl dX7_mendInner_84 ?_
              refine lv_iload_n hx hb dX7_mendInner_87 rfl (lv_at hl 2 rfl) ?_
              refine lv_iload hx hb dX7_mendInner_88 (lv_at hl 0 rfl) ?_
              refine lv_iadd hx hb dX7_mendInner_90 ?_
              refine rpcalli_p hsz hI (va_runS (As := [.ref (a 5), .int (p1 + r4)]) (rest := []) ⟨hx, hb, hml, hown, hu⟩ (met_X7_twoAt_5 l dC dI a kA t _ M L (p1 + r4) _ h) (cwl_X7_115_S hu ⟨by decide, by decide⟩) (rppreS hK hE hsz hI) rfl rfl hl.1 rfl (lv_room (Nat.le_of_ble_eq_true rfl)) dX7_mendInner_91 ⟨by decide, by decide⟩) (fun r9 H locs h hI => ?_)
              refine lv_if_eq (tgt := 115) hx hb dX7_mendInner_94 (by decide) (fun c10 => ?_) (fun c10 => ?_)
              · have h := h.1 c10
                exact rpvret (Z := (fun M' L' => Z M' L')) hx hb hr hlocks hK hI dX7_mendInner_115 h
              · have h := h.2 c10
                exact J97  _ _ _ h hI (lv_sub hl [1, 2, 4, 0] rfl)
        refine lv_icmp_eq (tgt := 57) hx hb dX7_mendInner_45 (by decide) (fun c11 => ?_) (fun c11 => ?_)
        · have h := h.1 c11
          exact J57  _ _ _ h hI (lv_sub hl [0, 1, 2, 4] rfl)
        · have h := h.2 c11
          refine lv_aload_n hx hb dX7_mendInner_48 rfl (lv_at hl 0 rfl) ?_
          refine va_get (D := (dC, dI)) (ci := 6) (v := .int (M 0 35)) (C := RX7) (T := TX7) (N := 44) hx hb hu uX7 hown hK hI.1 0 rfl rfl 35 (by decide) (hu _ uww_671) (fun _ h9 => h9) rfl dX7_mendInner_49 ?_
          refine lv_bipush (v := (6 : Int32)) hx hb dX7_mendInner_52 (by decide) ?_
          refine lv_icmp_ne (tgt := 115) hx hb dX7_mendInner_54 (by decide) (fun c12 => ?_) (fun c12 => ?_)
          · have h := h.1 c12
            exact rpvret (Z := (fun M' L' => Z M' L')) hx hb hr hlocks hK hI dX7_mendInner_115 h
          · have h := h.2 c12
            exact J57  _ _ _ h hI (lv_sub hl [0, 1, 2, 4] rfl)
      · have h := h.2 c3
        refine lv_aload_n hx hb dX7_mendInner_24 rfl (lv_at hl 0 rfl) ?_
        refine lv_aload_n hx hb dX7_mendInner_25 rfl (lv_at hl 0 rfl) ?_
        refine va_get (D := (dC, dI)) (ci := 6) (v := .ref (a 5)) (C := RX7) (T := TX7) (N := 44) hx hb hu uX7 hown hK hI.1 0 rfl rfl 23 (by decide) (hu _ uww_554) (fun _ h9 => h9) rfl dX7_mendInner_26 ?_
        refine lv_iload_n hx hb dX7_mendInner_29 rfl (lv_at hl 1 rfl) ?_
        refine lv_iload_n hx hb dX7_mendInner_30 rfl (lv_at hl 3 rfl) ?_
        refine lv_iload hx hb dX7_mendInner_31 (lv_at hl 4 rfl) ?_
        refine rpcallv hsz hI (va_runV (As := [.ref (a 5), .int p1, .int p3, .int p5]) (rest := []) ⟨hx, hb, hml, hown, hu⟩ (met_X7_echo_0_5 l dC dI a kA t _ M L p1 p3 p5 _ h) (cwl_X7_278_X7 hu ⟨by decide, by decide⟩) (rppre (ci := 6) hK hE hsz hI rfl rfl) rfl rfl hl.1 rfl (lv_room (Nat.le_of_ble_eq_true rfl)) dX7_mendInner_33 ⟨by decide, by decide⟩) (fun M13 L14 H locs h hI => ?_)
        refine lv_goto (tgt := 115) hx hb dX7_mendInner_36 (by decide) ?_
        exact rpvret (Z := (fun M' L' => Z M' L')) hx hb hr hlocks hK hI dX7_mendInner_115 h
    refine lv_if_eq (tgt := 19) hx hb dX7_mendInner_12 (by decide) (fun c15 => ?_) (fun c15 => ?_)
    · have h := h.1 c15
      refine lv_bipush (v := (58 : Int32)) hx hb dX7_mendInner_19 (by decide) ?_
      exact J21 (58 : Int32) _ _ _ h hI (lv_sub hl [0, 1, 2, 3, 5] rfl)
    · have h := h.2 c15
      refine lv_iconst (v := (1 : Int32)) hx hb dX7_mendInner_15 (by decide) ?_
      refine lv_goto (tgt := 21) hx hb dX7_mendInner_16 (by decide) ?_
      exact J21 (1 : Int32) _ _ _ h hI (lv_sub hl [0, 1, 2, 3, 5] rfl)
  · have h := h.2 c1
    exact rpvret (Z := (fun M' L' => Z M' L')) hx hb hr hlocks hK hI dX7_mendInner_5 h
