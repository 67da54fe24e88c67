abbrev rmh_feed : Room := { frames := 7, cells := 1, slots := 6, locals := 136 }
abbrev avh_feed (a : Nat → Nat) (o : Nat) (p1 : Int32) (p2 : Int32) (p3 : Int32) (p4 : Int32) (p5 : Int32) : List Value := [.ref (a 0), .int p1, .int p2, .int p3, .int p4, .int p5, .ref o]
abbrev qh_feed (dC : Nat → ClassId) (dI : Nat → Nat → Nat) (a : Nat → Nat) (kA : Nat → ClassId) (o : Nat) (kO : ClassId) (sz : Nat) (Y : Int32 → cM → cL → (Nat → Int64) → Prop) : Array Value → State → Outcome → State → Prop := va_Qi (fun r (u : cM × cL × (Nat → Int64)) => Y r u.1 u.2.1 u.2.2) (lhAt dC dI a kA o kO) (lhA a o sz)
set_option maxHeartbeats 4000000 in
set_option maxRecDepth 100000 in
theorem mh_feed (l : Launch) (hls : l.stackTraces = false) (dC : Nat → ClassId) (dI : Nat → Nat → Nat) (a : Nat → Nat) (kA : Nat → ClassId) (t sa : Nat → Nat) (o : Nat) (kO : ClassId) (sz : Nat) (M : cM) (L : cL) (f : Nat → Int64) (p1 : Int32) (p2 : Int32) (p3 : Int32) (p4 : Int32) (p5 : Int32) (Y : Int32 → cM → cL → (Nat → Int64) → Prop) (h : wph_feed M L f p1 p2 p3 p4 p5 Y) : Met l yL_feed (Cond.codeWith yL_feed cL_feed 8 (some .int) [(0, 16, 19, 13)] :: uV) rmh_feed (va_Pc (avh_feed a o p1 p2 p3 p4 p5) (lhPre dC dI a kA t sa o kO M L f sz)) (qh_feed dC dI a kA o kO sz Y) 1 6 (lhA a o sz) := by
  refine lhenter (cc := cL_feed) (n := 8) (ret := (some .int)) (hh := [(0, 16, 19, 13)]) (by decide) rfl (Nat.le_of_ble_eq_true rfl) ?_
  intro p e s m below meth c ls hx hb hml hr hlocks hown hts hTab hsz hP hO hK hKo hD hne hE hX hS hl
  have hv : ∀ w ∈ uV, w.before (avh_feed a o p1 p2 p3 p4 p5).toArray s = true := fun w h => hts w (List.mem_cons_of_mem _ h)
  have hown : s.vm.findClass RL = some m.cls := hown
  have hl : lv_has ls 8 [(0, .ref (a 0)), (1, .int p1), (2, .int p2), (3, .int p3), (4, .int p4), (5, .int p5), (6, .ref o)] := hl
  unfold wph_feed at h
  have hsub := lhA_cp (a := a) (o := o) (sz := sz) (sz' := s.heap.size) (by rw [hsz]; exact Nat.le_refl _)
  refine lv_aload hx hb dL_feed_0 (lv_at hl 6 rfl) ?_
  refine lv_iconst (v := (0 : Int32)) hx hb dL_feed_2 (by decide) ?_
  refine lv_aload_n hx hb dL_feed_3 rfl (lv_at hl 0 rfl) ?_
  refine lv_iload_n hx hb dL_feed_4 rfl (lv_at hl 1 rfl) ?_
  refine lv_iload_n hx hb dL_feed_5 rfl (lv_at hl 2 rfl) ?_
  refine lv_iload_n hx hb dL_feed_6 rfl (lv_at hl 3 rfl) ?_
  refine lv_iload hx hb dL_feed_7 (lv_at hl 4 rfl) ?_
  refine lv_iload hx hb dL_feed_9 (lv_at hl 5 rfl) ?_
  refine vx_calli (vx_runV (As := [.int p1, .int p2, .int p3, .int p4, .int p5]) (rest := [.int (0 : Int32), .ref o]) ⟨hx, hb, hml, hown, hv⟩ (met_X6_feed_0 l hls dC dI a kA t sa s.heap.size M L p1 p2 p3 p4 p5 _ _ h) (cwV 5 hv (uIn3 uww_246 (List.forall_mem_cons.mpr ⟨ul_15, (List.forall_mem_cons.mpr ⟨ul_16, (List.forall_mem_cons.mpr ⟨ul_17, (List.forall_mem_cons.mpr ⟨(uWV _ uww_67), (fun _ h => nomatch h)⟩)⟩)⟩)⟩)) rfl rfl rfl (by decide +kernel) ⟨by decide, by decide⟩) (lhpre hsz hP hK hD hE hX hS) rfl rfl hl.1 rfl (lv_room (Nat.le_of_ble_eq_true rfl)) dL_feed_11 ⟨by decide, by decide⟩) hS (fun q _ h => hsub q h) hsub (fun q _ h => hsub q h) (fun E ce q9 u t H1 locs ht hvm hpx hBX hz1 hk1 hS hce hcv hcl => ?_) (fun r u t H1 locs ht hvm hw hB hz1 hk1 hS => ?_)
  · obtain ⟨rfl, hAt⟩ := hBX
    refine vx_catch (own := RL) (name := "java/lang/IllegalStateException") (E := "java/lang/IllegalStateException") hown [] ⟨0, 16, 19, 13⟩ [] (by rw [hTab]; rfl) (fun _ h => nomatch h) (by decide) (by decide) (hv _ ul_14) (va_Nw.use rfl (hX.1 _ (List.mem_of_getElem? (i := 0) rfl))) hce hcv hcl ?_
    refine lv_astore (lv' := [(7, .ref q9), (0, .ref (a 0)), (1, .int p1), (2, .int p2), (3, .int p3), (4, .int p4), (5, .int p5), (6, .ref o)]) hx hb dL_feed_19 hl (by decide) rfl (fun ls hl => ?_)
    refine lv_iconst (v := (1 : Int32)) hx hb dL_feed_21 (by decide) ?_
    have hO1 := oKeep hO hne hk1
    exact W.iret (v := 1) hx hb hr (fun t9 ht9 hW => ⟨⟨1, (M, L, f), rfl, hpx, by rw [ht9, ← ht]; exact hAt.1, by rw [ht9]; exact hO1⟩, hS.F ht9⟩) hS.2.2 dL_feed_22 hlocks
  · obtain ⟨M1, L1⟩ := u
    obtain ⟨e2, hw⟩ := hw
    try dsimp only at hw
    try dsimp only at e2
    subst e2
    have hO1 := oKeep hO hne hk1
    have hP1 := hB.1
    rw [ht] at hP1
    have hD1 : va_D (lhA a o sz) (cpWd a kA _ _) := hB.2.2.weaken (fun _ _ _ h => hsub _ h)
    dsimp only at hP1 hD1
    refine lv_i2l hx hb dL_feed_14 rfl ?_
    refine va_last hx hb hKo (hP1.app hO1) (cpoD hD1 (Or.inr (Or.inl rfl)) hne) hS 16 0 (cpo_get _ _ _ _ _ _ _) rfl vp_in_01 dL_feed_15 (fun H locs hP hD hS => ?_)
    rw [cpo_set] at hP hD
    have hP1 := va_P_left hP
    have hO1 := va_P_right hP
    refine lv_goto (tgt := 23) hx hb dL_feed_16 (by decide) ?_
    refine lv_iconst (v := (0 : Int32)) hx hb dL_feed_23 (by decide) ?_
    exact W.iret (v := 0) hx hb hr (fun t9 ht9 hW => ⟨⟨0, (_, _, _), rfl, hw, by rw [ht9]; exact hP1, by rw [ht9]; exact hO1⟩, hS.F ht9⟩) hS.2.2 dL_feed_24 hlocks
abbrev rmh_end : Room := { frames := 7, cells := 1, slots := 6, locals := 131 }
abbrev avh_end (a : Nat → Nat) (o : Nat) (p1 : Int32) : List Value := [.ref (a 0), .int p1, .ref o]
abbrev qh_end (dC : Nat → ClassId) (dI : Nat → Nat → Nat) (a : Nat → Nat) (kA : Nat → ClassId) (o : Nat) (kO : ClassId) (sz : Nat) (Y : Int32 → cM → cL → (Nat → Int64) → Prop) : Array Value → State → Outcome → State → Prop := va_Qi (fun r (u : cM × cL × (Nat → Int64)) => Y r u.1 u.2.1 u.2.2) (lhAt dC dI a kA o kO) (lhA a o sz)
set_option maxHeartbeats 4000000 in
set_option maxRecDepth 100000 in
theorem mh_end (l : Launch) (hls : l.stackTraces = false) (dC : Nat → ClassId) (dI : Nat → Nat → Nat) (a : Nat → Nat) (kA : Nat → ClassId) (t sa : Nat → Nat) (o : Nat) (kO : ClassId) (sz : Nat) (M : cM) (L : cL) (f : Nat → Int64) (p1 : Int32) (Y : Int32 → cM → cL → (Nat → Int64) → Prop) (h : wph_end M L f p1 Y) : Met l yL_end (Cond.codeWith yL_end cL_end 4 (some .int) [(0, 9, 12, 19)] :: uV) rmh_end (va_Pc (avh_end a o p1) (lhPre dC dI a kA t sa o kO M L f sz)) (qh_end dC dI a kA o kO sz Y) 1 6 (lhA a o sz) := by
  refine lhenter (cc := cL_end) (n := 4) (ret := (some .int)) (hh := [(0, 9, 12, 19)]) (by decide) rfl (Nat.le_of_ble_eq_true rfl) ?_
  intro p e s m below meth c ls hx hb hml hr hlocks hown hts hTab hsz hP hO hK hKo hD hne hE hX hS hl
  have hv : ∀ w ∈ uV, w.before (avh_end a o p1).toArray s = true := fun w h => hts w (List.mem_cons_of_mem _ h)
  have hown : s.vm.findClass RL = some m.cls := hown
  have hl : lv_has ls 4 [(0, .ref (a 0)), (1, .int p1), (2, .ref o)] := hl
  unfold wph_end at h
  have hsub := lhA_cp (a := a) (o := o) (sz := sz) (sz' := s.heap.size) (by rw [hsz]; exact Nat.le_refl _)
  refine lv_aload_n hx hb dL_end_0 rfl (lv_at hl 2 rfl) ?_
  refine lv_iconst (v := (0 : Int32)) hx hb dL_end_1 (by decide) ?_
  refine lv_aload_n hx hb dL_end_2 rfl (lv_at hl 0 rfl) ?_
  refine lv_iload_n hx hb dL_end_3 rfl (lv_at hl 1 rfl) ?_
  refine vx_calli (vx_runV (As := [.int p1]) (rest := [.int (0 : Int32), .ref o]) ⟨hx, hb, hml, hown, hv⟩ (met_X6_end_0 l hls dC dI a kA t sa s.heap.size M L p1 _ _ h) (cwV 1 hv (uIn3 uww_252 (List.forall_mem_cons.mpr ⟨ul_28, (List.forall_mem_cons.mpr ⟨ul_29, (List.forall_mem_cons.mpr ⟨ul_30, (List.forall_mem_cons.mpr ⟨(uWV _ uww_67), (fun _ h => nomatch h)⟩)⟩)⟩)⟩)) rfl rfl rfl (by decide +kernel) ⟨by decide, by decide⟩) (lhpre hsz hP hK hD hE hX hS) rfl rfl hl.1 rfl (lv_room (Nat.le_of_ble_eq_true rfl)) dL_end_4 ⟨by decide, by decide⟩) hS (fun q _ h => hsub q h) hsub (fun q _ h => hsub q h) (fun E ce q9 u t H1 locs ht hvm hpx hBX hz1 hk1 hS hce hcv hcl => ?_) (fun r u t H1 locs ht hvm hw hB hz1 hk1 hS => ?_)
  · obtain ⟨rfl, hAt⟩ := hBX
    refine vx_catch (own := RL) (name := "java/lang/IllegalArgumentException") (E := "java/lang/IllegalArgumentException") hown [] ⟨0, 9, 12, 19⟩ [] (by rw [hTab]; rfl) (fun _ h => nomatch h) (by decide) (by decide) (hv _ ul_27) (va_Nw.use rfl (hX.1 _ (List.mem_of_getElem? (i := 1) rfl))) hce hcv hcl ?_
    refine lv_astore_n (lv' := [(3, .ref q9), (0, .ref (a 0)), (1, .int p1), (2, .ref o)]) hx hb dL_end_12 rfl hl (by decide) rfl (fun ls hl => ?_)
    refine lv_iconst (v := (1 : Int32)) hx hb dL_end_13 (by decide) ?_
    have hO1 := oKeep hO hne hk1
    exact W.iret (v := 1) hx hb hr (fun t9 ht9 hW => ⟨⟨1, (M, L, f), rfl, hpx, by rw [ht9, ← ht]; exact hAt.1, by rw [ht9]; exact hO1⟩, hS.F ht9⟩) hS.2.2 dL_end_14 hlocks
  · obtain ⟨M1, L1⟩ := u
    obtain ⟨e2, hw⟩ := hw
    try dsimp only at hw
    try dsimp only at e2
    subst e2
    have hO1 := oKeep hO hne hk1
    have hP1 := hB.1
    rw [ht] at hP1
    have hD1 : va_D (lhA a o sz) (cpWd a kA _ _) := hB.2.2.weaken (fun _ _ _ h => hsub _ h)
    dsimp only at hP1 hD1
    refine lv_i2l hx hb dL_end_7 rfl ?_
    refine va_last hx hb hKo (hP1.app hO1) (cpoD hD1 (Or.inr (Or.inl rfl)) hne) hS 16 0 (cpo_get _ _ _ _ _ _ _) rfl vp_in_01 dL_end_8 (fun H locs hP hD hS => ?_)
    rw [cpo_set] at hP hD
    have hP1 := va_P_left hP
    have hO1 := va_P_right hP
    refine lv_goto (tgt := 15) hx hb dL_end_9 (by decide) ?_
    refine lv_iconst (v := (0 : Int32)) hx hb dL_end_15 (by decide) ?_
    exact W.iret (v := 0) hx hb hr (fun t9 ht9 hW => ⟨⟨0, (_, _, _), rfl, hw, by rw [ht9]; exact hP1, by rw [ht9]; exact hO1⟩, hS.F ht9⟩) hS.2.2 dL_end_16 hlocks
abbrev rmh_prefix : Room := { frames := 7, cells := 1, slots := 6, locals := 135 }
abbrev avh_prefix (a : Nat → Nat) (o : Nat) (p1 : Int64) (p3 : Int64) (p5 : Int32) : List Value := [.ref (a 0), .long p1, .long p3, .int p5]
abbrev qh_prefix (dC : Nat → ClassId) (dI : Nat → Nat → Nat) (a : Nat → Nat) (kA : Nat → ClassId) (o : Nat) (kO : ClassId) (sz : Nat) (Y : Int32 → cM → cL → (Nat → Int64) → Prop) : Array Value → State → Outcome → State → Prop := va_Qi (fun r (u : cM × cL × (Nat → Int64)) => Y r u.1 u.2.1 u.2.2) (lhAt dC dI a kA o kO) (lhA a o sz)
set_option maxHeartbeats 4000000 in
set_option maxRecDepth 100000 in
theorem mh_prefix (l : Launch) (hls : l.stackTraces = false) (dC : Nat → ClassId) (dI : Nat → Nat → Nat) (a : Nat → Nat) (kA : Nat → ClassId) (t sa : Nat → Nat) (o : Nat) (kO : ClassId) (sz : Nat) (M : cM) (L : cL) (f : Nat → Int64) (p1 : Int64) (p3 : Int64) (p5 : Int32) (Y : Int32 → cM → cL → (Nat → Int64) → Prop) (h : wph_prefix M L f p1 p3 p5 Y) : Met l yL_prefix (Cond.codeWith yL_prefix cL_prefix 7 (some .int) [(0, 8, 11, 19)] :: uV) rmh_prefix (va_Pc (avh_prefix a o p1 p3 p5) (lhPre dC dI a kA t sa o kO M L f sz)) (qh_prefix dC dI a kA o kO sz Y) 1 6 (lhA a o sz) := by
  refine lhenter (cc := cL_prefix) (n := 7) (ret := (some .int)) (hh := [(0, 8, 11, 19)]) (by decide) rfl (Nat.le_of_ble_eq_true rfl) ?_
  intro p e s m below meth c ls hx hb hml hr hlocks hown hts hTab hsz hP hO hK hKo hD hne hE hX hS hl
  have hv : ∀ w ∈ uV, w.before (avh_prefix a o p1 p3 p5).toArray s = true := fun w h => hts w (List.mem_cons_of_mem _ h)
  have hown : s.vm.findClass RL = some m.cls := hown
  have hl : lv_has ls 7 [(0, .ref (a 0)), (1, .long p1), (3, .long p3), (5, .int p5)] := hl
  unfold wph_prefix at h
  have hsub := lhA_cp (a := a) (o := o) (sz := sz) (sz' := s.heap.size) (by rw [hsz]; exact Nat.le_refl _)
  refine lv_aload_n hx hb dL_prefix_0 rfl (lv_at hl 0 rfl) ?_
  refine lv_lload_n hx hb dL_prefix_1 rfl (lv_at hl 1 rfl) ?_
  refine lv_lload_n hx hb dL_prefix_2 rfl (lv_at hl 2 rfl) ?_
  refine lv_iload hx hb dL_prefix_3 (lv_at hl 3 rfl) ?_
  refine vx_callv (vx_runV (As := [.long p1, .long p3, .int p5]) (rest := []) ⟨hx, hb, hml, hown, hv⟩ (met_X6_prefix_0 l hls dC dI a kA t sa s.heap.size M L p1 p3 p5 _ _ h) (cwV 3 hv (uIn3 uww_255 (List.forall_mem_cons.mpr ⟨ul_37, (List.forall_mem_cons.mpr ⟨ul_38, (List.forall_mem_cons.mpr ⟨ul_39, (List.forall_mem_cons.mpr ⟨(uWV _ uww_67), (fun _ h => nomatch h)⟩)⟩)⟩)⟩)) rfl rfl rfl (by decide +kernel) ⟨by decide, by decide⟩) (lhpre hsz hP hK hD hE hX hS) rfl rfl hl.1 rfl (lv_room (Nat.le_of_ble_eq_true rfl)) dL_prefix_5 ⟨by decide, by decide⟩) hS (fun q _ h => hsub q h) hsub (fun q _ h => hsub q h) (fun E ce q9 u t H1 locs ht hvm hpx hBX hz1 hk1 hS hce hcv hcl => ?_) (fun u t H1 locs ht hvm hw hB hz1 hk1 hS => ?_)
  · obtain ⟨rfl, hAt⟩ := hBX
    refine vx_catch (own := RL) (name := "java/lang/IllegalArgumentException") (E := "java/lang/IllegalArgumentException") hown [] ⟨0, 8, 11, 19⟩ [] (by rw [hTab]; rfl) (fun _ h => nomatch h) (by decide) (by decide) (hv _ ul_27) (va_Nw.use rfl (hX.1 _ (List.mem_of_getElem? (i := 1) rfl))) hce hcv hcl ?_
    refine lv_astore (lv' := [(6, .ref q9), (0, .ref (a 0)), (1, .long p1), (3, .long p3), (5, .int p5)]) hx hb dL_prefix_11 hl (by decide) rfl (fun ls hl => ?_)
    refine lv_iconst (v := (1 : Int32)) hx hb dL_prefix_13 (by decide) ?_
    have hO1 := oKeep hO hne hk1
    exact W.iret (v := 1) hx hb hr (fun t9 ht9 hW => ⟨⟨1, (M, L, f), rfl, hpx, by rw [ht9, ← ht]; exact hAt.1, by rw [ht9]; exact hO1⟩, hS.F ht9⟩) hS.2.2 dL_prefix_14 hlocks
  · obtain ⟨M1, L1⟩ := u
    try dsimp only at hw
    have hO1 := oKeep hO hne hk1
    have hP1 := hB.1
    rw [ht] at hP1
    have hD1 : va_D (lhA a o sz) (cpWd a kA _ _) := hB.2.2.weaken (fun _ _ _ h => hsub _ h)
    dsimp only at hP1 hD1
    refine lv_goto (tgt := 15) hx hb dL_prefix_8 (by decide) ?_
    refine lv_iconst (v := (0 : Int32)) hx hb dL_prefix_15 (by decide) ?_
    exact W.iret (v := 0) hx hb hr (fun t9 ht9 hW => ⟨⟨0, (_, _, _), rfl, hw, by rw [ht9]; exact hP1, by rw [ht9]; exact hO1⟩, hS.F ht9⟩) hS.2.2 dL_prefix_16 hlocks
abbrev rmh_limits : Room := { frames := 7, cells := 1, slots := 6, locals := 132 }
abbrev avh_limits (a : Nat → Nat) (o : Nat) (p1 : Int32) (p2 : Int32) : List Value := [.ref (a 0), .int p1, .int p2]
abbrev qh_limits (dC : Nat → ClassId) (dI : Nat → Nat → Nat) (a : Nat → Nat) (kA : Nat → ClassId) (o : Nat) (kO : ClassId) (sz : Nat) (Y : Int32 → cM → cL → (Nat → Int64) → Prop) : Array Value → State → Outcome → State → Prop := va_Qi (fun r (u : cM × cL × (Nat → Int64)) => Y r u.1 u.2.1 u.2.2) (lhAt dC dI a kA o kO) (lhA a o sz)
set_option maxHeartbeats 4000000 in
set_option maxRecDepth 100000 in
theorem mh_limits (l : Launch) (hls : l.stackTraces = false) (dC : Nat → ClassId) (dI : Nat → Nat → Nat) (a : Nat → Nat) (kA : Nat → ClassId) (t sa : Nat → Nat) (o : Nat) (kO : ClassId) (sz : Nat) (M : cM) (L : cL) (f : Nat → Int64) (p1 : Int32) (p2 : Int32) (Y : Int32 → cM → cL → (Nat → Int64) → Prop) (h : wph_limits M L f p1 p2 Y) : Met l yL_limits (Cond.codeWith yL_limits cL_limits 4 (some .int) [(0, 6, 9, 19)] :: uV) rmh_limits (va_Pc (avh_limits a o p1 p2) (lhPre dC dI a kA t sa o kO M L f sz)) (qh_limits dC dI a kA o kO sz Y) 1 6 (lhA a o sz) := by
  refine lhenter (cc := cL_limits) (n := 4) (ret := (some .int)) (hh := [(0, 6, 9, 19)]) (by decide) rfl (Nat.le_of_ble_eq_true rfl) ?_
  intro p e s m below meth c ls hx hb hml hr hlocks hown hts hTab hsz hP hO hK hKo hD hne hE hX hS hl
  have hv : ∀ w ∈ uV, w.before (avh_limits a o p1 p2).toArray s = true := fun w h => hts w (List.mem_cons_of_mem _ h)
  have hown : s.vm.findClass RL = some m.cls := hown
  have hl : lv_has ls 4 [(0, .ref (a 0)), (1, .int p1), (2, .int p2)] := hl
  unfold wph_limits at h
  have hsub := lhA_cp (a := a) (o := o) (sz := sz) (sz' := s.heap.size) (by rw [hsz]; exact Nat.le_refl _)
  refine lv_aload_n hx hb dL_limits_0 rfl (lv_at hl 0 rfl) ?_
  refine lv_iload_n hx hb dL_limits_1 rfl (lv_at hl 1 rfl) ?_
  refine lv_iload_n hx hb dL_limits_2 rfl (lv_at hl 2 rfl) ?_
  refine vx_callv (vx_runV (As := [.int p1, .int p2]) (rest := []) ⟨hx, hb, hml, hown, hv⟩ (met_X6_limits_0 l hls dC dI a kA t sa s.heap.size M L p1 p2 _ _ h) (cwV 2 hv (uIn3 uww_259 (List.forall_mem_cons.mpr ⟨ul_52, (List.forall_mem_cons.mpr ⟨ul_53, (List.forall_mem_cons.mpr ⟨ul_54, (List.forall_mem_cons.mpr ⟨(uWV _ uww_67), (fun _ h => nomatch h)⟩)⟩)⟩)⟩)) rfl rfl rfl (by decide +kernel) ⟨by decide, by decide⟩) (lhpre hsz hP hK hD hE hX hS) rfl rfl hl.1 rfl (lv_room (Nat.le_of_ble_eq_true rfl)) dL_limits_3 ⟨by decide, by decide⟩) hS (fun q _ h => hsub q h) hsub (fun q _ h => hsub q h) (fun E ce q9 u t H1 locs ht hvm hpx hBX hz1 hk1 hS hce hcv hcl => ?_) (fun u t H1 locs ht hvm hw hB hz1 hk1 hS => ?_)
  · obtain ⟨rfl, hAt⟩ := hBX
    refine vx_catch (own := RL) (name := "java/lang/IllegalArgumentException") (E := "java/lang/IllegalArgumentException") hown [] ⟨0, 6, 9, 19⟩ [] (by rw [hTab]; rfl) (fun _ h => nomatch h) (by decide) (by decide) (hv _ ul_27) (va_Nw.use rfl (hX.1 _ (List.mem_of_getElem? (i := 1) rfl))) hce hcv hcl ?_
    refine lv_astore_n (lv' := [(3, .ref q9), (0, .ref (a 0)), (1, .int p1), (2, .int p2)]) hx hb dL_limits_9 rfl hl (by decide) rfl (fun ls hl => ?_)
    refine lv_iconst (v := (1 : Int32)) hx hb dL_limits_10 (by decide) ?_
    have hO1 := oKeep hO hne hk1
    exact W.iret (v := 1) hx hb hr (fun t9 ht9 hW => ⟨⟨1, (M, L, f), rfl, hpx, by rw [ht9, ← ht]; exact hAt.1, by rw [ht9]; exact hO1⟩, hS.F ht9⟩) hS.2.2 dL_limits_11 hlocks
  · obtain ⟨M1, L1⟩ := u
    obtain ⟨e2, hw⟩ := hw
    try dsimp only at hw
    try dsimp only at e2
    subst e2
    have hO1 := oKeep hO hne hk1
    have hP1 := hB.1
    rw [ht] at hP1
    have hD1 : va_D (lhA a o sz) (cpWd a kA _ _) := hB.2.2.weaken (fun _ _ _ h => hsub _ h)
    dsimp only at hP1 hD1
    refine lv_goto (tgt := 12) hx hb dL_limits_6 (by decide) ?_
    refine lv_iconst (v := (0 : Int32)) hx hb dL_limits_12 (by decide) ?_
    exact W.iret (v := 0) hx hb hr (fun t9 ht9 hW => ⟨⟨0, (_, _, _), rfl, hw, by rw [ht9]; exact hP1, by rw [ht9]; exact hO1⟩, hS.F ht9⟩) hS.2.2 dL_limits_13 hlocks
abbrev rmh_octet : Room := { frames := 7, cells := 1, slots := 6, locals := 132 }
abbrev avh_octet (a : Nat → Nat) (o : Nat) (p1 : Int32) (p2 : Int32) : List Value := [.ref (a 0), .int p1, .int p2, .ref o]
abbrev qh_octet (dC : Nat → ClassId) (dI : Nat → Nat → Nat) (a : Nat → Nat) (kA : Nat → ClassId) (o : Nat) (kO : ClassId) (sz : Nat) (Y : Int32 → cM → cL → (Nat → Int64) → Prop) : Array Value → State → Outcome → State → Prop := va_Qi (fun r (u : cM × cL × (Nat → Int64)) => Y r u.1 u.2.1 u.2.2) (lhAt dC dI a kA o kO) (lhA a o sz)
set_option maxHeartbeats 4000000 in
set_option maxRecDepth 100000 in
theorem mh_octet (l : Launch) (hls : l.stackTraces = false) (dC : Nat → ClassId) (dI : Nat → Nat → Nat) (a : Nat → Nat) (kA : Nat → ClassId) (t sa : Nat → Nat) (o : Nat) (kO : ClassId) (sz : Nat) (M : cM) (L : cL) (f : Nat → Int64) (p1 : Int32) (p2 : Int32) (Y : Int32 → cM → cL → (Nat → Int64) → Prop) (h : wph_octet M L f p1 p2 Y) : Met l yL_octet (Cond.codeWith yL_octet cL_octet 5 (some .int) [(0, 10, 13, 33)] :: uV) rmh_octet (va_Pc (avh_octet a o p1 p2) (lhPre dC dI a kA t sa o kO M L f sz)) (qh_octet dC dI a kA o kO sz Y) 1 6 (lhA a o sz) := by
  refine lhenter (cc := cL_octet) (n := 5) (ret := (some .int)) (hh := [(0, 10, 13, 33)]) (by decide) rfl (Nat.le_of_ble_eq_true rfl) ?_
  intro p e s m below meth c ls hx hb hml hr hlocks hown hts hTab hsz hP hO hK hKo hD hne hE hX hS hl
  have hv : ∀ w ∈ uV, w.before (avh_octet a o p1 p2).toArray s = true := fun w h => hts w (List.mem_cons_of_mem _ h)
  have hown : s.vm.findClass RL = some m.cls := hown
  have hl : lv_has ls 5 [(0, .ref (a 0)), (1, .int p1), (2, .int p2), (3, .ref o)] := hl
  unfold wph_octet at h
  have hsub := lhA_cp (a := a) (o := o) (sz := sz) (sz' := s.heap.size) (by rw [hsz]; exact Nat.le_refl _)
  refine lv_aload_n hx hb dL_octet_0 rfl (lv_at hl 3 rfl) ?_
  refine lv_iconst (v := (0 : Int32)) hx hb dL_octet_1 (by decide) ?_
  refine lv_aload_n hx hb dL_octet_2 rfl (lv_at hl 0 rfl) ?_
  refine lv_iload_n hx hb dL_octet_3 rfl (lv_at hl 1 rfl) ?_
  refine lv_iload_n hx hb dL_octet_4 rfl (lv_at hl 2 rfl) ?_
  refine vx_calli (vx_runV (As := [.int p1, .int p2]) (rest := [.int (0 : Int32), .ref o]) ⟨hx, hb, hml, hown, hv⟩ (met_X6_octet_0 l hls dC dI a kA t sa s.heap.size M L p1 p2 _ _ h) (cwV 2 hv (uIn3 uww_526 (List.forall_mem_cons.mpr ⟨ul_92, (List.forall_mem_cons.mpr ⟨ul_93, (List.forall_mem_cons.mpr ⟨ul_94, (List.forall_mem_cons.mpr ⟨(uWV _ uww_67), (fun _ h => nomatch h)⟩)⟩)⟩)⟩)) rfl rfl rfl (by decide +kernel) ⟨by decide, by decide⟩) (lhpre hsz hP hK hD hE hX hS) rfl rfl hl.1 rfl (lv_room (Nat.le_of_ble_eq_true rfl)) dL_octet_5 ⟨by decide, by decide⟩) hS (fun q _ h => hsub q h) hsub (fun q _ h => hsub q h) (fun E ce q9 u t H1 locs ht hvm hpx hBX hz1 hk1 hS hce hcv hcl => ?_) (fun r u t H1 locs ht hvm hw hB hz1 hk1 hS => ?_)
  · obtain ⟨rfl, hAt⟩ := hBX
    refine vx_catch (own := RL) (name := "java/lang/IndexOutOfBoundsException") (E := "java/lang/IndexOutOfBoundsException") hown [] ⟨0, 10, 13, 33⟩ [] (by rw [hTab]; rfl) (fun _ h => nomatch h) (by decide) (by decide) (hv _ ul_91) (va_Nw.use rfl (hX.1 _ (List.mem_of_getElem? (i := 2) rfl))) hce hcv hcl ?_
    refine lv_astore (lv' := [(4, .ref q9), (0, .ref (a 0)), (1, .int p1), (2, .int p2), (3, .ref o)]) hx hb dL_octet_13 hl (by decide) rfl (fun ls hl => ?_)
    refine lv_iconst (v := (1 : Int32)) hx hb dL_octet_15 (by decide) ?_
    have hO1 := oKeep hO hne hk1
    exact W.iret (v := 1) hx hb hr (fun t9 ht9 hW => ⟨⟨1, (M, L, f), rfl, hpx, by rw [ht9, ← ht]; exact hAt.1, by rw [ht9]; exact hO1⟩, hS.F ht9⟩) hS.2.2 dL_octet_16 hlocks
  · obtain ⟨M1, L1⟩ := u
    obtain ⟨e1, e2, hw⟩ := hw
    try dsimp only at hw
    try dsimp only at e1
    subst e1
    try dsimp only at e2
    subst e2
    have hO1 := oKeep hO hne hk1
    have hP1 := hB.1
    rw [ht] at hP1
    have hD1 : va_D (lhA a o sz) (cpWd a kA _ _) := hB.2.2.weaken (fun _ _ _ h => hsub _ h)
    dsimp only at hP1 hD1
    refine lv_i2l hx hb dL_octet_8 rfl ?_
    refine va_last hx hb hKo (hP1.app hO1) (cpoD hD1 (Or.inr (Or.inl rfl)) hne) hS 16 0 (cpo_get _ _ _ _ _ _ _) rfl vp_in_01 dL_octet_9 (fun H locs hP hD hS => ?_)
    rw [cpo_set] at hP hD
    have hP1 := va_P_left hP
    have hO1 := va_P_right hP
    refine lv_goto (tgt := 17) hx hb dL_octet_10 (by decide) ?_
    refine lv_iconst (v := (0 : Int32)) hx hb dL_octet_17 (by decide) ?_
    exact W.iret (v := 0) hx hb hr (fun t9 ht9 hW => ⟨⟨0, (_, _, _), rfl, hw, by rw [ht9]; exact hP1, by rw [ht9]; exact hO1⟩, hS.F ht9⟩) hS.2.2 dL_octet_18 hlocks
abbrev rmh_check : Room := { frames := 7, cells := 1, slots := 6, locals := 135 }
abbrev avh_check (a : Nat → Nat) (o : Nat) (p1 : Int32) (p2 : Int32) (p3 : Int32) : List Value := [.ref (a 0), .int p1, .int p2, .int p3, .ref o]
abbrev qh_check (dC : Nat → ClassId) (dI : Nat → Nat → Nat) (a : Nat → Nat) (kA : Nat → ClassId) (o : Nat) (kO : ClassId) (sz : Nat) (Y : Int32 → cM → cL → (Nat → Int64) → Prop) : Array Value → State → Outcome → State → Prop := va_Qi (fun r (u : cM × cL × (Nat → Int64)) => Y r u.1 u.2.1 u.2.2) (lhAt dC dI a kA o kO) (lhA a o sz)
set_option maxHeartbeats 4000000 in
set_option maxRecDepth 100000 in
theorem mh_check (l : Launch) (hls : l.stackTraces = false) (dC : Nat → ClassId) (dI : Nat → Nat → Nat) (a : Nat → Nat) (kA : Nat → ClassId) (t sa : Nat → Nat) (o : Nat) (kO : ClassId) (sz : Nat) (M : cM) (L : cL) (f : Nat → Int64) (p1 : Int32) (p2 : Int32) (p3 : Int32) (Y : Int32 → cM → cL → (Nat → Int64) → Prop) (h : wph_check M L f p1 p2 p3 Y) : Met l yL_check (Cond.codeWith yL_check cL_check 6 (some .int) [(0, 12, 15, 33)] :: uV) rmh_check (va_Pc (avh_check a o p1 p2 p3) (lhPre dC dI a kA t sa o kO M L f sz)) (qh_check dC dI a kA o kO sz Y) 1 6 (lhA a o sz) := by
  refine lhenter (cc := cL_check) (n := 6) (ret := (some .int)) (hh := [(0, 12, 15, 33)]) (by decide) rfl (Nat.le_of_ble_eq_true rfl) ?_
  intro p e s m below meth c ls hx hb hml hr hlocks hown hts hTab hsz hP hO hK hKo hD hne hE hX hS hl
  have hv : ∀ w ∈ uV, w.before (avh_check a o p1 p2 p3).toArray s = true := fun w h => hts w (List.mem_cons_of_mem _ h)
  have hown : s.vm.findClass RL = some m.cls := hown
  have hl : lv_has ls 6 [(0, .ref (a 0)), (1, .int p1), (2, .int p2), (3, .int p3), (4, .ref o)] := hl
  unfold wph_check at h
  have hsub := lhA_cp (a := a) (o := o) (sz := sz) (sz' := s.heap.size) (by rw [hsz]; exact Nat.le_refl _)
  refine lv_aload hx hb dL_check_0 (lv_at hl 4 rfl) ?_
  refine lv_iconst (v := (0 : Int32)) hx hb dL_check_2 (by decide) ?_
  refine lv_aload_n hx hb dL_check_3 rfl (lv_at hl 0 rfl) ?_
  refine lv_iload_n hx hb dL_check_4 rfl (lv_at hl 1 rfl) ?_
  refine lv_iload_n hx hb dL_check_5 rfl (lv_at hl 2 rfl) ?_
  refine lv_iload_n hx hb dL_check_6 rfl (lv_at hl 3 rfl) ?_
  refine vx_calli (vx_runV (As := [.int p1, .int p2, .int p3]) (rest := [.int (0 : Int32), .ref o]) ⟨hx, hb, hml, hown, hv⟩ (met_X6_check_0 l hls dC dI a kA t sa s.heap.size M L p1 p2 p3 _ _ h) (cwV 3 hv (uIn3 uww_532 (List.forall_mem_cons.mpr ⟨ul_101, (List.forall_mem_cons.mpr ⟨ul_102, (List.forall_mem_cons.mpr ⟨ul_103, (List.forall_mem_cons.mpr ⟨(uWV _ uww_67), (fun _ h => nomatch h)⟩)⟩)⟩)⟩)) rfl rfl rfl (by decide +kernel) ⟨by decide, by decide⟩) (lhpre hsz hP hK hD hE hX hS) rfl rfl hl.1 rfl (lv_room (Nat.le_of_ble_eq_true rfl)) dL_check_7 ⟨by decide, by decide⟩) hS (fun q _ h => hsub q h) hsub (fun q _ h => hsub q h) (fun E ce q9 u t H1 locs ht hvm hpx hBX hz1 hk1 hS hce hcv hcl => ?_) (fun r u t H1 locs ht hvm hw hB hz1 hk1 hS => ?_)
  · obtain ⟨rfl, hAt⟩ := hBX
    refine vx_catch (own := RL) (name := "java/lang/IndexOutOfBoundsException") (E := "java/lang/IndexOutOfBoundsException") hown [] ⟨0, 12, 15, 33⟩ [] (by rw [hTab]; rfl) (fun _ h => nomatch h) (by decide) (by decide) (hv _ ul_91) (va_Nw.use rfl (hX.1 _ (List.mem_of_getElem? (i := 2) rfl))) hce hcv hcl ?_
    refine lv_astore (lv' := [(5, .ref q9), (0, .ref (a 0)), (1, .int p1), (2, .int p2), (3, .int p3), (4, .ref o)]) hx hb dL_check_15 hl (by decide) rfl (fun ls hl => ?_)
    refine lv_iconst (v := (1 : Int32)) hx hb dL_check_17 (by decide) ?_
    have hO1 := oKeep hO hne hk1
    exact W.iret (v := 1) hx hb hr (fun t9 ht9 hW => ⟨⟨1, (M, L, f), rfl, hpx, by rw [ht9, ← ht]; exact hAt.1, by rw [ht9]; exact hO1⟩, hS.F ht9⟩) hS.2.2 dL_check_18 hlocks
  · obtain ⟨M1, L1⟩ := u
    obtain ⟨e1, e2, hw⟩ := hw
    try dsimp only at hw
    try dsimp only at e1
    subst e1
    try dsimp only at e2
    subst e2
    have hO1 := oKeep hO hne hk1
    have hP1 := hB.1
    rw [ht] at hP1
    have hD1 : va_D (lhA a o sz) (cpWd a kA _ _) := hB.2.2.weaken (fun _ _ _ h => hsub _ h)
    dsimp only at hP1 hD1
    refine lv_i2l hx hb dL_check_10 rfl ?_
    refine va_last hx hb hKo (hP1.app hO1) (cpoD hD1 (Or.inr (Or.inl rfl)) hne) hS 16 0 (cpo_get _ _ _ _ _ _ _) rfl vp_in_01 dL_check_11 (fun H locs hP hD hS => ?_)
    rw [cpo_set] at hP hD
    have hP1 := va_P_left hP
    have hO1 := va_P_right hP
    refine lv_goto (tgt := 19) hx hb dL_check_12 (by decide) ?_
    refine lv_iconst (v := (0 : Int32)) hx hb dL_check_19 (by decide) ?_
    exact W.iret (v := 0) hx hb hr (fun t9 ht9 hW => ⟨⟨0, (_, _, _), rfl, hw, by rw [ht9]; exact hP1, by rw [ht9]; exact hO1⟩, hS.F ht9⟩) hS.2.2 dL_check_20 hlocks
