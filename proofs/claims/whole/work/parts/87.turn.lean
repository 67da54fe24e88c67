set_option maxHeartbeats 8000000 in
set_option maxRecDepth 100000 in
theorem law_turn {p : Program} {l : Launch} {e : Env} {s : State} {m : MethodId} {below : List Frame} {meth : Method} {c : Code} {dC : Nat → ClassId} {dI : Nat → Nat → Nat} {a : Nat → Nat} {kA : Nat → ClassId} {b : Nat → Nat} {kB : Nat → ClassId} {o : Nat} {kO : ClassId} {t sa : Nat → Nat} {sc LL : Nat} {xs : Nat → Int32} (hls : l.stackTraces = false) (hx : p.tables.exec = Jvm.exec) (hb : c.code = cL_law) (hml : c.maxLocals = 7) (hown : s.vm.findClass RL = some m.cls) (hv : ∀ w ∈ uV, w.before #[Value.ref sc] s = true) (hX : va_X sc LL xs s s.heap) (hbl : sc < s.heap.size) (F : lwF dC dI a kA b kB o kO t sa s)
    (M : cM) (L : cL) (N : cM) (K : cL) (f : Nat → Int64) (x4 : Int32) (H : Heap) (locs : List Loc) (ls : Array Slot) (kc ks : Nat) (hkc : kc + 1 ≤ 601024) (hks : ks + 11 ≤ 7293034) (Z : cM → cL → cM → cL → (Nat → Int64) → Prop) (h : wp_turn LL xs x4 M L N K f Z) (hI : lwI dC dI a kA b kB o kO s M L N K f H locs) (hl : lv_has ls 7 [(0, .ref sc), (1, .ref (a 0)), (2, .ref (b 0)), (3, .ref o), (4, .int x4)])
    (hZ : ∀ (M : cM) (L : cL) (N : cM) (K : cL) (f : Nat → Int64) (H : Heap) (locs : List Loc) (ls : Array Slot), Z M L N K f → lwI dC dI a kA b kB o kO s M L N K f H locs → lv_has ls 7 [(0, .ref sc), (1, .ref (a 0)), (2, .ref (b 0)), (3, .ref o), (4, .int x4)] → W p l e room_1 s m #[Value.ref sc] below meth c H locs (kc + 1) (ks + 11) (lw_Z below #[Value.ref sc] s) (F0 m 1019 ls [])) :
    W p l e room_1 s m #[Value.ref sc] below meth c H locs kc ks (lw_Z below #[Value.ref sc] s) (F0 m 33 ls []) := by
  have hbA : ¬ gA s sc := Nat.not_le.mpr hbl
  unfold wp_turn at h
  refine lv_aload_n hx hb dL_law_33 rfl (lv_at hl 0 rfl) ?_
  refine lv_iload hx hb dL_law_34 (lv_at hl 4 rfl) ?_
  refine va_sld hx hb hX hbl hbA hI.2.2.2 h.1 dL_law_36 ?_
  have h := h.2
  refine lv_bipush (v := (15 : Int32)) hx hb dL_law_37 (by decide) ?_
  refine lv_iand hx hb dL_law_39 ?_
  by_cases c40_0 : ((xs x4.toNatClampNeg) &&& (15 : Int32)) = (0 : Int32)
  · have h := h.1 c40_0
    refine lv_tableIn (off := 76) (tgt := 116) hx hb dL_law_40 (by rw [c40_0]; decide) (by rw [c40_0]; decide) (by rw [c40_0]; rfl) (by decide) ?_
    refine lv_aload_n hx hb dL_law_116 rfl (lv_at hl 1 rfl) ?_
    refine lv_aload_n hx hb dL_law_117 rfl (lv_at hl 0 rfl) ?_
    refine lv_iload hx hb dL_law_118 (lv_at hl 4 rfl) ?_
    refine lv_iconst (v := (1 : Int32)) hx hb dL_law_120 (by decide) ?_
    refine lv_iadd hx hb dL_law_121 ?_
    refine va_sld hx hb hX hbl hbA hI.2.2.2 h.1 dL_law_122 ?_
    have h := h.2
    refine lv_aload_n hx hb dL_law_123 rfl (lv_at hl 0 rfl) ?_
    refine lv_iload hx hb dL_law_124 (lv_at hl 4 rfl) ?_
    refine lv_iconst (v := (2 : Int32)) hx hb dL_law_126 (by decide) ?_
    refine lv_iadd hx hb dL_law_127 ?_
    refine va_sld hx hb hX hbl hbA hI.2.2.2 h.1 dL_law_128 ?_
    have h := h.2
    refine lv_aload_n hx hb dL_law_129 rfl (lv_at hl 0 rfl) ?_
    refine lv_iload hx hb dL_law_130 (lv_at hl 4 rfl) ?_
    refine lv_iconst (v := (3 : Int32)) hx hb dL_law_132 (by decide) ?_
    refine lv_iadd hx hb dL_law_133 ?_
    refine va_sld hx hb hX hbl hbA hI.2.2.2 h.1 dL_law_134 ?_
    have h := h.2
    refine lv_aload_n hx hb dL_law_135 rfl (lv_at hl 0 rfl) ?_
    refine lv_iload hx hb dL_law_136 (lv_at hl 4 rfl) ?_
    refine lv_iconst (v := (4 : Int32)) hx hb dL_law_138 (by decide) ?_
    refine lv_iadd hx hb dL_law_139 ?_
    refine va_sld hx hb hX hbl hbA hI.2.2.2 h.1 dL_law_140 ?_
    have h := h.2
    refine lv_aload_n hx hb dL_law_141 rfl (lv_at hl 0 rfl) ?_
    refine lv_iload hx hb dL_law_142 (lv_at hl 4 rfl) ?_
    refine lv_iconst (v := (5 : Int32)) hx hb dL_law_144 (by decide) ?_
    refine lv_iadd hx hb dL_law_145 ?_
    refine va_sld hx hb hX hbl hbA hI.2.2.2 h.1 dL_law_146 ?_
    have h := h.2
    refine lv_aload_n hx hb dL_law_147 rfl (lv_at hl 3 rfl) ?_
    refine lw_hcall F hI (vx_runSW (As := [.ref (a 0), .int (xs (x4 + (1 : Int32)).toNatClampNeg), .int (xs (x4 + (2 : Int32)).toNatClampNeg), .int (xs (x4 + (3 : Int32)).toNatClampNeg), .int (xs (x4 + (4 : Int32)).toNatClampNeg), .int (xs (x4 + (5 : Int32)).toNatClampNeg), .ref (o)]) (rest := []) ⟨hx, hb, hml, hown, hv⟩ (mh_feed l hls dC dI a kA t sa o kO _ M L f (xs (x4 + (1 : Int32)).toNatClampNeg) (xs (x4 + (2 : Int32)).toNatClampNeg) (xs (x4 + (3 : Int32)).toNatClampNeg) (xs (x4 + (4 : Int32)).toNatClampNeg) (xs (x4 + (5 : Int32)).toNatClampNeg) _ h) (vx_cwSW (hh := [(0, 16, 19, 13)]) 7 hv (uIn4 ul_13 (List.forall_mem_cons.mpr ⟨ul_10, (List.forall_mem_cons.mpr ⟨ul_11, (List.forall_mem_cons.mpr ⟨ul_12, (fun _ h => nomatch h)⟩)⟩)⟩)) rfl rfl rfl (by decide +kernel) ⟨by decide, by decide⟩) (lw_hpre F hI) rfl rfl hl.1 rfl (lv_room (Nat.le_of_ble_eq_true rfl)) dL_law_148 ⟨by show _ ≤ 601024; omega, by show _ ≤ 7293034; omega⟩) (fun r1 M2 L3 f4 H locs h hI => ?_)
    refine lv_istore (lv' := [(5, .int r1), (0, .ref (sc)), (1, .ref (a 0)), (2, .ref (b 0)), (3, .ref (o)), (4, .int x4)]) hx hb dL_law_151 hl (by decide) rfl (fun ls hl => ?_)
    refine lv_aload_n hx hb dL_law_153 rfl (lv_at hl 3 rfl) ?_
    refine lv_aload_n hx hb dL_law_154 rfl (lv_at hl 1 rfl) ?_
    refine lv_iload hx hb dL_law_155 (lv_at hl 5 rfl) ?_
    refine lv_iconst (v := (1 : Int32)) hx hb dL_law_157 (by decide) ?_
    refine lv_iadd hx hb dL_law_158 ?_
    refine va_sld hx hb hX hbl hbA hI.2.2.2 h.1 dL_law_159 ?_
    have h := h.2
    refine lv_aload_n hx hb dL_law_160 rfl (lv_at hl 1 rfl) ?_
    refine lv_iload hx hb dL_law_161 (lv_at hl 5 rfl) ?_
    refine lv_iconst (v := (2 : Int32)) hx hb dL_law_163 (by decide) ?_
    refine lv_iadd hx hb dL_law_164 ?_
    refine va_sld hx hb hX hbl hbA hI.2.2.2 h.1 dL_law_165 ?_
    have h := h.2
    refine lv_aload_n hx hb dL_law_166 rfl (lv_at hl 1 rfl) ?_
    refine lv_iload hx hb dL_law_167 (lv_at hl 5 rfl) ?_
    refine lv_iconst (v := (3 : Int32)) hx hb dL_law_169 (by decide) ?_
    refine lv_iadd hx hb dL_law_170 ?_
    refine va_sld hx hb hX hbl hbA hI.2.2.2 h.1 dL_law_171 ?_
    have h := h.2
    refine lv_aload_n hx hb dL_law_172 rfl (lv_at hl 1 rfl) ?_
    refine lv_iload hx hb dL_law_173 (lv_at hl 5 rfl) ?_
    refine lv_iconst (v := (4 : Int32)) hx hb dL_law_175 (by decide) ?_
    refine lv_iadd hx hb dL_law_176 ?_
    refine va_sld hx hb hX hbl hbA hI.2.2.2 h.1 dL_law_177 ?_
    have h := h.2
    refine lv_aload_n hx hb dL_law_178 rfl (lv_at hl 1 rfl) ?_
    refine lv_iload hx hb dL_law_179 (lv_at hl 5 rfl) ?_
    refine lv_iconst (v := (5 : Int32)) hx hb dL_law_181 (by decide) ?_
    refine lv_iadd hx hb dL_law_182 ?_
    refine va_sld hx hb hX hbl hbA hI.2.2.2 h.1 dL_law_183 ?_
    have h := h.2
    refine lw_rpi_m F hI (va_runV (As := [.int (xs (x4 + (1 : Int32)).toNatClampNeg), .int (xs (x4 + (2 : Int32)).toNatClampNeg), .int (xs (x4 + (3 : Int32)).toNatClampNeg), .int (xs (x4 + (4 : Int32)).toNatClampNeg), .int (xs (x4 + (5 : Int32)).toNatClampNeg)]) (rest := []) ⟨hx, hb, hml, hown, hv⟩ (met_X7_feed_0 l dC dI b kB t _ N K (xs (x4 + (1 : Int32)).toNatClampNeg) (xs (x4 + (2 : Int32)).toNatClampNeg) (xs (x4 + (3 : Int32)).toNatClampNeg) (xs (x4 + (4 : Int32)).toNatClampNeg) (xs (x4 + (5 : Int32)).toNatClampNeg) _ h) (cwV 5 hv (uIn3 uww_559 (List.forall_mem_cons.mpr ⟨ul_18, (List.forall_mem_cons.mpr ⟨ul_19, (List.forall_mem_cons.mpr ⟨ul_20, (List.forall_mem_cons.mpr ⟨(uWV _ uww_563), (fun _ h => nomatch h)⟩)⟩)⟩)⟩)) rfl rfl rfl (by decide +kernel) ⟨by decide, by decide⟩) (lw_rppre F hI) rfl rfl hl.1 rfl (lv_room (Nat.le_of_ble_eq_true rfl)) dL_law_184 ⟨by show _ ≤ 601024; omega, by show _ ≤ 7293034; omega⟩) (fun r5 M6 H locs h hI => ?_)
    refine lv_istore (lv' := [(6, .int r5), (5, .int r1), (0, .ref (sc)), (1, .ref (a 0)), (2, .ref (b 0)), (3, .ref (o)), (4, .int x4)]) hx hb dL_law_187 hl (by decide) rfl (fun ls hl => ?_)
    refine lv_aload_n hx hb dL_law_189 rfl (lv_at hl 4 rfl) ?_
    refine lw_rpi_p F hI (va_runV (As := []) (rest := []) ⟨hx, hb, hml, hown, hv⟩ (met_X7_thrown_0 l dC dI b kB t _ M6 K  _ h) (cwV 0 hv (uIn3 uww_555 (List.forall_mem_cons.mpr ⟨ul_21, (List.forall_mem_cons.mpr ⟨ul_22, (List.forall_mem_cons.mpr ⟨ul_23, (List.forall_mem_cons.mpr ⟨(uWV _ uww_563), (fun _ h => nomatch h)⟩)⟩)⟩)⟩)) rfl rfl rfl (by decide +kernel) ⟨by decide, by decide⟩) (lw_rppre F hI) rfl rfl hl.1 rfl (lv_room (Nat.le_of_ble_eq_true rfl)) dL_law_190 ⟨by show _ ≤ 601024; omega, by show _ ≤ 7293034; omega⟩) (fun r7 H locs h hI => ?_)
    refine lv_iload hx hb dL_law_193 (lv_at hl 1 rfl) ?_
    refine lv_icmp_eq (tgt := 200) hx hb dL_law_195 (by decide) (fun c8 => ?_) (fun c8 => ?_)
    · have h := h.1 c8
      refine lv_iload hx hb dL_law_200 (lv_at hl 1 rfl) ?_
      obtain ⟨K217, hK217, h⟩ := h
      have J217 : ∀  (H : Heap) (locs : List Loc) (ls : Array Slot), K217  → lwI dC dI a kA b kB o kO s M2 L3 M6 K f4 H locs → lv_has ls 7 [(0, .ref (sc)), (1, .ref (a 0)), (2, .ref (b 0)), (3, .ref (o)), (4, .int x4)] → W p l e room_1 s m #[Value.ref sc] below meth c H locs (kc + 1) (ks + 11) (lw_Z below #[Value.ref sc] s) (F0 m 217 ls []) := by
        intro  H locs ls h hI hl
        have h := hK217  h
        refine lv_goto (tgt := 1019) hx hb dL_law_217 (by decide) ?_
        refine W.widen (k := kc + 1) (n := ks + 11) (by omega) (by omega) ?_
        exact hZ M2 L3 M6 K f4 _ _ _ h hI (lv_sub hl [0, 1, 2, 3, 4] rfl)
      refine lv_if_ne (tgt := 217) hx hb dL_law_202 (by decide) (fun c9 => ?_) (fun c9 => ?_)
      · have h := h.1 c9
        refine W.widen (k := kc + 1) (n := ks + 11) (by omega) (by omega) ?_
        exact J217  _ _ _ h hI (lv_sub hl [2, 3, 4, 5, 6] rfl)
      · have h := h.2 c9
        refine lv_aload_n hx hb dL_law_205 rfl (lv_at hl 5 rfl) ?_
        refine lv_iconst (v := (0 : Int32)) hx hb dL_law_206 (by decide) ?_
        refine va_lald hx hb F.2.2.2.2.2.2.2.2.1 hI.2.2.1 0 0 rfl rfl vp_in_01 dL_law_207 ?_
        refine lv_iload hx hb dL_law_208 (lv_at hl 0 rfl) ?_
        refine lv_i2l hx hb dL_law_210 rfl ?_
        refine W.lcmp hx hb dL_law_211 ?_
        refine lv_if_eq (tgt := 217) hx hb dL_law_212 (by decide) (fun c10 => ?_) (fun c10 => ?_)
        · have h := h.1 c10
          refine W.widen (k := kc + 1) (n := ks + 11) (by omega) (by omega) ?_
          exact J217  _ _ _ h hI (lv_sub hl [2, 3, 4, 5, 6] rfl)
        · have h := h.2 c10
          refine lv_iconst (v := (0 : Int32)) hx hb dL_law_215 (by decide) ?_
          exact h.elim
    · have h := h.2 c8
      refine lv_iconst (v := (0 : Int32)) hx hb dL_law_198 (by decide) ?_
      exact h.elim
  · have h := h.2 c40_0
    by_cases c40_1 : ((xs x4.toNatClampNeg) &&& (15 : Int32)) = (1 : Int32)
    · have h := h.1 c40_1
      refine lv_tableIn (off := 180) (tgt := 220) hx hb dL_law_40 (by rw [c40_1]; decide) (by rw [c40_1]; decide) (by rw [c40_1]; rfl) (by decide) ?_
      refine lv_aload_n hx hb dL_law_220 rfl (lv_at hl 1 rfl) ?_
      refine lv_aload_n hx hb dL_law_221 rfl (lv_at hl 0 rfl) ?_
      refine lv_iload hx hb dL_law_222 (lv_at hl 4 rfl) ?_
      refine lv_iconst (v := (1 : Int32)) hx hb dL_law_224 (by decide) ?_
      refine lv_iadd hx hb dL_law_225 ?_
      refine va_sld hx hb hX hbl hbA hI.2.2.2 h.1 dL_law_226 ?_
      have h := h.2
      refine lv_aload_n hx hb dL_law_227 rfl (lv_at hl 3 rfl) ?_
      refine lw_hcall F hI (vx_runSW (As := [.ref (a 0), .int (xs (x4 + (1 : Int32)).toNatClampNeg), .ref (o)]) (rest := []) ⟨hx, hb, hml, hown, hv⟩ (mh_end l hls dC dI a kA t sa o kO _ M L f (xs (x4 + (1 : Int32)).toNatClampNeg) _ h) (vx_cwSW (hh := [(0, 9, 12, 19)]) 3 hv (uIn4 ul_26 (List.forall_mem_cons.mpr ⟨ul_24, (List.forall_mem_cons.mpr ⟨ul_25, (List.forall_mem_cons.mpr ⟨ul_12, (fun _ h => nomatch h)⟩)⟩)⟩)) rfl rfl rfl (by decide +kernel) ⟨by decide, by decide⟩) (lw_hpre F hI) rfl rfl hl.1 rfl (lv_room (Nat.le_of_ble_eq_true rfl)) dL_law_228 ⟨by show _ ≤ 601024; omega, by show _ ≤ 7293034; omega⟩) (fun r11 M12 L13 f14 H locs h hI => ?_)
      refine lv_istore (lv' := [(5, .int r11), (0, .ref (sc)), (1, .ref (a 0)), (2, .ref (b 0)), (3, .ref (o)), (4, .int x4)]) hx hb dL_law_231 hl (by decide) rfl (fun ls hl => ?_)
      refine lv_aload_n hx hb dL_law_233 rfl (lv_at hl 3 rfl) ?_
      refine lv_aload_n hx hb dL_law_234 rfl (lv_at hl 1 rfl) ?_
      refine lv_iload hx hb dL_law_235 (lv_at hl 5 rfl) ?_
      refine lv_iconst (v := (1 : Int32)) hx hb dL_law_237 (by decide) ?_
      refine lv_iadd hx hb dL_law_238 ?_
      refine va_sld hx hb hX hbl hbA hI.2.2.2 h.1 dL_law_239 ?_
      have h := h.2
      refine lw_rpi_m F hI (va_runV (As := [.int (xs (x4 + (1 : Int32)).toNatClampNeg)]) (rest := []) ⟨hx, hb, hml, hown, hv⟩ (met_X7_end_0 l dC dI b kB t _ N K (xs (x4 + (1 : Int32)).toNatClampNeg) _ h) (cwV 1 hv (uIn3 uww_564 (List.forall_mem_cons.mpr ⟨ul_31, (List.forall_mem_cons.mpr ⟨ul_32, (List.forall_mem_cons.mpr ⟨ul_33, (List.forall_mem_cons.mpr ⟨(uWV _ uww_563), (fun _ h => nomatch h)⟩)⟩)⟩)⟩)) rfl rfl rfl (by decide +kernel) ⟨by decide, by decide⟩) (lw_rppre F hI) rfl rfl hl.1 rfl (lv_room (Nat.le_of_ble_eq_true rfl)) dL_law_240 ⟨by show _ ≤ 601024; omega, by show _ ≤ 7293034; omega⟩) (fun r15 M16 H locs h hI => ?_)
      refine lv_istore (lv' := [(6, .int r15), (5, .int r11), (0, .ref (sc)), (1, .ref (a 0)), (2, .ref (b 0)), (3, .ref (o)), (4, .int x4)]) hx hb dL_law_243 hl (by decide) rfl (fun ls hl => ?_)
      refine lv_aload_n hx hb dL_law_245 rfl (lv_at hl 4 rfl) ?_
      refine lw_rpi_p F hI (va_runV (As := []) (rest := []) ⟨hx, hb, hml, hown, hv⟩ (met_X7_thrown_0 l dC dI b kB t _ M16 K  _ h) (cwV 0 hv (uIn3 uww_555 (List.forall_mem_cons.mpr ⟨ul_21, (List.forall_mem_cons.mpr ⟨ul_22, (List.forall_mem_cons.mpr ⟨ul_23, (List.forall_mem_cons.mpr ⟨(uWV _ uww_563), (fun _ h => nomatch h)⟩)⟩)⟩)⟩)) rfl rfl rfl (by decide +kernel) ⟨by decide, by decide⟩) (lw_rppre F hI) rfl rfl hl.1 rfl (lv_room (Nat.le_of_ble_eq_true rfl)) dL_law_246 ⟨by show _ ≤ 601024; omega, by show _ ≤ 7293034; omega⟩) (fun r17 H locs h hI => ?_)
      refine lv_iload hx hb dL_law_249 (lv_at hl 1 rfl) ?_
      refine lv_icmp_eq (tgt := 256) hx hb dL_law_251 (by decide) (fun c18 => ?_) (fun c18 => ?_)
      · have h := h.1 c18
        refine lv_iload hx hb dL_law_256 (lv_at hl 1 rfl) ?_
        obtain ⟨K273, hK273, h⟩ := h
        have J273 : ∀  (H : Heap) (locs : List Loc) (ls : Array Slot), K273  → lwI dC dI a kA b kB o kO s M12 L13 M16 K f14 H locs → lv_has ls 7 [(0, .ref (sc)), (1, .ref (a 0)), (2, .ref (b 0)), (3, .ref (o)), (4, .int x4)] → W p l e room_1 s m #[Value.ref sc] below meth c H locs (kc + 1) (ks + 11) (lw_Z below #[Value.ref sc] s) (F0 m 273 ls []) := by
          intro  H locs ls h hI hl
          have h := hK273  h
          refine lv_goto (tgt := 1019) hx hb dL_law_273 (by decide) ?_
          refine W.widen (k := kc + 1) (n := ks + 11) (by omega) (by omega) ?_
          exact hZ M12 L13 M16 K f14 _ _ _ h hI (lv_sub hl [0, 1, 2, 3, 4] rfl)
        refine lv_if_ne (tgt := 273) hx hb dL_law_258 (by decide) (fun c19 => ?_) (fun c19 => ?_)
        · have h := h.1 c19
          refine W.widen (k := kc + 1) (n := ks + 11) (by omega) (by omega) ?_
          exact J273  _ _ _ h hI (lv_sub hl [2, 3, 4, 5, 6] rfl)
        · have h := h.2 c19
          refine lv_aload_n hx hb dL_law_261 rfl (lv_at hl 5 rfl) ?_
          refine lv_iconst (v := (0 : Int32)) hx hb dL_law_262 (by decide) ?_
          refine va_lald hx hb F.2.2.2.2.2.2.2.2.1 hI.2.2.1 0 0 rfl rfl vp_in_01 dL_law_263 ?_
          refine lv_iload hx hb dL_law_264 (lv_at hl 0 rfl) ?_
          refine lv_i2l hx hb dL_law_266 rfl ?_
          refine W.lcmp hx hb dL_law_267 ?_
          refine lv_if_eq (tgt := 273) hx hb dL_law_268 (by decide) (fun c20 => ?_) (fun c20 => ?_)
          · have h := h.1 c20
            refine W.widen (k := kc + 1) (n := ks + 11) (by omega) (by omega) ?_
            exact J273  _ _ _ h hI (lv_sub hl [2, 3, 4, 5, 6] rfl)
          · have h := h.2 c20
            refine lv_iconst (v := (0 : Int32)) hx hb dL_law_271 (by decide) ?_
            exact h.elim
      · have h := h.2 c18
        refine lv_iconst (v := (0 : Int32)) hx hb dL_law_254 (by decide) ?_
        exact h.elim
    · have h := h.2 c40_1
      by_cases c40_2 : ((xs x4.toNatClampNeg) &&& (15 : Int32)) = (2 : Int32)
      · have h := h.1 c40_2
        refine lv_tableIn (off := 236) (tgt := 276) hx hb dL_law_40 (by rw [c40_2]; decide) (by rw [c40_2]; decide) (by rw [c40_2]; rfl) (by decide) ?_
        refine lv_aload_n hx hb dL_law_276 rfl (lv_at hl 1 rfl) ?_
        refine lv_aload_n hx hb dL_law_277 rfl (lv_at hl 0 rfl) ?_
        refine lv_iload hx hb dL_law_278 (lv_at hl 4 rfl) ?_
        refine lv_iconst (v := (1 : Int32)) hx hb dL_law_280 (by decide) ?_
        refine lv_iadd hx hb dL_law_281 ?_
        refine va_sld hx hb hX hbl hbA hI.2.2.2 h.1 dL_law_282 ?_
        have h := h.2
        refine lv_i2l hx hb dL_law_283 rfl ?_
        refine lv_bipush (v := (32 : Int32)) hx hb dL_law_284 (by decide) ?_
        refine lv_lshl hx hb dL_law_286 rfl ?_
        refine lv_aload_n hx hb dL_law_287 rfl (lv_at hl 0 rfl) ?_
        refine lv_iload hx hb dL_law_288 (lv_at hl 4 rfl) ?_
        refine lv_iconst (v := (2 : Int32)) hx hb dL_law_290 (by decide) ?_
        refine lv_iadd hx hb dL_law_291 ?_
        refine va_sld hx hb hX hbl hbA hI.2.2.2 h.1 dL_law_292 ?_
        have h := h.2
        refine lv_i2l hx hb dL_law_293 rfl ?_
        refine lv_ldc2 (own := RL) (v := (4294967295 : Int64)) hx hb hown (hv _ ul_5) dL_law_294 ?_
        refine lv_land hx hb dL_law_297 ?_
        refine lv_lor hx hb dL_law_298 ?_
        refine lv_aload_n hx hb dL_law_299 rfl (lv_at hl 0 rfl) ?_
        refine lv_iload hx hb dL_law_300 (lv_at hl 4 rfl) ?_
        refine lv_iconst (v := (3 : Int32)) hx hb dL_law_302 (by decide) ?_
        refine lv_iadd hx hb dL_law_303 ?_
        refine va_sld hx hb hX hbl hbA hI.2.2.2 h.1 dL_law_304 ?_
        have h := h.2
        refine lv_i2l hx hb dL_law_305 rfl ?_
        refine lv_bipush (v := (32 : Int32)) hx hb dL_law_306 (by decide) ?_
        refine lv_lshl hx hb dL_law_308 rfl ?_
        refine lv_aload_n hx hb dL_law_309 rfl (lv_at hl 0 rfl) ?_
        refine lv_iload hx hb dL_law_310 (lv_at hl 4 rfl) ?_
        refine lv_iconst (v := (4 : Int32)) hx hb dL_law_312 (by decide) ?_
        refine lv_iadd hx hb dL_law_313 ?_
        refine va_sld hx hb hX hbl hbA hI.2.2.2 h.1 dL_law_314 ?_
        have h := h.2
        refine lv_i2l hx hb dL_law_315 rfl ?_
        refine lv_ldc2 (own := RL) (v := (4294967295 : Int64)) hx hb hown (hv _ ul_5) dL_law_316 ?_
        refine lv_land hx hb dL_law_319 ?_
        refine lv_lor hx hb dL_law_320 ?_
        refine lv_aload_n hx hb dL_law_321 rfl (lv_at hl 0 rfl) ?_
        refine lv_iload hx hb dL_law_322 (lv_at hl 4 rfl) ?_
        refine lv_iconst (v := (5 : Int32)) hx hb dL_law_324 (by decide) ?_
        refine lv_iadd hx hb dL_law_325 ?_
        refine va_sld hx hb hX hbl hbA hI.2.2.2 h.1 dL_law_326 ?_
        have h := h.2
        refine lw_hcall F hI (vx_runSW (As := [.ref (a 0), .long ((((xs (x4 + (1 : Int32)).toNatClampNeg).toInt64) <<< ((32 : Int32).toInt64 &&& 63)) ||| (((xs (x4 + (2 : Int32)).toNatClampNeg).toInt64) &&& (4294967295 : Int64))), .long ((((xs (x4 + (3 : Int32)).toNatClampNeg).toInt64) <<< ((32 : Int32).toInt64 &&& 63)) ||| (((xs (x4 + (4 : Int32)).toNatClampNeg).toInt64) &&& (4294967295 : Int64))), .int (xs (x4 + (5 : Int32)).toNatClampNeg)]) (rest := []) ⟨hx, hb, hml, hown, hv⟩ (mh_prefix l hls dC dI a kA t sa o kO _ M L f ((((xs (x4 + (1 : Int32)).toNatClampNeg).toInt64) <<< ((32 : Int32).toInt64 &&& 63)) ||| (((xs (x4 + (2 : Int32)).toNatClampNeg).toInt64) &&& (4294967295 : Int64))) ((((xs (x4 + (3 : Int32)).toNatClampNeg).toInt64) <<< ((32 : Int32).toInt64 &&& 63)) ||| (((xs (x4 + (4 : Int32)).toNatClampNeg).toInt64) &&& (4294967295 : Int64))) (xs (x4 + (5 : Int32)).toNatClampNeg) _ h) (vx_cwSW (hh := [(0, 8, 11, 19)]) 4 hv (uIn4 ul_36 (List.forall_mem_cons.mpr ⟨ul_34, (List.forall_mem_cons.mpr ⟨ul_35, (List.forall_mem_cons.mpr ⟨ul_12, (fun _ h => nomatch h)⟩)⟩)⟩)) rfl rfl rfl (by decide +kernel) ⟨by decide, by decide⟩) (lw_hpre F hI) rfl rfl hl.1 rfl (lv_room (Nat.le_of_ble_eq_true rfl)) dL_law_327 ⟨by show _ ≤ 601024; omega, by show _ ≤ 7293034; omega⟩) (fun r21 M22 L23 f24 H locs h hI => ?_)
        refine lv_istore (lv' := [(5, .int r21), (0, .ref (sc)), (1, .ref (a 0)), (2, .ref (b 0)), (3, .ref (o)), (4, .int x4)]) hx hb dL_law_330 hl (by decide) rfl (fun ls hl => ?_)
        refine lv_aload_n hx hb dL_law_332 rfl (lv_at hl 3 rfl) ?_
        refine lv_aload_n hx hb dL_law_333 rfl (lv_at hl 1 rfl) ?_
        refine lv_iload hx hb dL_law_334 (lv_at hl 5 rfl) ?_
        refine lv_iconst (v := (1 : Int32)) hx hb dL_law_336 (by decide) ?_
        refine lv_iadd hx hb dL_law_337 ?_
        refine va_sld hx hb hX hbl hbA hI.2.2.2 h.1 dL_law_338 ?_
        have h := h.2
        refine lv_i2l hx hb dL_law_339 rfl ?_
        refine lv_bipush (v := (32 : Int32)) hx hb dL_law_340 (by decide) ?_
        refine lv_lshl hx hb dL_law_342 rfl ?_
        refine lv_aload_n hx hb dL_law_343 rfl (lv_at hl 1 rfl) ?_
        refine lv_iload hx hb dL_law_344 (lv_at hl 5 rfl) ?_
        refine lv_iconst (v := (2 : Int32)) hx hb dL_law_346 (by decide) ?_
        refine lv_iadd hx hb dL_law_347 ?_
        refine va_sld hx hb hX hbl hbA hI.2.2.2 h.1 dL_law_348 ?_
        have h := h.2
        refine lv_i2l hx hb dL_law_349 rfl ?_
        refine lv_ldc2 (own := RL) (v := (4294967295 : Int64)) hx hb hown (hv _ ul_5) dL_law_350 ?_
        refine lv_land hx hb dL_law_353 ?_
        refine lv_lor hx hb dL_law_354 ?_
        refine lv_aload_n hx hb dL_law_355 rfl (lv_at hl 1 rfl) ?_
        refine lv_iload hx hb dL_law_356 (lv_at hl 5 rfl) ?_
        refine lv_iconst (v := (3 : Int32)) hx hb dL_law_358 (by decide) ?_
        refine lv_iadd hx hb dL_law_359 ?_
        refine va_sld hx hb hX hbl hbA hI.2.2.2 h.1 dL_law_360 ?_
        have h := h.2
        refine lv_i2l hx hb dL_law_361 rfl ?_
        refine lv_bipush (v := (32 : Int32)) hx hb dL_law_362 (by decide) ?_
        refine lv_lshl hx hb dL_law_364 rfl ?_
        refine lv_aload_n hx hb dL_law_365 rfl (lv_at hl 1 rfl) ?_
        refine lv_iload hx hb dL_law_366 (lv_at hl 5 rfl) ?_
        refine lv_iconst (v := (4 : Int32)) hx hb dL_law_368 (by decide) ?_
        refine lv_iadd hx hb dL_law_369 ?_
        refine va_sld hx hb hX hbl hbA hI.2.2.2 h.1 dL_law_370 ?_
        have h := h.2
        refine lv_i2l hx hb dL_law_371 rfl ?_
        refine lv_ldc2 (own := RL) (v := (4294967295 : Int64)) hx hb hown (hv _ ul_5) dL_law_372 ?_
        refine lv_land hx hb dL_law_375 ?_
        refine lv_lor hx hb dL_law_376 ?_
        refine lv_aload_n hx hb dL_law_377 rfl (lv_at hl 1 rfl) ?_
        refine lv_iload hx hb dL_law_378 (lv_at hl 5 rfl) ?_
        refine lv_iconst (v := (5 : Int32)) hx hb dL_law_380 (by decide) ?_
        refine lv_iadd hx hb dL_law_381 ?_
        refine va_sld hx hb hX hbl hbA hI.2.2.2 h.1 dL_law_382 ?_
        have h := h.2
        refine lw_rpv F hI (va_runV (As := [.long ((((xs (x4 + (1 : Int32)).toNatClampNeg).toInt64) <<< ((32 : Int32).toInt64 &&& 63)) ||| (((xs (x4 + (2 : Int32)).toNatClampNeg).toInt64) &&& (4294967295 : Int64))), .long ((((xs (x4 + (3 : Int32)).toNatClampNeg).toInt64) <<< ((32 : Int32).toInt64 &&& 63)) ||| (((xs (x4 + (4 : Int32)).toNatClampNeg).toInt64) &&& (4294967295 : Int64))), .int (xs (x4 + (5 : Int32)).toNatClampNeg)]) (rest := []) ⟨hx, hb, hml, hown, hv⟩ (met_X7_prefix_0 l dC dI b kB t _ N K ((((xs (x4 + (1 : Int32)).toNatClampNeg).toInt64) <<< ((32 : Int32).toInt64 &&& 63)) ||| (((xs (x4 + (2 : Int32)).toNatClampNeg).toInt64) &&& (4294967295 : Int64))) ((((xs (x4 + (3 : Int32)).toNatClampNeg).toInt64) <<< ((32 : Int32).toInt64 &&& 63)) ||| (((xs (x4 + (4 : Int32)).toNatClampNeg).toInt64) &&& (4294967295 : Int64))) (xs (x4 + (5 : Int32)).toNatClampNeg) _ h) (cwV 3 hv (uIn3 uww_566 (List.forall_mem_cons.mpr ⟨ul_40, (List.forall_mem_cons.mpr ⟨ul_41, (List.forall_mem_cons.mpr ⟨ul_42, (List.forall_mem_cons.mpr ⟨(uWV _ uww_563), (fun _ h => nomatch h)⟩)⟩)⟩)⟩)) rfl rfl rfl (by decide +kernel) ⟨by decide, by decide⟩) (lw_rppre F hI) rfl rfl hl.1 rfl (lv_room (Nat.le_of_ble_eq_true rfl)) dL_law_383 ⟨by show _ ≤ 601024; omega, by show _ ≤ 7293034; omega⟩) (fun M25 L26 H locs h hI => ?_)
        refine lv_aload_n hx hb dL_law_386 rfl (lv_at hl 3 rfl) ?_
        refine lw_rpi_p F hI (va_runV (As := []) (rest := []) ⟨hx, hb, hml, hown, hv⟩ (met_X7_thrown_0 l dC dI b kB t _ M25 L26  _ h) (cwV 0 hv (uIn3 uww_555 (List.forall_mem_cons.mpr ⟨ul_21, (List.forall_mem_cons.mpr ⟨ul_22, (List.forall_mem_cons.mpr ⟨ul_23, (List.forall_mem_cons.mpr ⟨(uWV _ uww_563), (fun _ h => nomatch h)⟩)⟩)⟩)⟩)) rfl rfl rfl (by decide +kernel) ⟨by decide, by decide⟩) (lw_rppre F hI) rfl rfl hl.1 rfl (lv_room (Nat.le_of_ble_eq_true rfl)) dL_law_387 ⟨by show _ ≤ 601024; omega, by show _ ≤ 7293034; omega⟩) (fun r27 H locs h hI => ?_)
        refine lv_iload hx hb dL_law_390 (lv_at hl 0 rfl) ?_
        refine lv_icmp_eq (tgt := 397) hx hb dL_law_392 (by decide) (fun c28 => ?_) (fun c28 => ?_)
        · have h := h.1 c28
          refine lv_goto (tgt := 1019) hx hb dL_law_397 (by decide) ?_
          refine W.widen (k := kc + 1) (n := ks + 11) (by omega) (by omega) ?_
          exact hZ M22 L23 M25 L26 f24 _ _ _ h hI (lv_sub hl [1, 2, 3, 4, 5] rfl)
        · have h := h.2 c28
          refine lv_iconst (v := (0 : Int32)) hx hb dL_law_395 (by decide) ?_
          exact h.elim
      · have h := h.2 c40_2
        by_cases c40_3 : ((xs x4.toNatClampNeg) &&& (15 : Int32)) = (3 : Int32)
        · have h := h.1 c40_3
          refine lv_tableIn (off := 360) (tgt := 400) hx hb dL_law_40 (by rw [c40_3]; decide) (by rw [c40_3]; decide) (by rw [c40_3]; rfl) (by decide) ?_
          refine lv_aload_n hx hb dL_law_400 rfl (lv_at hl 1 rfl) ?_
          refine lv_aload_n hx hb dL_law_401 rfl (lv_at hl 0 rfl) ?_
          refine lv_iload hx hb dL_law_402 (lv_at hl 4 rfl) ?_
          refine lv_iconst (v := (1 : Int32)) hx hb dL_law_404 (by decide) ?_
          refine lv_iadd hx hb dL_law_405 ?_
          refine va_sld hx hb hX hbl hbA hI.2.2.2 h.1 dL_law_406 ?_
          have h := h.2
          refine lv_aload_n hx hb dL_law_407 rfl (lv_at hl 0 rfl) ?_
          refine lv_iload hx hb dL_law_408 (lv_at hl 4 rfl) ?_
          refine lv_iconst (v := (2 : Int32)) hx hb dL_law_410 (by decide) ?_
          refine lv_iadd hx hb dL_law_411 ?_
          refine va_sld hx hb hX hbl hbA hI.2.2.2 h.1 dL_law_412 ?_
          have h := h.2
          refine lv_i2l hx hb dL_law_413 rfl ?_
          refine lv_bipush (v := (32 : Int32)) hx hb dL_law_414 (by decide) ?_
          refine lv_lshl hx hb dL_law_416 rfl ?_
          refine lv_aload_n hx hb dL_law_417 rfl (lv_at hl 0 rfl) ?_
          refine lv_iload hx hb dL_law_418 (lv_at hl 4 rfl) ?_
          refine lv_iconst (v := (3 : Int32)) hx hb dL_law_420 (by decide) ?_
          refine lv_iadd hx hb dL_law_421 ?_
          refine va_sld hx hb hX hbl hbA hI.2.2.2 h.1 dL_law_422 ?_
          have h := h.2
          refine lv_i2l hx hb dL_law_423 rfl ?_
          refine lv_ldc2 (own := RL) (v := (4294967295 : Int64)) hx hb hown (hv _ ul_5) dL_law_424 ?_
          refine lv_land hx hb dL_law_427 ?_
          refine lv_lor hx hb dL_law_428 ?_
          refine lv_aload_n hx hb dL_law_429 rfl (lv_at hl 0 rfl) ?_
          refine lv_iload hx hb dL_law_430 (lv_at hl 4 rfl) ?_
          refine lv_iconst (v := (4 : Int32)) hx hb dL_law_432 (by decide) ?_
          refine lv_iadd hx hb dL_law_433 ?_
          refine va_sld hx hb hX hbl hbA hI.2.2.2 h.1 dL_law_434 ?_
          have h := h.2
          refine lv_i2l hx hb dL_law_435 rfl ?_
          refine lv_bipush (v := (32 : Int32)) hx hb dL_law_436 (by decide) ?_
          refine lv_lshl hx hb dL_law_438 rfl ?_
          refine lv_aload_n hx hb dL_law_439 rfl (lv_at hl 0 rfl) ?_
          refine lv_iload hx hb dL_law_440 (lv_at hl 4 rfl) ?_
          refine lv_iconst (v := (5 : Int32)) hx hb dL_law_442 (by decide) ?_
          refine lv_iadd hx hb dL_law_443 ?_
          refine va_sld hx hb hX hbl hbA hI.2.2.2 h.1 dL_law_444 ?_
          have h := h.2
          refine lv_i2l hx hb dL_law_445 rfl ?_
          refine lv_ldc2 (own := RL) (v := (4294967295 : Int64)) hx hb hown (hv _ ul_5) dL_law_446 ?_
          refine lv_land hx hb dL_law_449 ?_
          refine lv_lor hx hb dL_law_450 ?_
          refine lw_cpv F hI (va_runV (As := [.int (xs (x4 + (1 : Int32)).toNatClampNeg), .long ((((xs (x4 + (2 : Int32)).toNatClampNeg).toInt64) <<< ((32 : Int32).toInt64 &&& 63)) ||| (((xs (x4 + (3 : Int32)).toNatClampNeg).toInt64) &&& (4294967295 : Int64))), .long ((((xs (x4 + (4 : Int32)).toNatClampNeg).toInt64) <<< ((32 : Int32).toInt64 &&& 63)) ||| (((xs (x4 + (5 : Int32)).toNatClampNeg).toInt64) &&& (4294967295 : Int64)))]) (rest := []) ⟨hx, hb, hml, hown, hv⟩ (met_X6_own_0 l dC dI a kA t _ M L (xs (x4 + (1 : Int32)).toNatClampNeg) ((((xs (x4 + (2 : Int32)).toNatClampNeg).toInt64) <<< ((32 : Int32).toInt64 &&& 63)) ||| (((xs (x4 + (3 : Int32)).toNatClampNeg).toInt64) &&& (4294967295 : Int64))) ((((xs (x4 + (4 : Int32)).toNatClampNeg).toInt64) <<< ((32 : Int32).toInt64 &&& 63)) ||| (((xs (x4 + (5 : Int32)).toNatClampNeg).toInt64) &&& (4294967295 : Int64))) _ h) (cwV 3 hv (uIn3 uww_258 (List.forall_mem_cons.mpr ⟨ul_43, (List.forall_mem_cons.mpr ⟨ul_44, (List.forall_mem_cons.mpr ⟨ul_45, (List.forall_mem_cons.mpr ⟨(uWV _ uww_67), (fun _ h => nomatch h)⟩)⟩)⟩)⟩)) rfl rfl rfl (by decide +kernel) ⟨by decide, by decide⟩) (lw_cppre F hI) rfl rfl hl.1 rfl (lv_room (Nat.le_of_ble_eq_true rfl)) dL_law_451 ⟨by show _ ≤ 601024; omega, by show _ ≤ 7293034; omega⟩) (fun M29 L30 H locs h hI => ?_)
          refine lv_aload_n hx hb dL_law_454 rfl (lv_at hl 2 rfl) ?_
          refine lv_aload_n hx hb dL_law_455 rfl (lv_at hl 0 rfl) ?_
          refine lv_iload hx hb dL_law_456 (lv_at hl 4 rfl) ?_
          refine lv_iconst (v := (1 : Int32)) hx hb dL_law_458 (by decide) ?_
          refine lv_iadd hx hb dL_law_459 ?_
          refine va_sld hx hb hX hbl hbA hI.2.2.2 h.1 dL_law_460 ?_
          have h := h.2
          refine lv_aload_n hx hb dL_law_461 rfl (lv_at hl 0 rfl) ?_
          refine lv_iload hx hb dL_law_462 (lv_at hl 4 rfl) ?_
          refine lv_iconst (v := (2 : Int32)) hx hb dL_law_464 (by decide) ?_
          refine lv_iadd hx hb dL_law_465 ?_
          refine va_sld hx hb hX hbl hbA hI.2.2.2 h.1 dL_law_466 ?_
          have h := h.2
          refine lv_i2l hx hb dL_law_467 rfl ?_
          refine lv_bipush (v := (32 : Int32)) hx hb dL_law_468 (by decide) ?_
          refine lv_lshl hx hb dL_law_470 rfl ?_
          refine lv_aload_n hx hb dL_law_471 rfl (lv_at hl 0 rfl) ?_
          refine lv_iload hx hb dL_law_472 (lv_at hl 4 rfl) ?_
          refine lv_iconst (v := (3 : Int32)) hx hb dL_law_474 (by decide) ?_
          refine lv_iadd hx hb dL_law_475 ?_
          refine va_sld hx hb hX hbl hbA hI.2.2.2 h.1 dL_law_476 ?_
          have h := h.2
          refine lv_i2l hx hb dL_law_477 rfl ?_
          refine lv_ldc2 (own := RL) (v := (4294967295 : Int64)) hx hb hown (hv _ ul_5) dL_law_478 ?_
          refine lv_land hx hb dL_law_481 ?_
          refine lv_lor hx hb dL_law_482 ?_
          refine lv_aload_n hx hb dL_law_483 rfl (lv_at hl 0 rfl) ?_
          refine lv_iload hx hb dL_law_484 (lv_at hl 4 rfl) ?_
          refine lv_iconst (v := (4 : Int32)) hx hb dL_law_486 (by decide) ?_
          refine lv_iadd hx hb dL_law_487 ?_
          refine va_sld hx hb hX hbl hbA hI.2.2.2 h.1 dL_law_488 ?_
          have h := h.2
          refine lv_i2l hx hb dL_law_489 rfl ?_
          refine lv_bipush (v := (32 : Int32)) hx hb dL_law_490 (by decide) ?_
          refine lv_lshl hx hb dL_law_492 rfl ?_
          refine lv_aload_n hx hb dL_law_493 rfl (lv_at hl 0 rfl) ?_
          refine lv_iload hx hb dL_law_494 (lv_at hl 4 rfl) ?_
          refine lv_iconst (v := (5 : Int32)) hx hb dL_law_496 (by decide) ?_
          refine lv_iadd hx hb dL_law_497 ?_
          refine va_sld hx hb hX hbl hbA hI.2.2.2 h.1 dL_law_498 ?_
          have h := h.2
          refine lv_i2l hx hb dL_law_499 rfl ?_
          refine lv_ldc2 (own := RL) (v := (4294967295 : Int64)) hx hb hown (hv _ ul_5) dL_law_500 ?_
          refine lv_land hx hb dL_law_503 ?_
          refine lv_lor hx hb dL_law_504 ?_
          refine lw_rpv F hI (va_runV (As := [.int (xs (x4 + (1 : Int32)).toNatClampNeg), .long ((((xs (x4 + (2 : Int32)).toNatClampNeg).toInt64) <<< ((32 : Int32).toInt64 &&& 63)) ||| (((xs (x4 + (3 : Int32)).toNatClampNeg).toInt64) &&& (4294967295 : Int64))), .long ((((xs (x4 + (4 : Int32)).toNatClampNeg).toInt64) <<< ((32 : Int32).toInt64 &&& 63)) ||| (((xs (x4 + (5 : Int32)).toNatClampNeg).toInt64) &&& (4294967295 : Int64)))]) (rest := []) ⟨hx, hb, hml, hown, hv⟩ (met_X7_own_0 l dC dI b kB t _ N K (xs (x4 + (1 : Int32)).toNatClampNeg) ((((xs (x4 + (2 : Int32)).toNatClampNeg).toInt64) <<< ((32 : Int32).toInt64 &&& 63)) ||| (((xs (x4 + (3 : Int32)).toNatClampNeg).toInt64) &&& (4294967295 : Int64))) ((((xs (x4 + (4 : Int32)).toNatClampNeg).toInt64) <<< ((32 : Int32).toInt64 &&& 63)) ||| (((xs (x4 + (5 : Int32)).toNatClampNeg).toInt64) &&& (4294967295 : Int64))) _ h) (cwV 3 hv (uIn3 uww_570 (List.forall_mem_cons.mpr ⟨ul_46, (List.forall_mem_cons.mpr ⟨ul_47, (List.forall_mem_cons.mpr ⟨ul_48, (List.forall_mem_cons.mpr ⟨(uWV _ uww_563), (fun _ h => nomatch h)⟩)⟩)⟩)⟩)) rfl rfl rfl (by decide +kernel) ⟨by decide, by decide⟩) (lw_rppre F hI) rfl rfl hl.1 rfl (lv_room (Nat.le_of_ble_eq_true rfl)) dL_law_505 ⟨by show _ ≤ 601024; omega, by show _ ≤ 7293034; omega⟩) (fun M31 L32 H locs h hI => ?_)
          refine lv_goto (tgt := 1019) hx hb dL_law_508 (by decide) ?_
          refine W.widen (k := kc + 1) (n := ks + 11) (by omega) (by omega) ?_
          exact hZ M29 L30 M31 L32 f _ _ _ h hI (lv_sub hl [0, 1, 2, 3, 4] rfl)
        · have h := h.2 c40_3
          by_cases c40_4 : ((xs x4.toNatClampNeg) &&& (15 : Int32)) = (4 : Int32)
          · have h := h.1 c40_4
            refine lv_tableIn (off := 471) (tgt := 511) hx hb dL_law_40 (by rw [c40_4]; decide) (by rw [c40_4]; decide) (by rw [c40_4]; rfl) (by decide) ?_
            refine lv_aload_n hx hb dL_law_511 rfl (lv_at hl 1 rfl) ?_
            refine lv_aload_n hx hb dL_law_512 rfl (lv_at hl 0 rfl) ?_
            refine lv_iload hx hb dL_law_513 (lv_at hl 4 rfl) ?_
            refine lv_iconst (v := (1 : Int32)) hx hb dL_law_515 (by decide) ?_
            refine lv_iadd hx hb dL_law_516 ?_
            refine va_sld hx hb hX hbl hbA hI.2.2.2 h.1 dL_law_517 ?_
            have h := h.2
            refine lv_aload_n hx hb dL_law_518 rfl (lv_at hl 0 rfl) ?_
            refine lv_iload hx hb dL_law_519 (lv_at hl 4 rfl) ?_
            refine lv_iconst (v := (2 : Int32)) hx hb dL_law_521 (by decide) ?_
            refine lv_iadd hx hb dL_law_522 ?_
            refine va_sld hx hb hX hbl hbA hI.2.2.2 h.1 dL_law_523 ?_
            have h := h.2
            refine lw_hcall F hI (vx_runSW (As := [.ref (a 0), .int (xs (x4 + (1 : Int32)).toNatClampNeg), .int (xs (x4 + (2 : Int32)).toNatClampNeg)]) (rest := []) ⟨hx, hb, hml, hown, hv⟩ (mh_limits l hls dC dI a kA t sa o kO _ M L f (xs (x4 + (1 : Int32)).toNatClampNeg) (xs (x4 + (2 : Int32)).toNatClampNeg) _ h) (vx_cwSW (hh := [(0, 6, 9, 19)]) 3 hv (uIn4 ul_51 (List.forall_mem_cons.mpr ⟨ul_49, (List.forall_mem_cons.mpr ⟨ul_50, (List.forall_mem_cons.mpr ⟨ul_12, (fun _ h => nomatch h)⟩)⟩)⟩)) rfl rfl rfl (by decide +kernel) ⟨by decide, by decide⟩) (lw_hpre F hI) rfl rfl hl.1 rfl (lv_room (Nat.le_of_ble_eq_true rfl)) dL_law_524 ⟨by show _ ≤ 601024; omega, by show _ ≤ 7293034; omega⟩) (fun r33 M34 L35 f36 H locs h hI => ?_)
            refine lv_istore (lv' := [(5, .int r33), (0, .ref (sc)), (1, .ref (a 0)), (2, .ref (b 0)), (3, .ref (o)), (4, .int x4)]) hx hb dL_law_527 hl (by decide) rfl (fun ls hl => ?_)
            refine lv_aload_n hx hb dL_law_529 rfl (lv_at hl 3 rfl) ?_
            refine lv_aload_n hx hb dL_law_530 rfl (lv_at hl 1 rfl) ?_
            refine lv_iload hx hb dL_law_531 (lv_at hl 5 rfl) ?_
            refine lv_iconst (v := (1 : Int32)) hx hb dL_law_533 (by decide) ?_
            refine lv_iadd hx hb dL_law_534 ?_
            refine va_sld hx hb hX hbl hbA hI.2.2.2 h.1 dL_law_535 ?_
            have h := h.2
            refine lv_aload_n hx hb dL_law_536 rfl (lv_at hl 1 rfl) ?_
            refine lv_iload hx hb dL_law_537 (lv_at hl 5 rfl) ?_
            refine lv_iconst (v := (2 : Int32)) hx hb dL_law_539 (by decide) ?_
            refine lv_iadd hx hb dL_law_540 ?_
            refine va_sld hx hb hX hbl hbA hI.2.2.2 h.1 dL_law_541 ?_
            have h := h.2
            refine lw_rpv_m F hI (va_runV (As := [.int (xs (x4 + (1 : Int32)).toNatClampNeg), .int (xs (x4 + (2 : Int32)).toNatClampNeg)]) (rest := []) ⟨hx, hb, hml, hown, hv⟩ (met_X7_limits_0 l dC dI b kB t _ N K (xs (x4 + (1 : Int32)).toNatClampNeg) (xs (x4 + (2 : Int32)).toNatClampNeg) _ h) (cwV 2 hv (uIn3 uww_571 (List.forall_mem_cons.mpr ⟨ul_55, (List.forall_mem_cons.mpr ⟨ul_56, (List.forall_mem_cons.mpr ⟨ul_57, (List.forall_mem_cons.mpr ⟨(uWV _ uww_563), (fun _ h => nomatch h)⟩)⟩)⟩)⟩)) rfl rfl rfl (by decide +kernel) ⟨by decide, by decide⟩) (lw_rppre F hI) rfl rfl hl.1 rfl (lv_room (Nat.le_of_ble_eq_true rfl)) dL_law_542 ⟨by show _ ≤ 601024; omega, by show _ ≤ 7293034; omega⟩) (fun M37 H locs h hI => ?_)
            refine lv_aload_n hx hb dL_law_545 rfl (lv_at hl 3 rfl) ?_
            refine lw_rpi_p F hI (va_runV (As := []) (rest := []) ⟨hx, hb, hml, hown, hv⟩ (met_X7_thrown_0 l dC dI b kB t _ M37 K  _ h) (cwV 0 hv (uIn3 uww_555 (List.forall_mem_cons.mpr ⟨ul_21, (List.forall_mem_cons.mpr ⟨ul_22, (List.forall_mem_cons.mpr ⟨ul_23, (List.forall_mem_cons.mpr ⟨(uWV _ uww_563), (fun _ h => nomatch h)⟩)⟩)⟩)⟩)) rfl rfl rfl (by decide +kernel) ⟨by decide, by decide⟩) (lw_rppre F hI) rfl rfl hl.1 rfl (lv_room (Nat.le_of_ble_eq_true rfl)) dL_law_546 ⟨by show _ ≤ 601024; omega, by show _ ≤ 7293034; omega⟩) (fun r38 H locs h hI => ?_)
            refine lv_iload hx hb dL_law_549 (lv_at hl 0 rfl) ?_
            refine lv_icmp_eq (tgt := 556) hx hb dL_law_551 (by decide) (fun c39 => ?_) (fun c39 => ?_)
            · have h := h.1 c39
              refine lv_goto (tgt := 1019) hx hb dL_law_556 (by decide) ?_
              refine W.widen (k := kc + 1) (n := ks + 11) (by omega) (by omega) ?_
              exact hZ M34 L35 M37 K f36 _ _ _ h hI (lv_sub hl [1, 2, 3, 4, 5] rfl)
            · have h := h.2 c39
              refine lv_iconst (v := (0 : Int32)) hx hb dL_law_554 (by decide) ?_
              exact h.elim
          · have h := h.2 c40_4
            by_cases c40_5 : ((xs x4.toNatClampNeg) &&& (15 : Int32)) = (5 : Int32)
            · have h := h.1 c40_5
              refine lv_tableIn (off := 519) (tgt := 559) hx hb dL_law_40 (by rw [c40_5]; decide) (by rw [c40_5]; decide) (by rw [c40_5]; rfl) (by decide) ?_
              refine lv_aload_n hx hb dL_law_559 rfl (lv_at hl 1 rfl) ?_
              refine lv_aload_n hx hb dL_law_560 rfl (lv_at hl 0 rfl) ?_
              refine lv_iload hx hb dL_law_561 (lv_at hl 4 rfl) ?_
              refine lv_iconst (v := (1 : Int32)) hx hb dL_law_563 (by decide) ?_
              refine lv_iadd hx hb dL_law_564 ?_
              refine va_sld hx hb hX hbl hbA hI.2.2.2 h.1 dL_law_565 ?_
              have h := h.2
              obtain ⟨K574, hK574, h⟩ := h
              have J574 : ∀ (v40 : Int32) (H : Heap) (locs : List Loc) (ls : Array Slot), K574 v40 → lwI dC dI a kA b kB o kO s M L N K f H locs → lv_has ls 7 [(0, .ref (sc)), (1, .ref (a 0)), (2, .ref (b 0)), (3, .ref (o)), (4, .int x4)] → W p l e room_1 s m #[Value.ref sc] below meth c H locs (kc + 1) (ks + 11) (lw_Z below #[Value.ref sc] s) (F0 m 574 ls [.int v40, .ref (a 0)]) := by
                intro v40 H locs ls h hI hl
                have h := hK574 v40 h
                refine lv_aload_n hx hb dL_law_574 rfl (lv_at hl 0 rfl) ?_
                refine lv_iload hx hb dL_law_575 (lv_at hl 4 rfl) ?_
                refine lv_iconst (v := (2 : Int32)) hx hb dL_law_577 (by decide) ?_
                refine lv_iadd hx hb dL_law_578 ?_
                refine va_sld hx hb hX hbl hbA hI.2.2.2 h.1 dL_law_579 ?_
                have h := h.2
                obtain ⟨K588, hK588, h⟩ := h
                have J588 : ∀ (v41 : Int32) (H : Heap) (locs : List Loc) (ls : Array Slot), K588 v41 → lwI dC dI a kA b kB o kO s M L N K f H locs → lv_has ls 7 [(0, .ref (sc)), (1, .ref (a 0)), (2, .ref (b 0)), (3, .ref (o)), (4, .int x4)] → W p l e room_1 s m #[Value.ref sc] below meth c H locs (kc + 1) (ks + 11) (lw_Z below #[Value.ref sc] s) (F0 m 588 ls [.int v41, .int v40, .ref (a 0)]) := by
                  intro v41 H locs ls h hI hl
                  have h := hK588 v41 h
                  refine lw_cpv_m F hI (va_runV (As := [.int v40, .int v41]) (rest := []) ⟨hx, hb, hml, hown, hv⟩ (met_X6_ways_0 l dC dI a kA t _ M L v40 v41 _ h) (cwV 2 hv (uIn3 uww_260 (List.forall_mem_cons.mpr ⟨ul_58, (List.forall_mem_cons.mpr ⟨ul_59, (List.forall_mem_cons.mpr ⟨ul_60, (List.forall_mem_cons.mpr ⟨(uWV _ uww_67), (fun _ h => nomatch h)⟩)⟩)⟩)⟩)) rfl rfl rfl (by decide +kernel) ⟨by decide, by decide⟩) (lw_cppre F hI) rfl rfl hl.1 rfl (lv_room (Nat.le_of_ble_eq_true rfl)) dL_law_588 ⟨by show _ ≤ 601024; omega, by show _ ≤ 7293034; omega⟩) (fun M42 H locs h hI => ?_)
                  refine lv_aload_n hx hb dL_law_591 rfl (lv_at hl 2 rfl) ?_
                  refine lv_aload_n hx hb dL_law_592 rfl (lv_at hl 0 rfl) ?_
                  refine lv_iload hx hb dL_law_593 (lv_at hl 4 rfl) ?_
                  refine lv_iconst (v := (1 : Int32)) hx hb dL_law_595 (by decide) ?_
                  refine lv_iadd hx hb dL_law_596 ?_
                  refine va_sld hx hb hX hbl hbA hI.2.2.2 h.1 dL_law_597 ?_
                  have h := h.2
                  obtain ⟨K606, hK606, h⟩ := h
                  have J606 : ∀ (v43 : Int32) (H : Heap) (locs : List Loc) (ls : Array Slot), K606 v43 → lwI dC dI a kA b kB o kO s M42 L N K f H locs → lv_has ls 7 [(0, .ref (sc)), (1, .ref (a 0)), (2, .ref (b 0)), (3, .ref (o)), (4, .int x4)] → W p l e room_1 s m #[Value.ref sc] below meth c H locs (kc + 1) (ks + 11) (lw_Z below #[Value.ref sc] s) (F0 m 606 ls [.int v43, .ref (b 0)]) := by
                    intro v43 H locs ls h hI hl
                    have h := hK606 v43 h
                    refine lv_aload_n hx hb dL_law_606 rfl (lv_at hl 0 rfl) ?_
                    refine lv_iload hx hb dL_law_607 (lv_at hl 4 rfl) ?_
                    refine lv_iconst (v := (2 : Int32)) hx hb dL_law_609 (by decide) ?_
                    refine lv_iadd hx hb dL_law_610 ?_
                    refine va_sld hx hb hX hbl hbA hI.2.2.2 h.1 dL_law_611 ?_
                    have h := h.2
                    obtain ⟨K620, hK620, h⟩ := h
                    have J620 : ∀ (v44 : Int32) (H : Heap) (locs : List Loc) (ls : Array Slot), K620 v44 → lwI dC dI a kA b kB o kO s M42 L N K f H locs → lv_has ls 7 [(0, .ref (sc)), (1, .ref (a 0)), (2, .ref (b 0)), (3, .ref (o)), (4, .int x4)] → W p l e room_1 s m #[Value.ref sc] below meth c H locs (kc + 1) (ks + 11) (lw_Z below #[Value.ref sc] s) (F0 m 620 ls [.int v44, .int v43, .ref (b 0)]) := by
                      intro v44 H locs ls h hI hl
                      have h := hK620 v44 h
                      refine lw_rpv_m F hI (va_runV (As := [.int v43, .int v44]) (rest := []) ⟨hx, hb, hml, hown, hv⟩ (met_X7_ways_0 l dC dI b kB t _ N K v43 v44 _ h) (cwV 2 hv (uIn3 uww_572 (List.forall_mem_cons.mpr ⟨ul_61, (List.forall_mem_cons.mpr ⟨ul_62, (List.forall_mem_cons.mpr ⟨ul_63, (List.forall_mem_cons.mpr ⟨(uWV _ uww_563), (fun _ h => nomatch h)⟩)⟩)⟩)⟩)) rfl rfl rfl (by decide +kernel) ⟨by decide, by decide⟩) (lw_rppre F hI) rfl rfl hl.1 rfl (lv_room (Nat.le_of_ble_eq_true rfl)) dL_law_620 ⟨by show _ ≤ 601024; omega, by show _ ≤ 7293034; omega⟩) (fun M45 H locs h hI => ?_)
                      refine lv_goto (tgt := 1019) hx hb dL_law_623 (by decide) ?_
                      refine W.widen (k := kc + 1) (n := ks + 11) (by omega) (by omega) ?_
                      exact hZ M42 L M45 K f _ _ _ h hI (lv_sub hl [0, 1, 2, 3, 4] rfl)
                    refine lv_if_eq (tgt := 619) hx hb dL_law_612 (by decide) (fun c46 => ?_) (fun c46 => ?_)
                    · have h := h.1 c46
                      refine lv_iconst (v := (0 : Int32)) hx hb dL_law_619 (by decide) ?_
                      refine W.widen (k := kc + 1) (n := ks + 11) (by omega) (by omega) ?_
                      exact J620 (0 : Int32) _ _ _ h hI (lv_sub hl [0, 1, 2, 3, 4] rfl)
                    · have h := h.2 c46
                      refine lv_iconst (v := (1 : Int32)) hx hb dL_law_615 (by decide) ?_
                      refine lv_goto (tgt := 620) hx hb dL_law_616 (by decide) ?_
                      refine W.widen (k := kc + 1) (n := ks + 11) (by omega) (by omega) ?_
                      exact J620 (1 : Int32) _ _ _ h hI (lv_sub hl [0, 1, 2, 3, 4] rfl)
                  refine lv_if_eq (tgt := 605) hx hb dL_law_598 (by decide) (fun c47 => ?_) (fun c47 => ?_)
                  · have h := h.1 c47
                    refine lv_iconst (v := (0 : Int32)) hx hb dL_law_605 (by decide) ?_
                    refine W.widen (k := kc + 1) (n := ks + 11) (by omega) (by omega) ?_
                    exact J606 (0 : Int32) _ _ _ h hI (lv_sub hl [0, 1, 2, 3, 4] rfl)
                  · have h := h.2 c47
                    refine lv_iconst (v := (1 : Int32)) hx hb dL_law_601 (by decide) ?_
                    refine lv_goto (tgt := 606) hx hb dL_law_602 (by decide) ?_
                    refine W.widen (k := kc + 1) (n := ks + 11) (by omega) (by omega) ?_
                    exact J606 (1 : Int32) _ _ _ h hI (lv_sub hl [0, 1, 2, 3, 4] rfl)
                refine lv_if_eq (tgt := 587) hx hb dL_law_580 (by decide) (fun c48 => ?_) (fun c48 => ?_)
                · have h := h.1 c48
                  refine lv_iconst (v := (0 : Int32)) hx hb dL_law_587 (by decide) ?_
                  refine W.widen (k := kc + 1) (n := ks + 11) (by omega) (by omega) ?_
                  exact J588 (0 : Int32) _ _ _ h hI (lv_sub hl [0, 1, 2, 3, 4] rfl)
                · have h := h.2 c48
                  refine lv_iconst (v := (1 : Int32)) hx hb dL_law_583 (by decide) ?_
                  refine lv_goto (tgt := 588) hx hb dL_law_584 (by decide) ?_
                  refine W.widen (k := kc + 1) (n := ks + 11) (by omega) (by omega) ?_
                  exact J588 (1 : Int32) _ _ _ h hI (lv_sub hl [0, 1, 2, 3, 4] rfl)
              refine lv_if_eq (tgt := 573) hx hb dL_law_566 (by decide) (fun c49 => ?_) (fun c49 => ?_)
              · have h := h.1 c49
                refine lv_iconst (v := (0 : Int32)) hx hb dL_law_573 (by decide) ?_
                refine W.widen (k := kc + 1) (n := ks + 11) (by omega) (by omega) ?_
                exact J574 (0 : Int32) _ _ _ h hI (lv_sub hl [0, 1, 2, 3, 4] rfl)
              · have h := h.2 c49
                refine lv_iconst (v := (1 : Int32)) hx hb dL_law_569 (by decide) ?_
                refine lv_goto (tgt := 574) hx hb dL_law_570 (by decide) ?_
                refine W.widen (k := kc + 1) (n := ks + 11) (by omega) (by omega) ?_
                exact J574 (1 : Int32) _ _ _ h hI (lv_sub hl [0, 1, 2, 3, 4] rfl)
            · have h := h.2 c40_5
              by_cases c40_6 : ((xs x4.toNatClampNeg) &&& (15 : Int32)) = (6 : Int32)
              · have h := h.1 c40_6
                refine lv_tableIn (off := 586) (tgt := 626) hx hb dL_law_40 (by rw [c40_6]; decide) (by rw [c40_6]; decide) (by rw [c40_6]; rfl) (by decide) ?_
                refine lv_aload_n hx hb dL_law_626 rfl (lv_at hl 1 rfl) ?_
                refine lw_cpi F hI (va_runV (As := []) (rest := []) ⟨hx, hb, hml, hown, hv⟩ (met_X6_four_0 l dC dI a kA t _ M L  _ h) (cwV 0 hv (uIn3 uww_261 (List.forall_mem_cons.mpr ⟨ul_64, (List.forall_mem_cons.mpr ⟨ul_65, (List.forall_mem_cons.mpr ⟨ul_66, (List.forall_mem_cons.mpr ⟨(uWV _ uww_67), (fun _ h => nomatch h)⟩)⟩)⟩)⟩)) rfl rfl rfl (by decide +kernel) ⟨by decide, by decide⟩) (lw_cppre F hI) rfl rfl hl.1 rfl (lv_room (Nat.le_of_ble_eq_true rfl)) dL_law_627 ⟨by show _ ≤ 601024; omega, by show _ ≤ 7293034; omega⟩) (fun r50 M51 L52 H locs h hI => ?_)
                refine lv_aload_n hx hb dL_law_630 rfl (lv_at hl 2 rfl) ?_
                refine lw_rpi F hI (va_runV (As := []) (rest := [.int r50]) ⟨hx, hb, hml, hown, hv⟩ (met_X7_four__0 l dC dI b kB t _ N K  _ h) (cwV 0 hv (uIn3 uww_700 (List.forall_mem_cons.mpr ⟨ul_67, (List.forall_mem_cons.mpr ⟨ul_68, (List.forall_mem_cons.mpr ⟨ul_69, (List.forall_mem_cons.mpr ⟨(uWV _ uww_563), (fun _ h => nomatch h)⟩)⟩)⟩)⟩)) rfl rfl rfl (by decide +kernel) ⟨by decide, by decide⟩) (lw_rppre F hI) rfl rfl hl.1 rfl (lv_room (Nat.le_of_ble_eq_true rfl)) dL_law_631 ⟨by show _ ≤ 601024; omega, by show _ ≤ 7293034; omega⟩) (fun r53 M54 L55 H locs h hI => ?_)
                refine lv_icmp_eq (tgt := 1019) hx hb dL_law_634 (by decide) (fun c56 => ?_) (fun c56 => ?_)
                · have h := h.1 c56
                  refine W.widen (k := kc + 1) (n := ks + 11) (by omega) (by omega) ?_
                  exact hZ M51 L52 M54 L55 f _ _ _ h hI (lv_sub hl [0, 1, 2, 3, 4] rfl)
                · have h := h.2 c56
                  refine lv_iconst (v := (0 : Int32)) hx hb dL_law_637 (by decide) ?_
                  exact h.elim
              · have h := h.2 c40_6
                by_cases c40_7 : ((xs x4.toNatClampNeg) &&& (15 : Int32)) = (7 : Int32)
                · have h := h.1 c40_7
                  refine lv_tableIn (off := 599) (tgt := 639) hx hb dL_law_40 (by rw [c40_7]; decide) (by rw [c40_7]; decide) (by rw [c40_7]; rfl) (by decide) ?_
                  refine lv_aload_n hx hb dL_law_639 rfl (lv_at hl 1 rfl) ?_
                  refine lw_cpi F hI (va_runV (As := []) (rest := []) ⟨hx, hb, hml, hown, hv⟩ (met_X6_six_0 l dC dI a kA t _ M L  _ h) (cwV 0 hv (uIn3 uww_418 (List.forall_mem_cons.mpr ⟨ul_70, (List.forall_mem_cons.mpr ⟨ul_71, (List.forall_mem_cons.mpr ⟨ul_72, (List.forall_mem_cons.mpr ⟨(uWV _ uww_67), (fun _ h => nomatch h)⟩)⟩)⟩)⟩)) rfl rfl rfl (by decide +kernel) ⟨by decide, by decide⟩) (lw_cppre F hI) rfl rfl hl.1 rfl (lv_room (Nat.le_of_ble_eq_true rfl)) dL_law_640 ⟨by show _ ≤ 601024; omega, by show _ ≤ 7293034; omega⟩) (fun r57 M58 L59 H locs h hI => ?_)
                  refine lv_aload_n hx hb dL_law_643 rfl (lv_at hl 2 rfl) ?_
                  refine lw_rpi F hI (va_runV (As := []) (rest := [.int r57]) ⟨hx, hb, hml, hown, hv⟩ (met_X7_six_0 l dC dI b kB t _ N K  _ h) (cwV 0 hv (uIn3 uww_774 (List.forall_mem_cons.mpr ⟨ul_73, (List.forall_mem_cons.mpr ⟨ul_74, (List.forall_mem_cons.mpr ⟨ul_75, (List.forall_mem_cons.mpr ⟨(uWV _ uww_563), (fun _ h => nomatch h)⟩)⟩)⟩)⟩)) rfl rfl rfl (by decide +kernel) ⟨by decide, by decide⟩) (lw_rppre F hI) rfl rfl hl.1 rfl (lv_room (Nat.le_of_ble_eq_true rfl)) dL_law_644 ⟨by show _ ≤ 601024; omega, by show _ ≤ 7293034; omega⟩) (fun r60 M61 L62 H locs h hI => ?_)
                  refine lv_icmp_eq (tgt := 1019) hx hb dL_law_647 (by decide) (fun c63 => ?_) (fun c63 => ?_)
                  · have h := h.1 c63
                    refine W.widen (k := kc + 1) (n := ks + 11) (by omega) (by omega) ?_
                    exact hZ M58 L59 M61 L62 f _ _ _ h hI (lv_sub hl [0, 1, 2, 3, 4] rfl)
                  · have h := h.2 c63
                    refine lv_iconst (v := (0 : Int32)) hx hb dL_law_650 (by decide) ?_
                    exact h.elim
                · have h := h.2 c40_7
                  by_cases c40_8 : ((xs x4.toNatClampNeg) &&& (15 : Int32)) = (8 : Int32)
                  · have h := h.1 c40_8
                    refine lv_tableIn (off := 612) (tgt := 652) hx hb dL_law_40 (by rw [c40_8]; decide) (by rw [c40_8]; decide) (by rw [c40_8]; rfl) (by decide) ?_
                    refine lv_aload_n hx hb dL_law_652 rfl (lv_at hl 1 rfl) ?_
                    refine lw_cpi_p F hI (va_runV (As := []) (rest := []) ⟨hx, hb, hml, hown, hv⟩ (met_X6_parts_0 l dC dI a kA t _ M L  _ h) (cwV 0 hv (uIn3 uww_521 (List.forall_mem_cons.mpr ⟨ul_76, (List.forall_mem_cons.mpr ⟨ul_77, (List.forall_mem_cons.mpr ⟨ul_78, (List.forall_mem_cons.mpr ⟨(uWV _ uww_67), (fun _ h => nomatch h)⟩)⟩)⟩)⟩)) rfl rfl rfl (by decide +kernel) ⟨by decide, by decide⟩) (lw_cppre F hI) rfl rfl hl.1 rfl (lv_room (Nat.le_of_ble_eq_true rfl)) dL_law_653 ⟨by show _ ≤ 601024; omega, by show _ ≤ 7293034; omega⟩) (fun r64 H locs h hI => ?_)
                    refine lv_aload_n hx hb dL_law_656 rfl (lv_at hl 2 rfl) ?_
                    refine lw_rpi_m F hI (va_runV (As := []) (rest := [.int r64]) ⟨hx, hb, hml, hown, hv⟩ (met_X7_parts_0 l dC dI b kB t _ N K  _ h) (cwV 0 hv (uIn3 uww_817 (List.forall_mem_cons.mpr ⟨ul_79, (List.forall_mem_cons.mpr ⟨ul_80, (List.forall_mem_cons.mpr ⟨ul_81, (List.forall_mem_cons.mpr ⟨(uWV _ uww_563), (fun _ h => nomatch h)⟩)⟩)⟩)⟩)) rfl rfl rfl (by decide +kernel) ⟨by decide, by decide⟩) (lw_rppre F hI) rfl rfl hl.1 rfl (lv_room (Nat.le_of_ble_eq_true rfl)) dL_law_657 ⟨by show _ ≤ 601024; omega, by show _ ≤ 7293034; omega⟩) (fun r65 M66 H locs h hI => ?_)
                    refine lv_icmp_eq (tgt := 1019) hx hb dL_law_660 (by decide) (fun c67 => ?_) (fun c67 => ?_)
                    · have h := h.1 c67
                      refine W.widen (k := kc + 1) (n := ks + 11) (by omega) (by omega) ?_
                      exact hZ M L M66 K f _ _ _ h hI (lv_sub hl [0, 1, 2, 3, 4] rfl)
                    · have h := h.2 c67
                      refine lv_iconst (v := (0 : Int32)) hx hb dL_law_663 (by decide) ?_
                      exact h.elim
                  · have h := h.2 c40_8
                    by_cases c40_9 : ((xs x4.toNatClampNeg) &&& (15 : Int32)) = (9 : Int32)
                    · have h := h.1 c40_9
                      refine lv_tableIn (off := 625) (tgt := 665) hx hb dL_law_40 (by rw [c40_9]; decide) (by rw [c40_9]; decide) (by rw [c40_9]; rfl) (by decide) ?_
                      refine lv_aload_n hx hb dL_law_665 rfl (lv_at hl 1 rfl) ?_
                      refine lv_aload_n hx hb dL_law_666 rfl (lv_at hl 0 rfl) ?_
                      refine lv_iload hx hb dL_law_667 (lv_at hl 4 rfl) ?_
                      refine lv_iconst (v := (1 : Int32)) hx hb dL_law_669 (by decide) ?_
                      refine lv_iadd hx hb dL_law_670 ?_
                      refine va_sld hx hb hX hbl hbA hI.2.2.2 h.1 dL_law_671 ?_
                      have h := h.2
                      refine lw_cpi_p F hI (va_runV (As := [.int (xs (x4 + (1 : Int32)).toNatClampNeg)]) (rest := []) ⟨hx, hb, hml, hown, hv⟩ (met_X6_size_0 l dC dI a kA t _ M L (xs (x4 + (1 : Int32)).toNatClampNeg) _ h) (cwV 1 hv (uIn3 uww_522 (List.forall_mem_cons.mpr ⟨ul_82, (List.forall_mem_cons.mpr ⟨ul_83, (List.forall_mem_cons.mpr ⟨ul_84, (List.forall_mem_cons.mpr ⟨(uWV _ uww_67), (fun _ h => nomatch h)⟩)⟩)⟩)⟩)) rfl rfl rfl (by decide +kernel) ⟨by decide, by decide⟩) (lw_cppre F hI) rfl rfl hl.1 rfl (lv_room (Nat.le_of_ble_eq_true rfl)) dL_law_672 ⟨by show _ ≤ 601024; omega, by show _ ≤ 7293034; omega⟩) (fun r68 H locs h hI => ?_)
                      refine lv_aload_n hx hb dL_law_675 rfl (lv_at hl 2 rfl) ?_
                      refine lv_aload_n hx hb dL_law_676 rfl (lv_at hl 0 rfl) ?_
                      refine lv_iload hx hb dL_law_677 (lv_at hl 4 rfl) ?_
                      refine lv_iconst (v := (1 : Int32)) hx hb dL_law_679 (by decide) ?_
                      refine lv_iadd hx hb dL_law_680 ?_
                      refine va_sld hx hb hX hbl hbA hI.2.2.2 h.1 dL_law_681 ?_
                      have h := h.2
                      refine lw_rpi_m F hI (va_runV (As := [.int (xs (x4 + (1 : Int32)).toNatClampNeg)]) (rest := [.int r68]) ⟨hx, hb, hml, hown, hv⟩ (met_X7_size_0 l dC dI b kB t _ N K (xs (x4 + (1 : Int32)).toNatClampNeg) _ h) (cwV 1 hv (uIn3 uww_818 (List.forall_mem_cons.mpr ⟨ul_85, (List.forall_mem_cons.mpr ⟨ul_86, (List.forall_mem_cons.mpr ⟨ul_87, (List.forall_mem_cons.mpr ⟨(uWV _ uww_563), (fun _ h => nomatch h)⟩)⟩)⟩)⟩)) rfl rfl rfl (by decide +kernel) ⟨by decide, by decide⟩) (lw_rppre F hI) rfl rfl hl.1 rfl (lv_room (Nat.le_of_ble_eq_true rfl)) dL_law_682 ⟨by show _ ≤ 601024; omega, by show _ ≤ 7293034; omega⟩) (fun r69 M70 H locs h hI => ?_)
                      refine lv_icmp_eq (tgt := 1019) hx hb dL_law_685 (by decide) (fun c71 => ?_) (fun c71 => ?_)
                      · have h := h.1 c71
                        refine W.widen (k := kc + 1) (n := ks + 11) (by omega) (by omega) ?_
                        exact hZ M L M70 K f _ _ _ h hI (lv_sub hl [0, 1, 2, 3, 4] rfl)
                      · have h := h.2 c71
                        refine lv_iconst (v := (0 : Int32)) hx hb dL_law_688 (by decide) ?_
                        exact h.elim
                    · have h := h.2 c40_9
                      by_cases c40_10 : ((xs x4.toNatClampNeg) &&& (15 : Int32)) = (10 : Int32)
                      · have h := h.1 c40_10
                        refine lv_tableIn (off := 650) (tgt := 690) hx hb dL_law_40 (by rw [c40_10]; decide) (by rw [c40_10]; decide) (by rw [c40_10]; rfl) (by decide) ?_
                        refine lv_aload_n hx hb dL_law_690 rfl (lv_at hl 1 rfl) ?_
                        refine lv_aload_n hx hb dL_law_691 rfl (lv_at hl 0 rfl) ?_
                        refine lv_iload hx hb dL_law_692 (lv_at hl 4 rfl) ?_
                        refine lv_iconst (v := (1 : Int32)) hx hb dL_law_694 (by decide) ?_
                        refine lv_iadd hx hb dL_law_695 ?_
                        refine va_sld hx hb hX hbl hbA hI.2.2.2 h.1 dL_law_696 ?_
                        have h := h.2
                        refine lv_aload_n hx hb dL_law_697 rfl (lv_at hl 0 rfl) ?_
                        refine lv_iload hx hb dL_law_698 (lv_at hl 4 rfl) ?_
                        refine lv_iconst (v := (2 : Int32)) hx hb dL_law_700 (by decide) ?_
                        refine lv_iadd hx hb dL_law_701 ?_
                        refine va_sld hx hb hX hbl hbA hI.2.2.2 h.1 dL_law_702 ?_
                        have h := h.2
                        refine lv_aload_n hx hb dL_law_703 rfl (lv_at hl 3 rfl) ?_
                        refine lw_hcall F hI (vx_runSW (As := [.ref (a 0), .int (xs (x4 + (1 : Int32)).toNatClampNeg), .int (xs (x4 + (2 : Int32)).toNatClampNeg), .ref (o)]) (rest := []) ⟨hx, hb, hml, hown, hv⟩ (mh_octet l hls dC dI a kA t sa o kO _ M L f (xs (x4 + (1 : Int32)).toNatClampNeg) (xs (x4 + (2 : Int32)).toNatClampNeg) _ h) (vx_cwSW (hh := [(0, 10, 13, 33)]) 4 hv (uIn4 ul_90 (List.forall_mem_cons.mpr ⟨ul_88, (List.forall_mem_cons.mpr ⟨ul_89, (List.forall_mem_cons.mpr ⟨ul_12, (fun _ h => nomatch h)⟩)⟩)⟩)) rfl rfl rfl (by decide +kernel) ⟨by decide, by decide⟩) (lw_hpre F hI) rfl rfl hl.1 rfl (lv_room (Nat.le_of_ble_eq_true rfl)) dL_law_704 ⟨by show _ ≤ 601024; omega, by show _ ≤ 7293034; omega⟩) (fun r72 M73 L74 f75 H locs h hI => ?_)
                        refine lv_istore (lv' := [(5, .int r72), (0, .ref (sc)), (1, .ref (a 0)), (2, .ref (b 0)), (3, .ref (o)), (4, .int x4)]) hx hb dL_law_707 hl (by decide) rfl (fun ls hl => ?_)
                        refine lv_aload_n hx hb dL_law_709 rfl (lv_at hl 3 rfl) ?_
                        refine lv_aload_n hx hb dL_law_710 rfl (lv_at hl 1 rfl) ?_
                        refine lv_iload hx hb dL_law_711 (lv_at hl 5 rfl) ?_
                        refine lv_iconst (v := (1 : Int32)) hx hb dL_law_713 (by decide) ?_
                        refine lv_iadd hx hb dL_law_714 ?_
                        refine va_sld hx hb hX hbl hbA hI.2.2.2 h.1 dL_law_715 ?_
                        have h := h.2
                        refine lv_aload_n hx hb dL_law_716 rfl (lv_at hl 1 rfl) ?_
                        refine lv_iload hx hb dL_law_717 (lv_at hl 5 rfl) ?_
                        refine lv_iconst (v := (2 : Int32)) hx hb dL_law_719 (by decide) ?_
                        refine lv_iadd hx hb dL_law_720 ?_
                        refine va_sld hx hb hX hbl hbA hI.2.2.2 h.1 dL_law_721 ?_
                        have h := h.2
                        refine lw_rpi_m F hI (va_runV (As := [.int (xs (x4 + (1 : Int32)).toNatClampNeg), .int (xs (x4 + (2 : Int32)).toNatClampNeg)]) (rest := []) ⟨hx, hb, hml, hown, hv⟩ (met_X7_octet_0 l dC dI b kB t _ N K (xs (x4 + (1 : Int32)).toNatClampNeg) (xs (x4 + (2 : Int32)).toNatClampNeg) _ h) (cwV 2 hv (uIn3 uww_822 (List.forall_mem_cons.mpr ⟨ul_95, (List.forall_mem_cons.mpr ⟨ul_96, (List.forall_mem_cons.mpr ⟨ul_97, (List.forall_mem_cons.mpr ⟨(uWV _ uww_563), (fun _ h => nomatch h)⟩)⟩)⟩)⟩)) rfl rfl rfl (by decide +kernel) ⟨by decide, by decide⟩) (lw_rppre F hI) rfl rfl hl.1 rfl (lv_room (Nat.le_of_ble_eq_true rfl)) dL_law_722 ⟨by show _ ≤ 601024; omega, by show _ ≤ 7293034; omega⟩) (fun r76 M77 H locs h hI => ?_)
                        refine lv_istore (lv' := [(6, .int r76), (5, .int r72), (0, .ref (sc)), (1, .ref (a 0)), (2, .ref (b 0)), (3, .ref (o)), (4, .int x4)]) hx hb dL_law_725 hl (by decide) rfl (fun ls hl => ?_)
                        refine lv_aload_n hx hb dL_law_727 rfl (lv_at hl 4 rfl) ?_
                        refine lw_rpi_p F hI (va_runV (As := []) (rest := []) ⟨hx, hb, hml, hown, hv⟩ (met_X7_thrown_0 l dC dI b kB t _ M77 K  _ h) (cwV 0 hv (uIn3 uww_555 (List.forall_mem_cons.mpr ⟨ul_21, (List.forall_mem_cons.mpr ⟨ul_22, (List.forall_mem_cons.mpr ⟨ul_23, (List.forall_mem_cons.mpr ⟨(uWV _ uww_563), (fun _ h => nomatch h)⟩)⟩)⟩)⟩)) rfl rfl rfl (by decide +kernel) ⟨by decide, by decide⟩) (lw_rppre F hI) rfl rfl hl.1 rfl (lv_room (Nat.le_of_ble_eq_true rfl)) dL_law_728 ⟨by show _ ≤ 601024; omega, by show _ ≤ 7293034; omega⟩) (fun r78 H locs h hI => ?_)
                        refine lv_iload hx hb dL_law_731 (lv_at hl 1 rfl) ?_
                        refine lv_icmp_eq (tgt := 738) hx hb dL_law_733 (by decide) (fun c79 => ?_) (fun c79 => ?_)
                        · have h := h.1 c79
                          refine lv_iload hx hb dL_law_738 (lv_at hl 1 rfl) ?_
                          obtain ⟨K755, hK755, h⟩ := h
                          have J755 : ∀  (H : Heap) (locs : List Loc) (ls : Array Slot), K755  → lwI dC dI a kA b kB o kO s M73 L74 M77 K f75 H locs → lv_has ls 7 [(0, .ref (sc)), (1, .ref (a 0)), (2, .ref (b 0)), (3, .ref (o)), (4, .int x4)] → W p l e room_1 s m #[Value.ref sc] below meth c H locs (kc + 1) (ks + 11) (lw_Z below #[Value.ref sc] s) (F0 m 755 ls []) := by
                            intro  H locs ls h hI hl
                            have h := hK755  h
                            refine lv_goto (tgt := 1019) hx hb dL_law_755 (by decide) ?_
                            refine W.widen (k := kc + 1) (n := ks + 11) (by omega) (by omega) ?_
                            exact hZ M73 L74 M77 K f75 _ _ _ h hI (lv_sub hl [0, 1, 2, 3, 4] rfl)
                          refine lv_if_ne (tgt := 755) hx hb dL_law_740 (by decide) (fun c80 => ?_) (fun c80 => ?_)
                          · have h := h.1 c80
                            refine W.widen (k := kc + 1) (n := ks + 11) (by omega) (by omega) ?_
                            exact J755  _ _ _ h hI (lv_sub hl [2, 3, 4, 5, 6] rfl)
                          · have h := h.2 c80
                            refine lv_aload_n hx hb dL_law_743 rfl (lv_at hl 5 rfl) ?_
                            refine lv_iconst (v := (0 : Int32)) hx hb dL_law_744 (by decide) ?_
                            refine va_lald hx hb F.2.2.2.2.2.2.2.2.1 hI.2.2.1 0 0 rfl rfl vp_in_01 dL_law_745 ?_
                            refine lv_iload hx hb dL_law_746 (lv_at hl 0 rfl) ?_
                            refine lv_i2l hx hb dL_law_748 rfl ?_
                            refine W.lcmp hx hb dL_law_749 ?_
                            refine lv_if_eq (tgt := 755) hx hb dL_law_750 (by decide) (fun c81 => ?_) (fun c81 => ?_)
                            · have h := h.1 c81
                              refine W.widen (k := kc + 1) (n := ks + 11) (by omega) (by omega) ?_
                              exact J755  _ _ _ h hI (lv_sub hl [2, 3, 4, 5, 6] rfl)
                            · have h := h.2 c81
                              refine lv_iconst (v := (0 : Int32)) hx hb dL_law_753 (by decide) ?_
                              exact h.elim
                        · have h := h.2 c79
                          refine lv_iconst (v := (0 : Int32)) hx hb dL_law_736 (by decide) ?_
                          exact h.elim
                      · have h := h.2 c40_10
                        by_cases c40_11 : ((xs x4.toNatClampNeg) &&& (15 : Int32)) = (11 : Int32)
                        · have h := h.1 c40_11
                          refine lv_tableIn (off := 718) (tgt := 758) hx hb dL_law_40 (by rw [c40_11]; decide) (by rw [c40_11]; decide) (by rw [c40_11]; rfl) (by decide) ?_
                          refine lv_aload_n hx hb dL_law_758 rfl (lv_at hl 1 rfl) ?_
                          refine lv_aload_n hx hb dL_law_759 rfl (lv_at hl 0 rfl) ?_
                          refine lv_iload hx hb dL_law_760 (lv_at hl 4 rfl) ?_
                          refine lv_iconst (v := (1 : Int32)) hx hb dL_law_762 (by decide) ?_
                          refine lv_iadd hx hb dL_law_763 ?_
                          refine va_sld hx hb hX hbl hbA hI.2.2.2 h.1 dL_law_764 ?_
                          have h := h.2
                          refine lv_aload_n hx hb dL_law_765 rfl (lv_at hl 0 rfl) ?_
                          refine lv_iload hx hb dL_law_766 (lv_at hl 4 rfl) ?_
                          refine lv_iconst (v := (2 : Int32)) hx hb dL_law_768 (by decide) ?_
                          refine lv_iadd hx hb dL_law_769 ?_
                          refine va_sld hx hb hX hbl hbA hI.2.2.2 h.1 dL_law_770 ?_
                          have h := h.2
                          refine lv_aload_n hx hb dL_law_771 rfl (lv_at hl 0 rfl) ?_
                          refine lv_iload hx hb dL_law_772 (lv_at hl 4 rfl) ?_
                          refine lv_iconst (v := (3 : Int32)) hx hb dL_law_774 (by decide) ?_
                          refine lv_iadd hx hb dL_law_775 ?_
                          refine va_sld hx hb hX hbl hbA hI.2.2.2 h.1 dL_law_776 ?_
                          have h := h.2
                          refine lv_aload_n hx hb dL_law_777 rfl (lv_at hl 3 rfl) ?_
                          refine lw_hcall F hI (vx_runSW (As := [.ref (a 0), .int (xs (x4 + (1 : Int32)).toNatClampNeg), .int (xs (x4 + (2 : Int32)).toNatClampNeg), .int (xs (x4 + (3 : Int32)).toNatClampNeg), .ref (o)]) (rest := []) ⟨hx, hb, hml, hown, hv⟩ (mh_check l hls dC dI a kA t sa o kO _ M L f (xs (x4 + (1 : Int32)).toNatClampNeg) (xs (x4 + (2 : Int32)).toNatClampNeg) (xs (x4 + (3 : Int32)).toNatClampNeg) _ h) (vx_cwSW (hh := [(0, 12, 15, 33)]) 5 hv (uIn4 ul_100 (List.forall_mem_cons.mpr ⟨ul_98, (List.forall_mem_cons.mpr ⟨ul_99, (List.forall_mem_cons.mpr ⟨ul_12, (fun _ h => nomatch h)⟩)⟩)⟩)) rfl rfl rfl (by decide +kernel) ⟨by decide, by decide⟩) (lw_hpre F hI) rfl rfl hl.1 rfl (lv_room (Nat.le_of_ble_eq_true rfl)) dL_law_778 ⟨by show _ ≤ 601024; omega, by show _ ≤ 7293034; omega⟩) (fun r82 M83 L84 f85 H locs h hI => ?_)
                          refine lv_istore (lv' := [(5, .int r82), (0, .ref (sc)), (1, .ref (a 0)), (2, .ref (b 0)), (3, .ref (o)), (4, .int x4)]) hx hb dL_law_781 hl (by decide) rfl (fun ls hl => ?_)
                          refine lv_aload_n hx hb dL_law_783 rfl (lv_at hl 3 rfl) ?_
                          refine lv_aload_n hx hb dL_law_784 rfl (lv_at hl 1 rfl) ?_
                          refine lv_iload hx hb dL_law_785 (lv_at hl 5 rfl) ?_
                          refine lv_iconst (v := (1 : Int32)) hx hb dL_law_787 (by decide) ?_
                          refine lv_iadd hx hb dL_law_788 ?_
                          refine va_sld hx hb hX hbl hbA hI.2.2.2 h.1 dL_law_789 ?_
                          have h := h.2
                          refine lv_aload_n hx hb dL_law_790 rfl (lv_at hl 1 rfl) ?_
                          refine lv_iload hx hb dL_law_791 (lv_at hl 5 rfl) ?_
                          refine lv_iconst (v := (2 : Int32)) hx hb dL_law_793 (by decide) ?_
                          refine lv_iadd hx hb dL_law_794 ?_
                          refine va_sld hx hb hX hbl hbA hI.2.2.2 h.1 dL_law_795 ?_
                          have h := h.2
                          refine lv_aload_n hx hb dL_law_796 rfl (lv_at hl 1 rfl) ?_
                          refine lv_iload hx hb dL_law_797 (lv_at hl 5 rfl) ?_
                          refine lv_iconst (v := (3 : Int32)) hx hb dL_law_799 (by decide) ?_
                          refine lv_iadd hx hb dL_law_800 ?_
                          refine va_sld hx hb hX hbl hbA hI.2.2.2 h.1 dL_law_801 ?_
                          have h := h.2
                          refine lw_rpi F hI (va_runV (As := [.int (xs (x4 + (1 : Int32)).toNatClampNeg), .int (xs (x4 + (2 : Int32)).toNatClampNeg), .int (xs (x4 + (3 : Int32)).toNatClampNeg)]) (rest := []) ⟨hx, hb, hml, hown, hv⟩ (met_X7_check_0 l dC dI b kB t _ N K (xs (x4 + (1 : Int32)).toNatClampNeg) (xs (x4 + (2 : Int32)).toNatClampNeg) (xs (x4 + (3 : Int32)).toNatClampNeg) _ h) (cwV 3 hv (uIn3 uww_823 (List.forall_mem_cons.mpr ⟨ul_104, (List.forall_mem_cons.mpr ⟨ul_105, (List.forall_mem_cons.mpr ⟨ul_106, (List.forall_mem_cons.mpr ⟨(uWV _ uww_563), (fun _ h => nomatch h)⟩)⟩)⟩)⟩)) rfl rfl rfl (by decide +kernel) ⟨by decide, by decide⟩) (lw_rppre F hI) rfl rfl hl.1 rfl (lv_room (Nat.le_of_ble_eq_true rfl)) dL_law_802 ⟨by show _ ≤ 601024; omega, by show _ ≤ 7293034; omega⟩) (fun r86 M87 L88 H locs h hI => ?_)
                          refine lv_istore (lv' := [(6, .int r86), (5, .int r82), (0, .ref (sc)), (1, .ref (a 0)), (2, .ref (b 0)), (3, .ref (o)), (4, .int x4)]) hx hb dL_law_805 hl (by decide) rfl (fun ls hl => ?_)
                          refine lv_aload_n hx hb dL_law_807 rfl (lv_at hl 4 rfl) ?_
                          refine lw_rpi_p F hI (va_runV (As := []) (rest := []) ⟨hx, hb, hml, hown, hv⟩ (met_X7_thrown_0 l dC dI b kB t _ M87 L88  _ h) (cwV 0 hv (uIn3 uww_555 (List.forall_mem_cons.mpr ⟨ul_21, (List.forall_mem_cons.mpr ⟨ul_22, (List.forall_mem_cons.mpr ⟨ul_23, (List.forall_mem_cons.mpr ⟨(uWV _ uww_563), (fun _ h => nomatch h)⟩)⟩)⟩)⟩)) rfl rfl rfl (by decide +kernel) ⟨by decide, by decide⟩) (lw_rppre F hI) rfl rfl hl.1 rfl (lv_room (Nat.le_of_ble_eq_true rfl)) dL_law_808 ⟨by show _ ≤ 601024; omega, by show _ ≤ 7293034; omega⟩) (fun r89 H locs h hI => ?_)
                          refine lv_iload hx hb dL_law_811 (lv_at hl 1 rfl) ?_
                          refine lv_icmp_eq (tgt := 818) hx hb dL_law_813 (by decide) (fun c90 => ?_) (fun c90 => ?_)
                          · have h := h.1 c90
                            refine lv_iload hx hb dL_law_818 (lv_at hl 1 rfl) ?_
                            obtain ⟨K835, hK835, h⟩ := h
                            have J835 : ∀  (H : Heap) (locs : List Loc) (ls : Array Slot), K835  → lwI dC dI a kA b kB o kO s M83 L84 M87 L88 f85 H locs → lv_has ls 7 [(0, .ref (sc)), (1, .ref (a 0)), (2, .ref (b 0)), (3, .ref (o)), (4, .int x4)] → W p l e room_1 s m #[Value.ref sc] below meth c H locs (kc + 1) (ks + 11) (lw_Z below #[Value.ref sc] s) (F0 m 835 ls []) := by
                              intro  H locs ls h hI hl
                              have h := hK835  h
                              refine lv_goto (tgt := 1019) hx hb dL_law_835 (by decide) ?_
                              refine W.widen (k := kc + 1) (n := ks + 11) (by omega) (by omega) ?_
                              exact hZ M83 L84 M87 L88 f85 _ _ _ h hI (lv_sub hl [0, 1, 2, 3, 4] rfl)
                            refine lv_if_ne (tgt := 835) hx hb dL_law_820 (by decide) (fun c91 => ?_) (fun c91 => ?_)
                            · have h := h.1 c91
                              refine W.widen (k := kc + 1) (n := ks + 11) (by omega) (by omega) ?_
                              exact J835  _ _ _ h hI (lv_sub hl [2, 3, 4, 5, 6] rfl)
                            · have h := h.2 c91
                              refine lv_aload_n hx hb dL_law_823 rfl (lv_at hl 5 rfl) ?_
                              refine lv_iconst (v := (0 : Int32)) hx hb dL_law_824 (by decide) ?_
                              refine va_lald hx hb F.2.2.2.2.2.2.2.2.1 hI.2.2.1 0 0 rfl rfl vp_in_01 dL_law_825 ?_
                              refine lv_iload hx hb dL_law_826 (lv_at hl 0 rfl) ?_
                              refine lv_i2l hx hb dL_law_828 rfl ?_
                              refine W.lcmp hx hb dL_law_829 ?_
                              refine lv_if_eq (tgt := 835) hx hb dL_law_830 (by decide) (fun c92 => ?_) (fun c92 => ?_)
                              · have h := h.1 c92
                                refine W.widen (k := kc + 1) (n := ks + 11) (by omega) (by omega) ?_
                                exact J835  _ _ _ h hI (lv_sub hl [2, 3, 4, 5, 6] rfl)
                              · have h := h.2 c92
                                refine lv_iconst (v := (0 : Int32)) hx hb dL_law_833 (by decide) ?_
                                exact h.elim
                          · have h := h.2 c90
                            refine lv_iconst (v := (0 : Int32)) hx hb dL_law_816 (by decide) ?_
                            exact h.elim
                        · have h := h.2 c40_11
                          by_cases c40_12 : ((xs x4.toNatClampNeg) &&& (15 : Int32)) = (12 : Int32)
                          · have h := h.1 c40_12
                            refine lv_tableIn (off := 798) (tgt := 838) hx hb dL_law_40 (by rw [c40_12]; decide) (by rw [c40_12]; decide) (by rw [c40_12]; rfl) (by decide) ?_
                            refine lv_aload_n hx hb dL_law_838 rfl (lv_at hl 1 rfl) ?_
                            refine lv_aload_n hx hb dL_law_839 rfl (lv_at hl 0 rfl) ?_
                            refine lv_iload hx hb dL_law_840 (lv_at hl 4 rfl) ?_
                            refine lv_iconst (v := (1 : Int32)) hx hb dL_law_842 (by decide) ?_
                            refine lv_iadd hx hb dL_law_843 ?_
                            refine va_sld hx hb hX hbl hbA hI.2.2.2 h.1 dL_law_844 ?_
                            have h := h.2
                            refine lv_aload_n hx hb dL_law_845 rfl (lv_at hl 0 rfl) ?_
                            refine lv_iload hx hb dL_law_846 (lv_at hl 4 rfl) ?_
                            refine lv_iconst (v := (2 : Int32)) hx hb dL_law_848 (by decide) ?_
                            refine lv_iadd hx hb dL_law_849 ?_
                            refine va_sld hx hb hX hbl hbA hI.2.2.2 h.1 dL_law_850 ?_
                            have h := h.2
                            obtain ⟨K859, hK859, h⟩ := h
                            have J859 : ∀ (v93 : Int32) (H : Heap) (locs : List Loc) (ls : Array Slot), K859 v93 → lwI dC dI a kA b kB o kO s M L N K f H locs → lv_has ls 7 [(0, .ref (sc)), (1, .ref (a 0)), (2, .ref (b 0)), (3, .ref (o)), (4, .int x4)] → W p l e room_1 s m #[Value.ref sc] below meth c H locs (kc + 1) (ks + 11) (lw_Z below #[Value.ref sc] s) (F0 m 859 ls [.int v93, .int (xs (x4 + (1 : Int32)).toNatClampNeg), .ref (a 0)]) := by
                              intro v93 H locs ls h hI hl
                              have h := hK859 v93 h
                              refine lw_cpl_p F hI (va_runV (As := [.int (xs (x4 + (1 : Int32)).toNatClampNeg), .int v93]) (rest := []) ⟨hx, hb, hml, hown, hv⟩ (met_X6_image_0 l dC dI a kA t _ M L (xs (x4 + (1 : Int32)).toNatClampNeg) v93 _ h) (cwV 2 hv (uIn3 uww_533 (List.forall_mem_cons.mpr ⟨ul_107, (List.forall_mem_cons.mpr ⟨ul_108, (List.forall_mem_cons.mpr ⟨ul_109, (List.forall_mem_cons.mpr ⟨(uWV _ uww_67), (fun _ h => nomatch h)⟩)⟩)⟩)⟩)) rfl rfl rfl (by decide +kernel) ⟨by decide, by decide⟩) (lw_cppre F hI) rfl rfl hl.1 rfl (lv_room (Nat.le_of_ble_eq_true rfl)) dL_law_859 ⟨by show _ ≤ 601024; omega, by show _ ≤ 7293034; omega⟩) (fun r94 H locs h hI => ?_)
                              refine lv_aload_n hx hb dL_law_862 rfl (lv_at hl 2 rfl) ?_
                              refine lv_aload_n hx hb dL_law_863 rfl (lv_at hl 0 rfl) ?_
                              refine lv_iload hx hb dL_law_864 (lv_at hl 4 rfl) ?_
                              refine lv_iconst (v := (1 : Int32)) hx hb dL_law_866 (by decide) ?_
                              refine lv_iadd hx hb dL_law_867 ?_
                              refine va_sld hx hb hX hbl hbA hI.2.2.2 h.1 dL_law_868 ?_
                              have h := h.2
                              refine lv_aload_n hx hb dL_law_869 rfl (lv_at hl 0 rfl) ?_
                              refine lv_iload hx hb dL_law_870 (lv_at hl 4 rfl) ?_
                              refine lv_iconst (v := (2 : Int32)) hx hb dL_law_872 (by decide) ?_
                              refine lv_iadd hx hb dL_law_873 ?_
                              refine va_sld hx hb hX hbl hbA hI.2.2.2 h.1 dL_law_874 ?_
                              have h := h.2
                              obtain ⟨K883, hK883, h⟩ := h
                              have J883 : ∀ (v95 : Int32) (H : Heap) (locs : List Loc) (ls : Array Slot), K883 v95 → lwI dC dI a kA b kB o kO s M L N K f H locs → lv_has ls 7 [(0, .ref (sc)), (1, .ref (a 0)), (2, .ref (b 0)), (3, .ref (o)), (4, .int x4)] → W p l e room_1 s m #[Value.ref sc] below meth c H locs (kc + 1) (ks + 11) (lw_Z below #[Value.ref sc] s) (F0 m 883 ls [.int v95, .int (xs (x4 + (1 : Int32)).toNatClampNeg), .ref (b 0), .long r94]) := by
                                intro v95 H locs ls h hI hl
                                have h := hK883 v95 h
                                refine lw_rpl F hI (va_runV (As := [.int (xs (x4 + (1 : Int32)).toNatClampNeg), .int v95]) (rest := [.long r94]) ⟨hx, hb, hml, hown, hv⟩ (met_X7_image_0 l dC dI b kB t _ N K (xs (x4 + (1 : Int32)).toNatClampNeg) v95 _ h) (cwV 2 hv (uIn3 uww_585 (List.forall_mem_cons.mpr ⟨ul_110, (List.forall_mem_cons.mpr ⟨ul_111, (List.forall_mem_cons.mpr ⟨ul_112, (List.forall_mem_cons.mpr ⟨(uWV _ uww_563), (fun _ h => nomatch h)⟩)⟩)⟩)⟩)) rfl rfl rfl (by decide +kernel) ⟨by decide, by decide⟩) (lw_rppre F hI) rfl rfl hl.1 rfl (lv_room (Nat.le_of_ble_eq_true rfl)) dL_law_883 ⟨by show _ ≤ 601024; omega, by show _ ≤ 7293034; omega⟩) (fun r96 M97 L98 H locs h hI => ?_)
                                refine W.lcmp hx hb dL_law_886 ?_
                                refine lv_if_eq (tgt := 1019) hx hb dL_law_887 (by decide) (fun c99 => ?_) (fun c99 => ?_)
                                · have h := h.1 c99
                                  refine W.widen (k := kc + 1) (n := ks + 11) (by omega) (by omega) ?_
                                  exact hZ M L M97 L98 f _ _ _ h hI (lv_sub hl [0, 1, 2, 3, 4] rfl)
                                · have h := h.2 c99
                                  refine lv_iconst (v := (0 : Int32)) hx hb dL_law_890 (by decide) ?_
                                  exact h.elim
                              refine lv_if_eq (tgt := 882) hx hb dL_law_875 (by decide) (fun c100 => ?_) (fun c100 => ?_)
                              · have h := h.1 c100
                                refine lv_iconst (v := (0 : Int32)) hx hb dL_law_882 (by decide) ?_
                                refine W.widen (k := kc + 1) (n := ks + 11) (by omega) (by omega) ?_
                                exact J883 (0 : Int32) _ _ _ h hI (lv_sub hl [0, 1, 2, 3, 4] rfl)
                              · have h := h.2 c100
                                refine lv_iconst (v := (1 : Int32)) hx hb dL_law_878 (by decide) ?_
                                refine lv_goto (tgt := 883) hx hb dL_law_879 (by decide) ?_
                                refine W.widen (k := kc + 1) (n := ks + 11) (by omega) (by omega) ?_
                                exact J883 (1 : Int32) _ _ _ h hI (lv_sub hl [0, 1, 2, 3, 4] rfl)
                            refine lv_if_eq (tgt := 858) hx hb dL_law_851 (by decide) (fun c101 => ?_) (fun c101 => ?_)
                            · have h := h.1 c101
                              refine lv_iconst (v := (0 : Int32)) hx hb dL_law_858 (by decide) ?_
                              refine W.widen (k := kc + 1) (n := ks + 11) (by omega) (by omega) ?_
                              exact J859 (0 : Int32) _ _ _ h hI (lv_sub hl [0, 1, 2, 3, 4] rfl)
                            · have h := h.2 c101
                              refine lv_iconst (v := (1 : Int32)) hx hb dL_law_854 (by decide) ?_
                              refine lv_goto (tgt := 859) hx hb dL_law_855 (by decide) ?_
                              refine W.widen (k := kc + 1) (n := ks + 11) (by omega) (by omega) ?_
                              exact J859 (1 : Int32) _ _ _ h hI (lv_sub hl [0, 1, 2, 3, 4] rfl)
                          · have h := h.2 c40_12
                            by_cases c40_13 : ((xs x4.toNatClampNeg) &&& (15 : Int32)) = (13 : Int32)
                            · have h := h.1 c40_13
                              refine lv_tableIn (off := 852) (tgt := 892) hx hb dL_law_40 (by rw [c40_13]; decide) (by rw [c40_13]; decide) (by rw [c40_13]; rfl) (by decide) ?_
                              refine lv_aload_n hx hb dL_law_892 rfl (lv_at hl 1 rfl) ?_
                              refine lv_aload_n hx hb dL_law_893 rfl (lv_at hl 0 rfl) ?_
                              refine lv_iload hx hb dL_law_894 (lv_at hl 4 rfl) ?_
                              refine lv_iconst (v := (1 : Int32)) hx hb dL_law_896 (by decide) ?_
                              refine lv_iadd hx hb dL_law_897 ?_
                              refine va_sld hx hb hX hbl hbA hI.2.2.2 h.1 dL_law_898 ?_
                              have h := h.2
                              refine lv_i2l hx hb dL_law_899 rfl ?_
                              refine lv_bipush (v := (32 : Int32)) hx hb dL_law_900 (by decide) ?_
                              refine lv_lshl hx hb dL_law_902 rfl ?_
                              refine lv_aload_n hx hb dL_law_903 rfl (lv_at hl 0 rfl) ?_
                              refine lv_iload hx hb dL_law_904 (lv_at hl 4 rfl) ?_
                              refine lv_iconst (v := (2 : Int32)) hx hb dL_law_906 (by decide) ?_
                              refine lv_iadd hx hb dL_law_907 ?_
                              refine va_sld hx hb hX hbl hbA hI.2.2.2 h.1 dL_law_908 ?_
                              have h := h.2
                              refine lv_i2l hx hb dL_law_909 rfl ?_
                              refine lv_ldc2 (own := RL) (v := (4294967295 : Int64)) hx hb hown (hv _ ul_5) dL_law_910 ?_
                              refine lv_land hx hb dL_law_913 ?_
                              refine lv_lor hx hb dL_law_914 ?_
                              refine lv_aload_n hx hb dL_law_915 rfl (lv_at hl 0 rfl) ?_
                              refine lv_iload hx hb dL_law_916 (lv_at hl 4 rfl) ?_
                              refine lv_iconst (v := (3 : Int32)) hx hb dL_law_918 (by decide) ?_
                              refine lv_iadd hx hb dL_law_919 ?_
                              refine va_sld hx hb hX hbl hbA hI.2.2.2 h.1 dL_law_920 ?_
                              have h := h.2
                              refine lv_i2l hx hb dL_law_921 rfl ?_
                              refine lv_bipush (v := (32 : Int32)) hx hb dL_law_922 (by decide) ?_
                              refine lv_lshl hx hb dL_law_924 rfl ?_
                              refine lv_aload_n hx hb dL_law_925 rfl (lv_at hl 0 rfl) ?_
                              refine lv_iload hx hb dL_law_926 (lv_at hl 4 rfl) ?_
                              refine lv_iconst (v := (4 : Int32)) hx hb dL_law_928 (by decide) ?_
                              refine lv_iadd hx hb dL_law_929 ?_
                              refine va_sld hx hb hX hbl hbA hI.2.2.2 h.1 dL_law_930 ?_
                              have h := h.2
                              refine lv_i2l hx hb dL_law_931 rfl ?_
                              refine lv_ldc2 (own := RL) (v := (4294967295 : Int64)) hx hb hown (hv _ ul_5) dL_law_932 ?_
                              refine lv_land hx hb dL_law_935 ?_
                              refine lv_lor hx hb dL_law_936 ?_
                              refine lw_cpl_p F hI (va_runV (As := [.long ((((xs (x4 + (1 : Int32)).toNatClampNeg).toInt64) <<< ((32 : Int32).toInt64 &&& 63)) ||| (((xs (x4 + (2 : Int32)).toNatClampNeg).toInt64) &&& (4294967295 : Int64))), .long ((((xs (x4 + (3 : Int32)).toNatClampNeg).toInt64) <<< ((32 : Int32).toInt64 &&& 63)) ||| (((xs (x4 + (4 : Int32)).toNatClampNeg).toInt64) &&& (4294967295 : Int64)))]) (rest := []) ⟨hx, hb, hml, hown, hv⟩ (met_X6_address_0 l dC dI a kA t _ M L ((((xs (x4 + (1 : Int32)).toNatClampNeg).toInt64) <<< ((32 : Int32).toInt64 &&& 63)) ||| (((xs (x4 + (2 : Int32)).toNatClampNeg).toInt64) &&& (4294967295 : Int64))) ((((xs (x4 + (3 : Int32)).toNatClampNeg).toInt64) <<< ((32 : Int32).toInt64 &&& 63)) ||| (((xs (x4 + (4 : Int32)).toNatClampNeg).toInt64) &&& (4294967295 : Int64))) _ h) (cwV 2 hv (uIn3 uww_534 (List.forall_mem_cons.mpr ⟨ul_113, (List.forall_mem_cons.mpr ⟨ul_114, (List.forall_mem_cons.mpr ⟨ul_115, (List.forall_mem_cons.mpr ⟨(uWV _ uww_67), (fun _ h => nomatch h)⟩)⟩)⟩)⟩)) rfl rfl rfl (by decide +kernel) ⟨by decide, by decide⟩) (lw_cppre F hI) rfl rfl hl.1 rfl (lv_room (Nat.le_of_ble_eq_true rfl)) dL_law_937 ⟨by show _ ≤ 601024; omega, by show _ ≤ 7293034; omega⟩) (fun r102 H locs h hI => ?_)
                              refine lv_aload_n hx hb dL_law_940 rfl (lv_at hl 2 rfl) ?_
                              refine lv_aload_n hx hb dL_law_941 rfl (lv_at hl 0 rfl) ?_
                              refine lv_iload hx hb dL_law_942 (lv_at hl 4 rfl) ?_
                              refine lv_iconst (v := (1 : Int32)) hx hb dL_law_944 (by decide) ?_
                              refine lv_iadd hx hb dL_law_945 ?_
                              refine va_sld hx hb hX hbl hbA hI.2.2.2 h.1 dL_law_946 ?_
                              have h := h.2
                              refine lv_i2l hx hb dL_law_947 rfl ?_
                              refine lv_bipush (v := (32 : Int32)) hx hb dL_law_948 (by decide) ?_
                              refine lv_lshl hx hb dL_law_950 rfl ?_
                              refine lv_aload_n hx hb dL_law_951 rfl (lv_at hl 0 rfl) ?_
                              refine lv_iload hx hb dL_law_952 (lv_at hl 4 rfl) ?_
                              refine lv_iconst (v := (2 : Int32)) hx hb dL_law_954 (by decide) ?_
                              refine lv_iadd hx hb dL_law_955 ?_
                              refine va_sld hx hb hX hbl hbA hI.2.2.2 h.1 dL_law_956 ?_
                              have h := h.2
                              refine lv_i2l hx hb dL_law_957 rfl ?_
                              refine lv_ldc2 (own := RL) (v := (4294967295 : Int64)) hx hb hown (hv _ ul_5) dL_law_958 ?_
                              refine lv_land hx hb dL_law_961 ?_
                              refine lv_lor hx hb dL_law_962 ?_
                              refine lv_aload_n hx hb dL_law_963 rfl (lv_at hl 0 rfl) ?_
                              refine lv_iload hx hb dL_law_964 (lv_at hl 4 rfl) ?_
                              refine lv_iconst (v := (3 : Int32)) hx hb dL_law_966 (by decide) ?_
                              refine lv_iadd hx hb dL_law_967 ?_
                              refine va_sld hx hb hX hbl hbA hI.2.2.2 h.1 dL_law_968 ?_
                              have h := h.2
                              refine lv_i2l hx hb dL_law_969 rfl ?_
                              refine lv_bipush (v := (32 : Int32)) hx hb dL_law_970 (by decide) ?_
                              refine lv_lshl hx hb dL_law_972 rfl ?_
                              refine lv_aload_n hx hb dL_law_973 rfl (lv_at hl 0 rfl) ?_
                              refine lv_iload hx hb dL_law_974 (lv_at hl 4 rfl) ?_
                              refine lv_iconst (v := (4 : Int32)) hx hb dL_law_976 (by decide) ?_
                              refine lv_iadd hx hb dL_law_977 ?_
                              refine va_sld hx hb hX hbl hbA hI.2.2.2 h.1 dL_law_978 ?_
                              have h := h.2
                              refine lv_i2l hx hb dL_law_979 rfl ?_
                              refine lv_ldc2 (own := RL) (v := (4294967295 : Int64)) hx hb hown (hv _ ul_5) dL_law_980 ?_
                              refine lv_land hx hb dL_law_983 ?_
                              refine lv_lor hx hb dL_law_984 ?_
                              refine lw_rpl F hI (va_runV (As := [.long ((((xs (x4 + (1 : Int32)).toNatClampNeg).toInt64) <<< ((32 : Int32).toInt64 &&& 63)) ||| (((xs (x4 + (2 : Int32)).toNatClampNeg).toInt64) &&& (4294967295 : Int64))), .long ((((xs (x4 + (3 : Int32)).toNatClampNeg).toInt64) <<< ((32 : Int32).toInt64 &&& 63)) ||| (((xs (x4 + (4 : Int32)).toNatClampNeg).toInt64) &&& (4294967295 : Int64)))]) (rest := [.long r102]) ⟨hx, hb, hml, hown, hv⟩ (met_X7_address_0 l dC dI b kB t _ N K ((((xs (x4 + (1 : Int32)).toNatClampNeg).toInt64) <<< ((32 : Int32).toInt64 &&& 63)) ||| (((xs (x4 + (2 : Int32)).toNatClampNeg).toInt64) &&& (4294967295 : Int64))) ((((xs (x4 + (3 : Int32)).toNatClampNeg).toInt64) <<< ((32 : Int32).toInt64 &&& 63)) ||| (((xs (x4 + (4 : Int32)).toNatClampNeg).toInt64) &&& (4294967295 : Int64))) _ h) (cwV 2 hv (uIn3 uww_586 (List.forall_mem_cons.mpr ⟨ul_116, (List.forall_mem_cons.mpr ⟨ul_117, (List.forall_mem_cons.mpr ⟨ul_118, (List.forall_mem_cons.mpr ⟨(uWV _ uww_563), (fun _ h => nomatch h)⟩)⟩)⟩)⟩)) rfl rfl rfl (by decide +kernel) ⟨by decide, by decide⟩) (lw_rppre F hI) rfl rfl hl.1 rfl (lv_room (Nat.le_of_ble_eq_true rfl)) dL_law_985 ⟨by show _ ≤ 601024; omega, by show _ ≤ 7293034; omega⟩) (fun r103 M104 L105 H locs h hI => ?_)
                              refine W.lcmp hx hb dL_law_988 ?_
                              refine lv_if_eq (tgt := 1019) hx hb dL_law_989 (by decide) (fun c106 => ?_) (fun c106 => ?_)
                              · have h := h.1 c106
                                refine W.widen (k := kc + 1) (n := ks + 11) (by omega) (by omega) ?_
                                exact hZ M L M104 L105 f _ _ _ h hI (lv_sub hl [0, 1, 2, 3, 4] rfl)
                              · have h := h.2 c106
                                refine lv_iconst (v := (0 : Int32)) hx hb dL_law_992 (by decide) ?_
                                exact h.elim
                            · have h := h.2 c40_13
                              by_cases c40_14 : ((xs x4.toNatClampNeg) &&& (15 : Int32)) = (14 : Int32)
                              · have h := h.1 c40_14
                                refine lv_tableIn (off := 954) (tgt := 994) hx hb dL_law_40 (by rw [c40_14]; decide) (by rw [c40_14]; decide) (by rw [c40_14]; rfl) (by decide) ?_
                                refine lv_aload_n hx hb dL_law_994 rfl (lv_at hl 1 rfl) ?_
                                refine lv_aload_n hx hb dL_law_995 rfl (lv_at hl 0 rfl) ?_
                                refine lv_iload hx hb dL_law_996 (lv_at hl 4 rfl) ?_
                                refine lv_iconst (v := (1 : Int32)) hx hb dL_law_998 (by decide) ?_
                                refine lv_iadd hx hb dL_law_999 ?_
                                refine va_sld hx hb hX hbl hbA hI.2.2.2 h.1 dL_law_1000 ?_
                                have h := h.2
                                refine lw_cpi_p F hI (va_runV (As := [.int (xs (x4 + (1 : Int32)).toNatClampNeg)]) (rest := []) ⟨hx, hb, hml, hown, hv⟩ (met_X6_count_0 l dC dI a kA t _ M L (xs (x4 + (1 : Int32)).toNatClampNeg) _ h) (cwV 1 hv (uIn3 uww_535 (List.forall_mem_cons.mpr ⟨ul_119, (List.forall_mem_cons.mpr ⟨ul_120, (List.forall_mem_cons.mpr ⟨ul_121, (List.forall_mem_cons.mpr ⟨(uWV _ uww_67), (fun _ h => nomatch h)⟩)⟩)⟩)⟩)) rfl rfl rfl (by decide +kernel) ⟨by decide, by decide⟩) (lw_cppre F hI) rfl rfl hl.1 rfl (lv_room (Nat.le_of_ble_eq_true rfl)) dL_law_1001 ⟨by show _ ≤ 601024; omega, by show _ ≤ 7293034; omega⟩) (fun r107 H locs h hI => ?_)
                                refine lv_aload_n hx hb dL_law_1004 rfl (lv_at hl 2 rfl) ?_
                                refine lv_aload_n hx hb dL_law_1005 rfl (lv_at hl 0 rfl) ?_
                                refine lv_iload hx hb dL_law_1006 (lv_at hl 4 rfl) ?_
                                refine lv_iconst (v := (1 : Int32)) hx hb dL_law_1008 (by decide) ?_
                                refine lv_iadd hx hb dL_law_1009 ?_
                                refine va_sld hx hb hX hbl hbA hI.2.2.2 h.1 dL_law_1010 ?_
                                have h := h.2
                                refine lw_rpi_m F hI (va_runV (As := [.int (xs (x4 + (1 : Int32)).toNatClampNeg)]) (rest := [.int r107]) ⟨hx, hb, hml, hown, hv⟩ (met_X7_count_0 l dC dI b kB t _ N K (xs (x4 + (1 : Int32)).toNatClampNeg) _ h) (cwV 1 hv (uIn3 uww_824 (List.forall_mem_cons.mpr ⟨ul_122, (List.forall_mem_cons.mpr ⟨ul_123, (List.forall_mem_cons.mpr ⟨ul_124, (List.forall_mem_cons.mpr ⟨(uWV _ uww_563), (fun _ h => nomatch h)⟩)⟩)⟩)⟩)) rfl rfl rfl (by decide +kernel) ⟨by decide, by decide⟩) (lw_rppre F hI) rfl rfl hl.1 rfl (lv_room (Nat.le_of_ble_eq_true rfl)) dL_law_1011 ⟨by show _ ≤ 601024; omega, by show _ ≤ 7293034; omega⟩) (fun r108 M109 H locs h hI => ?_)
                                refine lv_icmp_eq (tgt := 1019) hx hb dL_law_1014 (by decide) (fun c110 => ?_) (fun c110 => ?_)
                                · have h := h.1 c110
                                  refine W.widen (k := kc + 1) (n := ks + 11) (by omega) (by omega) ?_
                                  exact hZ M L M109 K f _ _ _ h hI (lv_sub hl [0, 1, 2, 3, 4] rfl)
                                · have h := h.2 c110
                                  refine lv_iconst (v := (0 : Int32)) hx hb dL_law_1017 (by decide) ?_
                                  exact h.elim
                              · have h := h.2 c40_14
                                have nc40_0 := lv_neT (a := 0) c40_0 (by decide)
                                have nc40_1 := lv_neT (a := 1) c40_1 (by decide)
                                have nc40_2 := lv_neT (a := 2) c40_2 (by decide)
                                have nc40_3 := lv_neT (a := 3) c40_3 (by decide)
                                have nc40_4 := lv_neT (a := 4) c40_4 (by decide)
                                have nc40_5 := lv_neT (a := 5) c40_5 (by decide)
                                have nc40_6 := lv_neT (a := 6) c40_6 (by decide)
                                have nc40_7 := lv_neT (a := 7) c40_7 (by decide)
                                have nc40_8 := lv_neT (a := 8) c40_8 (by decide)
                                have nc40_9 := lv_neT (a := 9) c40_9 (by decide)
                                have nc40_10 := lv_neT (a := 10) c40_10 (by decide)
                                have nc40_11 := lv_neT (a := 11) c40_11 (by decide)
                                have nc40_12 := lv_neT (a := 12) c40_12 (by decide)
                                have nc40_13 := lv_neT (a := 13) c40_13 (by decide)
                                have nc40_14 := lv_neT (a := 14) c40_14 (by decide)
                                refine lv_tableOut (tgt := 1019) hx hb dL_law_40 (by omega) (by decide) ?_
                                refine W.widen (k := kc + 1) (n := ks + 11) (by omega) (by omega) ?_
                                exact hZ M L N K f _ _ _ h hI (lv_sub hl [0, 1, 2, 3, 4] rfl)
