def wph_feed (M : cM) (L : cL) (f : Nat → Int64) (p1 : Int32) (p2 : Int32) (p3 : Int32) (p4 : Int32) (p5 : Int32) (Y : Int32 → cM → cL → (Nat → Int64) → Prop) : Prop := wp_X6_feed_0 M L p1 p2 p3 p4 p5 (fun (v : Int32) (M1 : cM) => Y 0 M1 L (vp_updL f 0 v.toInt64)) (Y 1 M L f)
def wph_end (M : cM) (L : cL) (f : Nat → Int64) (p1 : Int32) (Y : Int32 → cM → cL → (Nat → Int64) → Prop) : Prop := wp_X6_end_0 M L p1 (fun (v : Int32) (M1 : cM) => Y 0 M1 L (vp_updL f 0 v.toInt64)) (Y 1 M L f)
def wph_prefix (M : cM) (L : cL) (f : Nat → Int64) (p1 : Int64) (p3 : Int64) (p5 : Int32) (Y : Int32 → cM → cL → (Nat → Int64) → Prop) : Prop := wp_X6_prefix_0 M L p1 p3 p5 (fun (M1 : cM) (L1 : cL) => Y 0 M1 L1 f) (Y 1 M L f)
def wph_limits (M : cM) (L : cL) (f : Nat → Int64) (p1 : Int32) (p2 : Int32) (Y : Int32 → cM → cL → (Nat → Int64) → Prop) : Prop := wp_X6_limits_0 M L p1 p2 (fun (M1 : cM) => Y 0 M1 L f) (Y 1 M L f)
def wph_octet (M : cM) (L : cL) (f : Nat → Int64) (p1 : Int32) (p2 : Int32) (Y : Int32 → cM → cL → (Nat → Int64) → Prop) : Prop := wp_X6_octet_0 M L p1 p2 (fun (v : Int32) => Y 0 M L (vp_updL f 0 v.toInt64)) (Y 1 M L f)
def wph_check (M : cM) (L : cL) (f : Nat → Int64) (p1 : Int32) (p2 : Int32) (p3 : Int32) (Y : Int32 → cM → cL → (Nat → Int64) → Prop) : Prop := wp_X6_check_0 M L p1 p2 p3 (fun (v : Int32) => Y 0 M L (vp_updL f 0 v.toInt64)) (Y 1 M L f)
/-- one turn of the law's loop: what must hold of the numbers -/
def wp_turn (LL : Nat) (xs : Nat → Int32) (x4 : Int32) (M : cM) (L : cL) (N : cM) (K : cL) (f : Nat → Int64) (Z : cM → cL → cM → cL → (Nat → Int64) → Prop) : Prop :=
  (vp_in x4 LL ∧
 ((((xs x4.toNatClampNeg) &&& (15 : Int32)) = (0 : Int32) →
 (vp_in (x4 + (1 : Int32)) LL ∧
 (vp_in (x4 + (2 : Int32)) LL ∧
 (vp_in (x4 + (3 : Int32)) LL ∧
 (vp_in (x4 + (4 : Int32)) LL ∧
 (vp_in (x4 + (5 : Int32)) LL ∧
 wph_feed M L f (xs (x4 + (1 : Int32)).toNatClampNeg) (xs (x4 + (2 : Int32)).toNatClampNeg) (xs (x4 + (3 : Int32)).toNatClampNeg) (xs (x4 + (4 : Int32)).toNatClampNeg) (xs (x4 + (5 : Int32)).toNatClampNeg) (fun (r1 : Int32) (M2 : cM) (L3 : cL) (f4 : Nat → Int64) =>
 (vp_in (x4 + (1 : Int32)) LL ∧
 (vp_in (x4 + (2 : Int32)) LL ∧
 (vp_in (x4 + (3 : Int32)) LL ∧
 (vp_in (x4 + (4 : Int32)) LL ∧
 (vp_in (x4 + (5 : Int32)) LL ∧
 wp_X7_feed_0 N K (xs (x4 + (1 : Int32)).toNatClampNeg) (xs (x4 + (2 : Int32)).toNatClampNeg) (xs (x4 + (3 : Int32)).toNatClampNeg) (xs (x4 + (4 : Int32)).toNatClampNeg) (xs (x4 + (5 : Int32)).toNatClampNeg) (fun (r5 : Int32) (M6 : cM) =>
 wp_X7_thrown_0 M6 K  (fun (r7 : Int32) =>
 ((r7 = r1 →
 (∃ K217 : Prop, (K217  →
 Z M2 L3 M6 K f4) ∧
 ((¬ r1 = 0 →
 K217) ∧
 (r1 = 0 →
 (((lg_cmp (f4 (0 : Int32).toNatClampNeg) (r5.toInt64)) = 0 →
 K217) ∧
 (¬ (lg_cmp (f4 (0 : Int32).toNatClampNeg) (r5.toInt64)) = 0 →
 False)))))) ∧
 (¬ r7 = r1 →
 False)))))))))))))))) ∧
 (¬ ((xs x4.toNatClampNeg) &&& (15 : Int32)) = (0 : Int32) →
 ((((xs x4.toNatClampNeg) &&& (15 : Int32)) = (1 : Int32) →
 (vp_in (x4 + (1 : Int32)) LL ∧
 wph_end M L f (xs (x4 + (1 : Int32)).toNatClampNeg) (fun (r11 : Int32) (M12 : cM) (L13 : cL) (f14 : Nat → Int64) =>
 (vp_in (x4 + (1 : Int32)) LL ∧
 wp_X7_end_0 N K (xs (x4 + (1 : Int32)).toNatClampNeg) (fun (r15 : Int32) (M16 : cM) =>
 wp_X7_thrown_0 M16 K  (fun (r17 : Int32) =>
 ((r17 = r11 →
 (∃ K273 : Prop, (K273  →
 Z M12 L13 M16 K f14) ∧
 ((¬ r11 = 0 →
 K273) ∧
 (r11 = 0 →
 (((lg_cmp (f14 (0 : Int32).toNatClampNeg) (r15.toInt64)) = 0 →
 K273) ∧
 (¬ (lg_cmp (f14 (0 : Int32).toNatClampNeg) (r15.toInt64)) = 0 →
 False)))))) ∧
 (¬ r17 = r11 →
 False)))))))) ∧
 (¬ ((xs x4.toNatClampNeg) &&& (15 : Int32)) = (1 : Int32) →
 ((((xs x4.toNatClampNeg) &&& (15 : Int32)) = (2 : Int32) →
 (vp_in (x4 + (1 : Int32)) LL ∧
 (vp_in (x4 + (2 : Int32)) LL ∧
 (vp_in (x4 + (3 : Int32)) LL ∧
 (vp_in (x4 + (4 : Int32)) LL ∧
 (vp_in (x4 + (5 : Int32)) LL ∧
 wph_prefix M L f ((((xs (x4 + (1 : Int32)).toNatClampNeg).toInt64) <<< ((32 : Int32).toInt64 &&& 63)) ||| (((xs (x4 + (2 : Int32)).toNatClampNeg).toInt64) &&& (4294967295 : Int64))) ((((xs (x4 + (3 : Int32)).toNatClampNeg).toInt64) <<< ((32 : Int32).toInt64 &&& 63)) ||| (((xs (x4 + (4 : Int32)).toNatClampNeg).toInt64) &&& (4294967295 : Int64))) (xs (x4 + (5 : Int32)).toNatClampNeg) (fun (r21 : Int32) (M22 : cM) (L23 : cL) (f24 : Nat → Int64) =>
 (vp_in (x4 + (1 : Int32)) LL ∧
 (vp_in (x4 + (2 : Int32)) LL ∧
 (vp_in (x4 + (3 : Int32)) LL ∧
 (vp_in (x4 + (4 : Int32)) LL ∧
 (vp_in (x4 + (5 : Int32)) LL ∧
 wp_X7_prefix_0 N K ((((xs (x4 + (1 : Int32)).toNatClampNeg).toInt64) <<< ((32 : Int32).toInt64 &&& 63)) ||| (((xs (x4 + (2 : Int32)).toNatClampNeg).toInt64) &&& (4294967295 : Int64))) ((((xs (x4 + (3 : Int32)).toNatClampNeg).toInt64) <<< ((32 : Int32).toInt64 &&& 63)) ||| (((xs (x4 + (4 : Int32)).toNatClampNeg).toInt64) &&& (4294967295 : Int64))) (xs (x4 + (5 : Int32)).toNatClampNeg) (fun (M25 : cM) (L26 : cL) =>
 wp_X7_thrown_0 M25 L26  (fun (r27 : Int32) =>
 ((r27 = r21 →
 Z M22 L23 M25 L26 f24) ∧
 (¬ r27 = r21 →
 False)))))))))))))))) ∧
 (¬ ((xs x4.toNatClampNeg) &&& (15 : Int32)) = (2 : Int32) →
 ((((xs x4.toNatClampNeg) &&& (15 : Int32)) = (3 : Int32) →
 (vp_in (x4 + (1 : Int32)) LL ∧
 (vp_in (x4 + (2 : Int32)) LL ∧
 (vp_in (x4 + (3 : Int32)) LL ∧
 (vp_in (x4 + (4 : Int32)) LL ∧
 (vp_in (x4 + (5 : Int32)) LL ∧
 wp_X6_own_0 M L (xs (x4 + (1 : Int32)).toNatClampNeg) ((((xs (x4 + (2 : Int32)).toNatClampNeg).toInt64) <<< ((32 : Int32).toInt64 &&& 63)) ||| (((xs (x4 + (3 : Int32)).toNatClampNeg).toInt64) &&& (4294967295 : Int64))) ((((xs (x4 + (4 : Int32)).toNatClampNeg).toInt64) <<< ((32 : Int32).toInt64 &&& 63)) ||| (((xs (x4 + (5 : Int32)).toNatClampNeg).toInt64) &&& (4294967295 : Int64))) (fun (M29 : cM) (L30 : cL) =>
 (vp_in (x4 + (1 : Int32)) LL ∧
 (vp_in (x4 + (2 : Int32)) LL ∧
 (vp_in (x4 + (3 : Int32)) LL ∧
 (vp_in (x4 + (4 : Int32)) LL ∧
 (vp_in (x4 + (5 : Int32)) LL ∧
 wp_X7_own_0 N K (xs (x4 + (1 : Int32)).toNatClampNeg) ((((xs (x4 + (2 : Int32)).toNatClampNeg).toInt64) <<< ((32 : Int32).toInt64 &&& 63)) ||| (((xs (x4 + (3 : Int32)).toNatClampNeg).toInt64) &&& (4294967295 : Int64))) ((((xs (x4 + (4 : Int32)).toNatClampNeg).toInt64) <<< ((32 : Int32).toInt64 &&& 63)) ||| (((xs (x4 + (5 : Int32)).toNatClampNeg).toInt64) &&& (4294967295 : Int64))) (fun (M31 : cM) (L32 : cL) =>
 Z M29 L30 M31 L32 f))))))))))))) ∧
 (¬ ((xs x4.toNatClampNeg) &&& (15 : Int32)) = (3 : Int32) →
 ((((xs x4.toNatClampNeg) &&& (15 : Int32)) = (4 : Int32) →
 (vp_in (x4 + (1 : Int32)) LL ∧
 (vp_in (x4 + (2 : Int32)) LL ∧
 wph_limits M L f (xs (x4 + (1 : Int32)).toNatClampNeg) (xs (x4 + (2 : Int32)).toNatClampNeg) (fun (r33 : Int32) (M34 : cM) (L35 : cL) (f36 : Nat → Int64) =>
 (vp_in (x4 + (1 : Int32)) LL ∧
 (vp_in (x4 + (2 : Int32)) LL ∧
 wp_X7_limits_0 N K (xs (x4 + (1 : Int32)).toNatClampNeg) (xs (x4 + (2 : Int32)).toNatClampNeg) (fun (M37 : cM) =>
 wp_X7_thrown_0 M37 K  (fun (r38 : Int32) =>
 ((r38 = r33 →
 Z M34 L35 M37 K f36) ∧
 (¬ r38 = r33 →
 False)))))))))) ∧
 (¬ ((xs x4.toNatClampNeg) &&& (15 : Int32)) = (4 : Int32) →
 ((((xs x4.toNatClampNeg) &&& (15 : Int32)) = (5 : Int32) →
 (vp_in (x4 + (1 : Int32)) LL ∧
 (∃ K574 : Int32 → Prop, (∀ (v40 : Int32), K574 v40 →
 (vp_in (x4 + (2 : Int32)) LL ∧
 (∃ K588 : Int32 → Prop, (∀ (v41 : Int32), K588 v41 →
 wp_X6_ways_0 M L v40 v41 (fun (M42 : cM) =>
 (vp_in (x4 + (1 : Int32)) LL ∧
 (∃ K606 : Int32 → Prop, (∀ (v43 : Int32), K606 v43 →
 (vp_in (x4 + (2 : Int32)) LL ∧
 (∃ K620 : Int32 → Prop, (∀ (v44 : Int32), K620 v44 →
 wp_X7_ways_0 N K v43 v44 (fun (M45 : cM) =>
 Z M42 L M45 K f)) ∧
 (((xs (x4 + (2 : Int32)).toNatClampNeg) = 0 →
 K620 (0 : Int32)) ∧
 (¬ (xs (x4 + (2 : Int32)).toNatClampNeg) = 0 →
 K620 (1 : Int32)))))) ∧
 (((xs (x4 + (1 : Int32)).toNatClampNeg) = 0 →
 K606 (0 : Int32)) ∧
 (¬ (xs (x4 + (1 : Int32)).toNatClampNeg) = 0 →
 K606 (1 : Int32))))))) ∧
 (((xs (x4 + (2 : Int32)).toNatClampNeg) = 0 →
 K588 (0 : Int32)) ∧
 (¬ (xs (x4 + (2 : Int32)).toNatClampNeg) = 0 →
 K588 (1 : Int32)))))) ∧
 (((xs (x4 + (1 : Int32)).toNatClampNeg) = 0 →
 K574 (0 : Int32)) ∧
 (¬ (xs (x4 + (1 : Int32)).toNatClampNeg) = 0 →
 K574 (1 : Int32)))))) ∧
 (¬ ((xs x4.toNatClampNeg) &&& (15 : Int32)) = (5 : Int32) →
 ((((xs x4.toNatClampNeg) &&& (15 : Int32)) = (6 : Int32) →
 wp_X6_four_0 M L  (fun (r50 : Int32) (M51 : cM) (L52 : cL) =>
 wp_X7_four__0 N K  (fun (r53 : Int32) (M54 : cM) (L55 : cL) =>
 ((r50 = r53 →
 Z M51 L52 M54 L55 f) ∧
 (¬ r50 = r53 →
 False))))) ∧
 (¬ ((xs x4.toNatClampNeg) &&& (15 : Int32)) = (6 : Int32) →
 ((((xs x4.toNatClampNeg) &&& (15 : Int32)) = (7 : Int32) →
 wp_X6_six_0 M L  (fun (r57 : Int32) (M58 : cM) (L59 : cL) =>
 wp_X7_six_0 N K  (fun (r60 : Int32) (M61 : cM) (L62 : cL) =>
 ((r57 = r60 →
 Z M58 L59 M61 L62 f) ∧
 (¬ r57 = r60 →
 False))))) ∧
 (¬ ((xs x4.toNatClampNeg) &&& (15 : Int32)) = (7 : Int32) →
 ((((xs x4.toNatClampNeg) &&& (15 : Int32)) = (8 : Int32) →
 wp_X6_parts_0 M L  (fun (r64 : Int32) =>
 wp_X7_parts_0 N K  (fun (r65 : Int32) (M66 : cM) =>
 ((r64 = r65 →
 Z M L M66 K f) ∧
 (¬ r64 = r65 →
 False))))) ∧
 (¬ ((xs x4.toNatClampNeg) &&& (15 : Int32)) = (8 : Int32) →
 ((((xs x4.toNatClampNeg) &&& (15 : Int32)) = (9 : Int32) →
 (vp_in (x4 + (1 : Int32)) LL ∧
 wp_X6_size_0 M L (xs (x4 + (1 : Int32)).toNatClampNeg) (fun (r68 : Int32) =>
 (vp_in (x4 + (1 : Int32)) LL ∧
 wp_X7_size_0 N K (xs (x4 + (1 : Int32)).toNatClampNeg) (fun (r69 : Int32) (M70 : cM) =>
 ((r68 = r69 →
 Z M L M70 K f) ∧
 (¬ r68 = r69 →
 False))))))) ∧
 (¬ ((xs x4.toNatClampNeg) &&& (15 : Int32)) = (9 : Int32) →
 ((((xs x4.toNatClampNeg) &&& (15 : Int32)) = (10 : Int32) →
 (vp_in (x4 + (1 : Int32)) LL ∧
 (vp_in (x4 + (2 : Int32)) LL ∧
 wph_octet M L f (xs (x4 + (1 : Int32)).toNatClampNeg) (xs (x4 + (2 : Int32)).toNatClampNeg) (fun (r72 : Int32) (M73 : cM) (L74 : cL) (f75 : Nat → Int64) =>
 (vp_in (x4 + (1 : Int32)) LL ∧
 (vp_in (x4 + (2 : Int32)) LL ∧
 wp_X7_octet_0 N K (xs (x4 + (1 : Int32)).toNatClampNeg) (xs (x4 + (2 : Int32)).toNatClampNeg) (fun (r76 : Int32) (M77 : cM) =>
 wp_X7_thrown_0 M77 K  (fun (r78 : Int32) =>
 ((r78 = r72 →
 (∃ K755 : Prop, (K755  →
 Z M73 L74 M77 K f75) ∧
 ((¬ r72 = 0 →
 K755) ∧
 (r72 = 0 →
 (((lg_cmp (f75 (0 : Int32).toNatClampNeg) (r76.toInt64)) = 0 →
 K755) ∧
 (¬ (lg_cmp (f75 (0 : Int32).toNatClampNeg) (r76.toInt64)) = 0 →
 False)))))) ∧
 (¬ r78 = r72 →
 False)))))))))) ∧
 (¬ ((xs x4.toNatClampNeg) &&& (15 : Int32)) = (10 : Int32) →
 ((((xs x4.toNatClampNeg) &&& (15 : Int32)) = (11 : Int32) →
 (vp_in (x4 + (1 : Int32)) LL ∧
 (vp_in (x4 + (2 : Int32)) LL ∧
 (vp_in (x4 + (3 : Int32)) LL ∧
 wph_check M L f (xs (x4 + (1 : Int32)).toNatClampNeg) (xs (x4 + (2 : Int32)).toNatClampNeg) (xs (x4 + (3 : Int32)).toNatClampNeg) (fun (r82 : Int32) (M83 : cM) (L84 : cL) (f85 : Nat → Int64) =>
 (vp_in (x4 + (1 : Int32)) LL ∧
 (vp_in (x4 + (2 : Int32)) LL ∧
 (vp_in (x4 + (3 : Int32)) LL ∧
 wp_X7_check_0 N K (xs (x4 + (1 : Int32)).toNatClampNeg) (xs (x4 + (2 : Int32)).toNatClampNeg) (xs (x4 + (3 : Int32)).toNatClampNeg) (fun (r86 : Int32) (M87 : cM) (L88 : cL) =>
 wp_X7_thrown_0 M87 L88  (fun (r89 : Int32) =>
 ((r89 = r82 →
 (∃ K835 : Prop, (K835  →
 Z M83 L84 M87 L88 f85) ∧
 ((¬ r82 = 0 →
 K835) ∧
 (r82 = 0 →
 (((lg_cmp (f85 (0 : Int32).toNatClampNeg) (r86.toInt64)) = 0 →
 K835) ∧
 (¬ (lg_cmp (f85 (0 : Int32).toNatClampNeg) (r86.toInt64)) = 0 →
 False)))))) ∧
 (¬ r89 = r82 →
 False)))))))))))) ∧
 (¬ ((xs x4.toNatClampNeg) &&& (15 : Int32)) = (11 : Int32) →
 ((((xs x4.toNatClampNeg) &&& (15 : Int32)) = (12 : Int32) →
 (vp_in (x4 + (1 : Int32)) LL ∧
 (vp_in (x4 + (2 : Int32)) LL ∧
 (∃ K859 : Int32 → Prop, (∀ (v93 : Int32), K859 v93 →
 wp_X6_image_0 M L (xs (x4 + (1 : Int32)).toNatClampNeg) v93 (fun (r94 : Int64) =>
 (vp_in (x4 + (1 : Int32)) LL ∧
 (vp_in (x4 + (2 : Int32)) LL ∧
 (∃ K883 : Int32 → Prop, (∀ (v95 : Int32), K883 v95 →
 wp_X7_image_0 N K (xs (x4 + (1 : Int32)).toNatClampNeg) v95 (fun (r96 : Int64) (M97 : cM) (L98 : cL) =>
 (((lg_cmp r94 r96) = 0 →
 Z M L M97 L98 f) ∧
 (¬ (lg_cmp r94 r96) = 0 →
 False)))) ∧
 (((xs (x4 + (2 : Int32)).toNatClampNeg) = 0 →
 K883 (0 : Int32)) ∧
 (¬ (xs (x4 + (2 : Int32)).toNatClampNeg) = 0 →
 K883 (1 : Int32)))))))) ∧
 (((xs (x4 + (2 : Int32)).toNatClampNeg) = 0 →
 K859 (0 : Int32)) ∧
 (¬ (xs (x4 + (2 : Int32)).toNatClampNeg) = 0 →
 K859 (1 : Int32))))))) ∧
 (¬ ((xs x4.toNatClampNeg) &&& (15 : Int32)) = (12 : Int32) →
 ((((xs x4.toNatClampNeg) &&& (15 : Int32)) = (13 : Int32) →
 (vp_in (x4 + (1 : Int32)) LL ∧
 (vp_in (x4 + (2 : Int32)) LL ∧
 (vp_in (x4 + (3 : Int32)) LL ∧
 (vp_in (x4 + (4 : Int32)) LL ∧
 wp_X6_address_0 M L ((((xs (x4 + (1 : Int32)).toNatClampNeg).toInt64) <<< ((32 : Int32).toInt64 &&& 63)) ||| (((xs (x4 + (2 : Int32)).toNatClampNeg).toInt64) &&& (4294967295 : Int64))) ((((xs (x4 + (3 : Int32)).toNatClampNeg).toInt64) <<< ((32 : Int32).toInt64 &&& 63)) ||| (((xs (x4 + (4 : Int32)).toNatClampNeg).toInt64) &&& (4294967295 : Int64))) (fun (r102 : Int64) =>
 (vp_in (x4 + (1 : Int32)) LL ∧
 (vp_in (x4 + (2 : Int32)) LL ∧
 (vp_in (x4 + (3 : Int32)) LL ∧
 (vp_in (x4 + (4 : Int32)) LL ∧
 wp_X7_address_0 N K ((((xs (x4 + (1 : Int32)).toNatClampNeg).toInt64) <<< ((32 : Int32).toInt64 &&& 63)) ||| (((xs (x4 + (2 : Int32)).toNatClampNeg).toInt64) &&& (4294967295 : Int64))) ((((xs (x4 + (3 : Int32)).toNatClampNeg).toInt64) <<< ((32 : Int32).toInt64 &&& 63)) ||| (((xs (x4 + (4 : Int32)).toNatClampNeg).toInt64) &&& (4294967295 : Int64))) (fun (r103 : Int64) (M104 : cM) (L105 : cL) =>
 (((lg_cmp r102 r103) = 0 →
 Z M L M104 L105 f) ∧
 (¬ (lg_cmp r102 r103) = 0 →
 False))))))))))))) ∧
 (¬ ((xs x4.toNatClampNeg) &&& (15 : Int32)) = (13 : Int32) →
 ((((xs x4.toNatClampNeg) &&& (15 : Int32)) = (14 : Int32) →
 (vp_in (x4 + (1 : Int32)) LL ∧
 wp_X6_count_0 M L (xs (x4 + (1 : Int32)).toNatClampNeg) (fun (r107 : Int32) =>
 (vp_in (x4 + (1 : Int32)) LL ∧
 wp_X7_count_0 N K (xs (x4 + (1 : Int32)).toNatClampNeg) (fun (r108 : Int32) (M109 : cM) =>
 ((r107 = r108 →
 Z M L M109 K f) ∧
 (¬ r107 = r108 →
 False))))))) ∧
 (¬ ((xs x4.toNatClampNeg) &&& (15 : Int32)) = (14 : Int32) →
 Z M L N K f)))))))))))))))))))))))))))))))
