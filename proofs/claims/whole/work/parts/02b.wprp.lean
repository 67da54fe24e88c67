def wp_X7_thrown_0 (M : cM) (L : cL)  (Z : Int32 → Prop) : Prop :=
  Z (M 0 0)

def wp_X7_four_0 (M : cM) (L : cL) (p1 : Int32) (Z : cM → Prop) : Prop :=
  ∃ (I3 : Int32 → cM → Prop) (m3 : Int32 → cM → Nat), I3 (24 : Int32) M ∧ ∀ (x1 : Int32) (M2 : cM), I3 x1 M2 →
 ((x1 < 0 →
 Z M2) ∧
 (¬ x1 < 0 →
 (vp_in (M2 0 2) 2400 ∧
 ∀ M4 : cM, M4 = mu M2 1 (M2 0 2).toNatClampNeg (vp_nar .byte ((p1 >>> (x1 &&& 31)).toInt8.toInt32)) →
 ∀ M5 : cM, M5 = mu M4 0 2 ((M4 0 2) + (1 : Int32)) →
 ∀ x6 : Int32, x6 = (x1 + (-8 : Int32)) →
 (I3 x6 M5 ∧ m3 x6 M5 < m3 x1 M2))))

def wp_X7_feed_0 (M : cM) (L : cL) (p1 : Int32) (p2 : Int32) (p3 : Int32) (p4 : Int32) (p5 : Int32) (Z : Int32 → cM → Prop) : Prop :=
  (∃ K19 : Int32 → Prop, (∀ (v1 : Int32), K19 v1 →
 ∀ M2 : cM, M2 = mu M 0 0 v1 →
 (((M2 0 0) ≤ 0 →
 wp_X7_four_0 M2 L p1 (fun (M4 : cM) =>
 wp_X7_four_0 M4 L p2 (fun (M5 : cM) =>
 wp_X7_four_0 M5 L p3 (fun (M6 : cM) =>
 wp_X7_four_0 M6 L p4 (fun (M7 : cM) =>
 wp_X7_four_0 M7 L p5 (fun (M8 : cM) =>
 Z (M8 0 2) M8)))))) ∧
 (¬ (M2 0 0) ≤ 0 →
 Z (0 : Int32) M2))) ∧
 ((((M 0 2) + (20 : Int32)) ≤ (2400 : Int32) →
 K19 (0 : Int32)) ∧
 (¬ ((M 0 2) + (20 : Int32)) ≤ (2400 : Int32) →
 K19 (1 : Int32))))

def wp_X7_end_0 (M : cM) (L : cL) (p1 : Int32) (Z : Int32 → cM → Prop) : Prop :=
  (∃ K18 : Int32 → Prop, (∀ (v1 : Int32), K18 v1 →
 ∀ M2 : cM, M2 = mu M 0 0 v1 →
 (((M2 0 0) ≤ 0 →
 ∀ M4 : cM, M4 = mu M2 0 2 p1 →
 Z p1 M4) ∧
 (¬ (M2 0 0) ≤ 0 →
 Z (0 : Int32) M2))) ∧
 ∃ K13 : Prop, (K13  →
 K18 (1 : Int32)) ∧
 ((p1 < 0 →
 K13) ∧
 (¬ p1 < 0 →
 ((p1 ≤ (M 0 2) →
 K18 (0 : Int32)) ∧
 (¬ p1 ≤ (M 0 2) →
 K13)))))

def wp_X7_bit (M : cM) (L : cL) (p0 : Int64) (p2 : Int64) (p4 : Int32) (Z : Int32 → Prop) : Prop :=
  (((64 : Int32) ≤ p4 →
 Z ((((p2.toUInt64 >>> (((127 : Int32) - p4).toInt64.toUInt64 &&& Int64.toUInt64 63)).toInt64) &&& (1 : Int64)).toInt32)) ∧
 (¬ (64 : Int32) ≤ p4 →
 Z ((((p0.toUInt64 >>> (((63 : Int32) - p4).toInt64.toUInt64 &&& Int64.toUInt64 63)).toInt64) &&& (1 : Int64)).toInt32)))

def wp_X7_prefix_0 (M : cM) (L : cL) (p1 : Int64) (p3 : Int64) (p5 : Int32) (Z : cM → cL → Prop) : Prop :=
  (∃ K47 : Int32 → Prop, (∀ (v1 : Int32), K47 v1 →
 ∃ (I52 : Int32 → Int32 → Prop) (m52 : Int32 → Int32 → Nat), I52 v1 (0 : Int32) ∧ ∀ (x2 : Int32) (x3 : Int32), I52 x2 x3 →
 (∃ K109 : Prop, (K109  →
 (∃ K120 : Int32 → Prop, (∀ (v4 : Int32), K120 v4 →
 ∀ M5 : cM, M5 = mu M 0 0 v4 →
 ((¬ x2 = 0 →
 ∀ L7 : cL, L7 = ml L 0 3 p1 →
 ∀ L8 : cL, L8 = ml L7 0 4 p3 →
 ∀ M9 : cM, M9 = mu M5 0 5 p5 →
 Z M9 L8) ∧
 (x2 = 0 →
 Z M5 L))) ∧
 ((x2 = 0 →
 K120 (1 : Int32)) ∧
 (¬ x2 = 0 →
 K120 (0 : Int32))))) ∧
 ((x2 = 0 →
 K109) ∧
 (¬ x2 = 0 →
 (((128 : Int32) ≤ x3 →
 K109) ∧
 (¬ (128 : Int32) ≤ x3 →
 wp_X7_bit M L p1 p3 x3 (fun (r13 : Int32) =>
 (∃ K101 : Int32 → Prop, (∀ (v14 : Int32), K101 v14 →
 ∀ x15 : Int32, x15 = (x3 + (1 : Int32)) →
 (I52 v14 x15 ∧ m52 v14 x15 < m52 x2 x3)) ∧
 ∃ K96 : Prop, (K96  →
 K101 (1 : Int32)) ∧
 ((r13 = 0 →
 K96) ∧
 (¬ r13 = 0 →
 (∃ K100 : Prop, (K100  →
 K101 (0 : Int32)) ∧
 ((p5 ≤ x3 →
 K100) ∧
 (¬ p5 ≤ x3 →
 ((x3 < (64 : Int32) →
 K96) ∧
 (¬ x3 < (64 : Int32) →
 ((x3 ≤ (71 : Int32) →
 K100) ∧
 (¬ x3 ≤ (71 : Int32) →
 K96))))))))))))))))) ∧
 ∃ K42 : Prop, (K42  →
 K47 (1 : Int32)) ∧
 ((p5 = (32 : Int32) →
 K42) ∧
 (¬ p5 = (32 : Int32) →
 ((p5 = (40 : Int32) →
 K42) ∧
 (¬ p5 = (40 : Int32) →
 ((p5 = (48 : Int32) →
 K42) ∧
 (¬ p5 = (48 : Int32) →
 ((p5 = (56 : Int32) →
 K42) ∧
 (¬ p5 = (56 : Int32) →
 ((p5 = (64 : Int32) →
 K42) ∧
 (¬ p5 = (64 : Int32) →
 ((¬ p5 = (96 : Int32) →
 K47 (0 : Int32)) ∧
 (p5 = (96 : Int32) →
 K42)))))))))))))

def wp_X7_own_0 (M : cM) (L : cL) (p1 : Int32) (p2 : Int64) (p4 : Int64) (Z : cM → cL → Prop) : Prop :=
  ∀ M1 : cM, M1 = mu M 0 0 (0 : Int32) →
 ∀ M2 : cM, M2 = mu M1 0 6 p1 →
 ∀ L3 : cL, L3 = ml L 0 7 p2 →
 ∀ L4 : cL, L4 = ml L3 0 8 p4 →
 Z M2 L4

def wp_X7_limits_0 (M : cM) (L : cL) (p1 : Int32) (p2 : Int32) (Z : cM → Prop) : Prop :=
  (∃ K33 : Int32 → Prop, (∀ (v1 : Int32), K33 v1 →
 ∀ M2 : cM, M2 = mu M 0 0 v1 →
 (((M2 0 0) ≤ 0 →
 ∀ M4 : cM, M4 = mu M2 0 9 p1 →
 ∀ M5 : cM, M5 = mu M4 0 10 p2 →
 Z M5) ∧
 (¬ (M2 0 0) ≤ 0 →
 Z M2))) ∧
 ∃ K28 : Prop, (K28  →
 K33 (1 : Int32)) ∧
 ((p1 < (68 : Int32) →
 K28) ∧
 (¬ p1 < (68 : Int32) →
 (((2000 : Int32) < p1 →
 K28) ∧
 (¬ (2000 : Int32) < p1 →
 ((p2 < (1280 : Int32) →
 K28) ∧
 (¬ p2 < (1280 : Int32) →
 ((p2 ≤ (2000 : Int32) →
 K33 (0 : Int32)) ∧
 (¬ p2 ≤ (2000 : Int32) →
 K28)))))))))

def wp_X7_ways_0 (M : cM) (L : cL) (p1 : Int32) (p2 : Int32) (Z : cM → Prop) : Prop :=
  ∀ M1 : cM, M1 = mu M 0 0 (0 : Int32) →
 (isB p1 ∧
 ∀ M2 : cM, M2 = mu M1 0 11 p1 →
 (isB p2 ∧
 ∀ M3 : cM, M3 = mu M2 0 12 p2 →
 Z M3))

def wp_X7_isMappable_0 (M : cM) (L : cL) (p1 : Int32) (Z : Int32 → Prop) : Prop :=
  ∀ x1 : Int32, x1 = ((p1.toUInt32 >>> ((24 : Int32).toUInt32 &&& Int32.toUInt32 31)).toInt32) →
 ∀ x2 : Int32, x2 = (((p1.toUInt32 >>> ((16 : Int32).toUInt32 &&& Int32.toUInt32 31)).toInt32) &&& (255 : Int32)) →
 ((x1 = 0 →
 Z (0 : Int32)) ∧
 (¬ x1 = 0 →
 ((x1 = (127 : Int32) →
 Z (0 : Int32)) ∧
 (¬ x1 = (127 : Int32) →
 (∃ K38 : Prop, (K38  →
 ((x1 < (224 : Int32) →
 (∃ K81 : Int32 → Prop, (∀ (v6 : Int32), K81 v6 →
 ((v6 = 0 →
 Z (1 : Int32)) ∧
 (¬ v6 = 0 →
 ((x1 = (10 : Int32) →
 Z (0 : Int32)) ∧
 (¬ x1 = (10 : Int32) →
 (∃ K113 : Prop, (K113  →
 ((¬ x1 = (192 : Int32) →
 Z (1 : Int32)) ∧
 (x1 = (192 : Int32) →
 ((x2 = (168 : Int32) →
 Z (0 : Int32)) ∧
 (¬ x2 = (168 : Int32) →
 Z (1 : Int32)))))) ∧
 ((¬ x1 = (172 : Int32) →
 K113) ∧
 (x1 = (172 : Int32) →
 ((x2 < (16 : Int32) →
 K113) ∧
 (¬ x2 < (16 : Int32) →
 ((x2 ≤ (31 : Int32) →
 Z (0 : Int32)) ∧
 (¬ x2 ≤ (31 : Int32) →
 K113)))))))))))) ∧
 ∃ K80 : Prop, (K80  →
 K81 (0 : Int32)) ∧
 ((¬ (M 0 5) = (96 : Int32) →
 K80) ∧
 ((M 0 5) = (96 : Int32) →
 ((¬ (lg_cmp (L 0 3) (28428538856079360 : Int64)) = 0 →
 K80) ∧
 ((lg_cmp (L 0 3) (28428538856079360 : Int64)) = 0 →
 ((¬ (lg_cmp (L 0 4) (0 : Int64)) = 0 →
 K80) ∧
 ((lg_cmp (L 0 4) (0 : Int64)) = 0 →
 K81 (1 : Int32))))))))) ∧
 (¬ x1 < (224 : Int32) →
 Z (0 : Int32)))) ∧
 ((¬ x1 = (169 : Int32) →
 K38) ∧
 (x1 = (169 : Int32) →
 ((x2 = (254 : Int32) →
 Z (0 : Int32)) ∧
 (¬ x2 = (254 : Int32) →
 K38)))))))))

def wp_X7_makeImage_0 (M : cM) (L : cL) (p1 : Int32) (Z : cL → Prop) : Prop :=
  ∀ L1 : cL, L1 = ml L 0 15 (L 0 3) →
 ∀ L2 : cL, L2 = ml L1 0 16 (L1 0 4) →
 ∀ x3 : Int32, x3 = (M 0 5) →
 ∃ (I24 : Int32 → Int32 → cL → Prop) (m24 : Int32 → Int32 → cL → Nat), I24 x3 (31 : Int32) L2 ∧ ∀ (x4 : Int32) (x5 : Int32) (L6 : cL), I24 x4 x5 L6 →
 ((x5 < 0 →
 Z L6) ∧
 (¬ x5 < 0 →
 (∃ K37 : Int32 → Prop, (∀ (x8 : Int32), K37 x8 →
 ∀ x9 : Int64, x9 = ((((p1.toUInt32 >>> (x5.toUInt32 &&& Int32.toUInt32 31)).toInt32) &&& (1 : Int32)).toInt64) →
 (∃ K86 : cL → Prop, (∀ (L10 : cL), K86 L10 →
 ∀ x11 : Int32, x11 = (x8 + (1 : Int32)) →
 ∀ x12 : Int32, x12 = (x5 + (-1 : Int32)) →
 (I24 x11 x12 L10 ∧ m24 x11 x12 L10 < m24 x4 x5 L6)) ∧
 (((64 : Int32) ≤ x8 →
 ∀ L14 : cL, L14 = ml L6 0 16 ((L6 0 16) ||| (x9 <<< (((127 : Int32) - x8).toInt64 &&& 63))) →
 K86 L14) ∧
 (¬ (64 : Int32) ≤ x8 →
 ∀ L15 : cL, L15 = ml L6 0 15 ((L6 0 15) ||| (x9 <<< (((63 : Int32) - x8).toInt64 &&& 63))) →
 K86 L15)))) ∧
 ((¬ x4 = (64 : Int32) →
 K37 x4) ∧
 (x4 = (64 : Int32) →
 K37 (72 : Int32))))))

def wp_X7_image_0 (M : cM) (L : cL) (p1 : Int32) (p2 : Int32) (Z : Int64 → cM → cL → Prop) : Prop :=
  ∀ M1 : cM, M1 = mu M 0 0 (0 : Int32) →
 wp_X7_isMappable_0 M1 L p1 (fun (r2 : Int32) =>
 ((¬ r2 = 0 →
 wp_X7_makeImage_0 M1 L p1 (fun (L4 : cL) =>
 ((p2 = 0 →
 Z (L4 0 15) M1 L4) ∧
 (¬ p2 = 0 →
 Z (L4 0 16) M1 L4)))) ∧
 (r2 = 0 →
 Z (0 : Int64) M1 L)))

def wp_X7_isImage_0 (M : cM) (L : cL) (p1 : Int64) (p3 : Int64) (Z : Int32 → cM → cL → Prop) : Prop :=
  ∀ x1 : Int32, x1 = (M 0 5) →
 ∃ (I13 : Int32 → Int32 → Int32 → Prop) (m13 : Int32 → Int32 → Int32 → Nat), I13 (0 : Int32) x1 (31 : Int32) ∧ ∀ (x2 : Int32) (x3 : Int32) (x4 : Int32), I13 x2 x3 x4 →
 ((x4 < 0 →
 ∀ M6 : cM, M6 = mu M 0 17 x2 →
 wp_X7_makeImage_0 M6 L x2 (fun (L7 : cL) =>
 ((¬ (lg_cmp (L7 0 15) p1) = 0 →
 Z (0 : Int32) M6 L7) ∧
 ((lg_cmp (L7 0 15) p1) = 0 →
 ((¬ (lg_cmp (L7 0 16) p3) = 0 →
 Z (0 : Int32) M6 L7) ∧
 ((lg_cmp (L7 0 16) p3) = 0 →
 wp_X7_isMappable_0 M6 L7 x2 (fun (r10 : Int32) =>
 ((r10 = 0 →
 Z (0 : Int32) M6 L7) ∧
 (¬ r10 = 0 →
 Z (1 : Int32) M6 L7))))))))) ∧
 (¬ x4 < 0 →
 (∃ K29 : Int32 → Prop, (∀ (x12 : Int32), K29 x12 →
 wp_X7_bit M L p1 p3 x12 (fun (r13 : Int32) =>
 ∀ x14 : Int32, x14 = (x2 ||| (r13 <<< (x4 &&& 31))) →
 ∀ x15 : Int32, x15 = (x12 + (1 : Int32)) →
 ∀ x16 : Int32, x16 = (x4 + (-1 : Int32)) →
 (I13 x14 x15 x16 ∧ m13 x14 x15 x16 < m13 x2 x3 x4))) ∧
 ((¬ x3 = (64 : Int32) →
 K29 x3) ∧
 (x3 = (64 : Int32) →
 K29 (72 : Int32))))))

def wp_X7_address_0 (M : cM) (L : cL) (p1 : Int64) (p3 : Int64) (Z : Int64 → cM → cL → Prop) : Prop :=
  ∀ M1 : cM, M1 = mu M 0 0 (0 : Int32) →
 wp_X7_isImage_0 M1 L p1 p3 (fun (r2 : Int32) (M3 : cM) (L4 : cL) =>
 ((r2 = 0 →
 Z (-1 : Int64) M3 L4) ∧
 (¬ r2 = 0 →
 Z (((M3 0 17).toInt64) &&& (4294967295 : Int64)) M3 L4)))

def wp_X7_begin_0 (M : cM) (L : cL)  (Z : cM → Prop) : Prop :=
  ∀ M1 : cM, M1 = mu M 0 0 (0 : Int32) →
 ∀ M2 : cM, M2 = mu M1 0 22 (0 : Int32) →
 ∀ M3 : cM, M3 = mu M2 0 20 (0 : Int32) →
 (vp_in (0 : Int32) 101 ∧
 ∀ M4 : cM, M4 = mu M3 4 (0 : Int32).toNatClampNeg (0 : Int32) →
 Z M4)

def wp_X7_octetAt_1 (M : cM) (L : cL) (p1 : Int32) (Z : Int32 → Prop) : Prop :=
  (vp_in p1 2400 ∧
 Z ((M 1 p1.toNatClampNeg) &&& (255 : Int32)))

def wp_X7_twoAt_1 (M : cM) (L : cL) (p1 : Int32) (Z : Int32 → Prop) : Prop :=
  wp_X7_octetAt_1 M L p1 (fun (r1 : Int32) =>
 wp_X7_octetAt_1 M L (p1 + (1 : Int32)) (fun (r2 : Int32) =>
 Z ((r1 <<< ((8 : Int32) &&& 31)) ||| r2)))

def wp_X7_header4_0 (M : cM) (L : cL) (p1 : Int32) (Z : cM → Prop) : Prop :=
  (vp_in p1 2400 ∧
 ∀ M1 : cM, M1 = mu M 0 31 ((4 : Int32) * ((M 1 p1.toNatClampNeg) &&& (15 : Int32))) →
 wp_X7_twoAt_1 M1 L (p1 + (2 : Int32)) (fun (r2 : Int32) =>
 ∀ M3 : cM, M3 = mu M1 0 32 r2 →
 wp_X7_twoAt_1 M3 L (p1 + (6 : Int32)) (fun (r4 : Int32) =>
 ∀ M5 : cM, M5 = mu M3 0 33 ((8 : Int32) * (r4 &&& (8191 : Int32))) →
 (vp_in (p1 + (6 : Int32)) 2400 ∧
 (∃ K72 : Int32 → Prop, (∀ (v6 : Int32), K72 v6 →
 (isB v6 ∧
 ∀ M7 : cM, M7 = mu M5 0 34 v6 →
 wp_X7_octetAt_1 M7 L (p1 + (9 : Int32)) (fun (r8 : Int32) =>
 ∀ M9 : cM, M9 = mu M7 0 35 r8 →
 Z M9))) ∧
 ((((M5 1 (p1 + (6 : Int32)).toNatClampNeg) &&& (32 : Int32)) = 0 →
 K72 (0 : Int32)) ∧
 (¬ ((M5 1 (p1 + (6 : Int32)).toNatClampNeg) &&& (32 : Int32)) = 0 →
 K72 (1 : Int32))))))))

def wp_X7_word_0 (M : cM) (L : cL) (p1 : Int32) (Z : cL → Prop) : Prop :=
  ∀ L1 : cL, L1 = ml L 0 18 ((L 0 18) + (p1.toInt64)) →
 ∃ (I11 : cL → Prop) (m11 : cL → Nat), I11 L1 ∧ ∀ (L2 : cL), I11 L2 →
 (((lg_cmp (L2 0 18) (65535 : Int64)) ≤ 0 →
 Z L2) ∧
 (¬ (lg_cmp (L2 0 18) (65535 : Int64)) ≤ 0 →
 ∀ L4 : cL, L4 = ml L2 0 18 (((L2 0 18) &&& (65535 : Int64)) + ((L2 0 18) >>> ((16 : Int32).toInt64 &&& 63))) →
 (I11 L4 ∧ m11 L4 < m11 L2)))

def wp_X7_words_0_1 (M : cM) (L : cL) (p2 : Int32) (p3 : Int32) (Z : cL → Prop) : Prop :=
  ∃ (I3 : Int32 → cL → Prop) (m3 : Int32 → cL → Nat), I3 p2 L ∧ ∀ (x1 : Int32) (L2 : cL), I3 x1 L2 →
 ((p3 ≤ x1 →
 Z L2) ∧
 (¬ p3 ≤ x1 →
 (vp_in x1 2400 ∧
 (∃ K43 : Int32 → Prop, (∀ (v4 : Int32), K43 v4 →
 wp_X7_word_0 M L2 ((((M 1 x1.toNatClampNeg) &&& (255 : Int32)) <<< ((8 : Int32) &&& 31)) ||| v4) (fun (L5 : cL) =>
 ∀ x6 : Int32, x6 = (x1 + (2 : Int32)) →
 (I3 x6 L5 ∧ m3 x6 L5 < m3 x1 L2))) ∧
 ((p3 ≤ (x1 + (1 : Int32)) →
 K43 (0 : Int32)) ∧
 (¬ p3 ≤ (x1 + (1 : Int32)) →
 (vp_in (x1 + (1 : Int32)) 2400 ∧
 K43 ((M 1 (x1 + (1 : Int32)).toNatClampNeg) &&& (255 : Int32)))))))))

def wp_X7_optionsAreGood_0 (M : cM) (L : cL)  (Z : Int32 → cM → Prop) : Prop :=
  ∀ M1 : cM, M1 = mu M 0 36 (0 : Int32) →
 ∃ (I8 : Int32 → cM → Prop) (m8 : Int32 → cM → Nat), I8 (20 : Int32) M1 ∧ ∀ (x2 : Int32) (M3 : cM), I8 x2 M3 →
 (((M3 0 31) ≤ x2 →
 Z (1 : Int32) M3) ∧
 (¬ (M3 0 31) ≤ x2 →
 (vp_in x2 2400 ∧
 (((M3 1 x2.toNatClampNeg) = 0 →
 Z (1 : Int32) M3) ∧
 (¬ (M3 1 x2.toNatClampNeg) = 0 →
 wp_X7_octetAt_1 M3 L x2 (fun (r6 : Int32) =>
 ((¬ r6 = (1 : Int32) →
 (((x2 + (1 : Int32)) < (M3 0 31) →
 wp_X7_octetAt_1 M3 L (x2 + (1 : Int32)) (fun (r9 : Int32) =>
 ((r9 < (2 : Int32) →
 Z (0 : Int32) M3) ∧
 (¬ r9 < (2 : Int32) →
 (((x2 + r9) ≤ (M3 0 31) →
 (∃ K123 : cM → Prop, (∀ (M12 : cM), K123 M12 →
 ∀ x13 : Int32, x13 = (x2 + r9) →
 (I8 x13 M12 ∧ m8 x13 M12 < m8 x2 M3)) ∧
 ∃ K99 : Prop, (K99  →
 ((r9 < (3 : Int32) →
 K123 M3) ∧
 (¬ r9 < (3 : Int32) →
 wp_X7_octetAt_1 M3 L (x2 + (2 : Int32)) (fun (r15 : Int32) =>
 ((r9 < r15 →
 K123 M3) ∧
 (¬ r9 < r15 →
 ∀ M17 : cM, M17 = mu M3 0 36 (1 : Int32) →
 K123 M17)))))) ∧
 ((r6 = (131 : Int32) →
 K99) ∧
 (¬ r6 = (131 : Int32) →
 ((¬ r6 = (137 : Int32) →
 K123 M3) ∧
 (r6 = (137 : Int32) →
 K99)))))) ∧
 (¬ (x2 + r9) ≤ (M3 0 31) →
 Z (0 : Int32) M3)))))) ∧
 (¬ (x2 + (1 : Int32)) < (M3 0 31) →
 Z (0 : Int32) M3))) ∧
 (r6 = (1 : Int32) →
 ∀ x20 : Int32, x20 = (x2 + (1 : Int32)) →
 (I8 x20 M3 ∧ m8 x20 M3 < m8 x2 M3)))))))))

def wp_X7_isFormed4_0 (M : cM) (L : cL) (p1 : Int32) (Z : Int32 → cM → cL → Prop) : Prop :=
  ((p1 < (20 : Int32) →
 Z (0 : Int32) M L) ∧
 (¬ p1 < (20 : Int32) →
 wp_X7_octetAt_1 M L (0 : Int32) (fun (r2 : Int32) =>
 (((r2 >>> ((4 : Int32) &&& 31)) = (4 : Int32) →
 wp_X7_header4_0 M L (0 : Int32) (fun (M4 : cM) =>
 (((M4 0 31) < (20 : Int32) →
 Z (0 : Int32) M4 L) ∧
 (¬ (M4 0 31) < (20 : Int32) →
 ((p1 < (M4 0 31) →
 Z (0 : Int32) M4 L) ∧
 (¬ p1 < (M4 0 31) →
 (((M4 0 32) < (M4 0 31) →
 Z (0 : Int32) M4 L) ∧
 (¬ (M4 0 32) < (M4 0 31) →
 (((M4 0 32) ≤ p1 →
 ∀ L9 : cL, L9 = ml L 0 18 (0 : Int64) →
 wp_X7_words_0_1 M4 L9 (0 : Int32) (M4 0 31) (fun (L10 : cL) =>
 ((¬ (lg_cmp (L10 0 18) (65535 : Int64)) = 0 →
 Z (0 : Int32) M4 L10) ∧
 ((lg_cmp (L10 0 18) (65535 : Int64)) = 0 →
 wp_X7_optionsAreGood_0 M4 L10  (fun (r12 : Int32) (M13 : cM) =>
 ((r12 = 0 →
 Z (0 : Int32) M13 L10) ∧
 (¬ r12 = 0 →
 (((65535 : Int32) < (((M13 0 33) + (M13 0 32)) - (M13 0 31)) →
 Z (0 : Int32) M13 L10) ∧
 (¬ (65535 : Int32) < (((M13 0 33) + (M13 0 32)) - (M13 0 31)) →
 Z (1 : Int32) M13 L10))))))))) ∧
 (¬ (M4 0 32) ≤ p1 →
 Z (0 : Int32) M4 L)))))))))) ∧
 (¬ (r2 >>> ((4 : Int32) &&& 31)) = (4 : Int32) →
 Z (0 : Int32) M L)))))

def wp_X7_intAt_1 (M : cM) (L : cL) (p1 : Int32) (Z : Int32 → Prop) : Prop :=
  wp_X7_twoAt_1 M L p1 (fun (r1 : Int32) =>
 wp_X7_twoAt_1 M L (p1 + (2 : Int32)) (fun (r2 : Int32) =>
 Z ((r1 <<< ((16 : Int32) &&& 31)) ||| r2)))

def wp_X7_imagesOf_0 (M : cM) (L : cL) (p1 : Int32) (p2 : Int32) (Z : Int32 → cM → cL → Prop) : Prop :=
  ∀ M1 : cM, M1 = mu M 0 25 p1 →
 ∀ M2 : cM, M2 = mu M1 0 26 p2 →
 wp_X7_makeImage_0 M2 L p1 (fun (L3 : cL) =>
 ∀ L4 : cL, L4 = ml L3 0 27 (L3 0 15) →
 ∀ L5 : cL, L5 = ml L4 0 28 (L4 0 16) →
 wp_X7_makeImage_0 M2 L5 p2 (fun (L6 : cL) =>
 ∀ L7 : cL, L7 = ml L6 0 29 (L6 0 15) →
 ∀ L8 : cL, L8 = ml L7 0 30 (L7 0 16) →
 wp_X7_isMappable_0 M2 L8 p1 (fun (r9 : Int32) =>
 ((r9 = 0 →
 Z (0 : Int32) M2 L8) ∧
 (¬ r9 = 0 →
 wp_X7_isMappable_0 M2 L8 p2 (fun (r11 : Int32) =>
 ((r11 = 0 →
 Z (0 : Int32) M2 L8) ∧
 (¬ r11 = 0 →
 Z (1 : Int32) M2 L8))))))))

def wp_X7_isBarred4 (M : cM) (L : cL) (p0 : Int32) (Z : Int32 → Prop) : Prop :=
  ((p0 = 0 →
 Z (1 : Int32)) ∧
 (¬ p0 = 0 →
 ((p0 = (2 : Int32) →
 Z (1 : Int32)) ∧
 (¬ p0 = (2 : Int32) →
 ((p0 = (43 : Int32) →
 Z (1 : Int32)) ∧
 (¬ p0 = (43 : Int32) →
 ((p0 = (44 : Int32) →
 Z (1 : Int32)) ∧
 (¬ p0 = (44 : Int32) →
 ((p0 = (58 : Int32) →
 Z (1 : Int32)) ∧
 (¬ p0 = (58 : Int32) →
 ((p0 = (59 : Int32) →
 Z (1 : Int32)) ∧
 (¬ p0 = (59 : Int32) →
 ((¬ p0 = (60 : Int32) →
 Z (0 : Int32)) ∧
 (p0 = (60 : Int32) →
 Z (1 : Int32)))))))))))))))

def wp_X7_carry_0_1 (M : cM) (L : cL) (p2 : Int32) (p3 : Int32) (Z : cM → Prop) : Prop :=
  ∃ (I3 : Int32 → cM → Prop) (m3 : Int32 → cM → Nat), I3 (0 : Int32) M ∧ ∀ (x1 : Int32) (M2 : cM), I3 x1 M2 →
 ((p3 ≤ x1 →
 ∀ M4 : cM, M4 = mu M2 0 24 p3 →
 Z M4) ∧
 (¬ p3 ≤ x1 →
 (vp_in (p2 + x1) 2400 ∧
 (vp_in x1 5000 ∧
 ∀ M5 : cM, M5 = mu M2 5 x1.toNatClampNeg (vp_nar .byte (M2 1 (p2 + x1).toNatClampNeg)) →
 ∀ x6 : Int32, x6 = (x1 + (1 : Int32)) →
 (I3 x6 M5 ∧ m3 x6 M5 < m3 x1 M2)))))

def wp_X7_more_0 (M : cM) (L : cL) (p1 : Int32) (Z : Int32 → cM → Prop) : Prop :=
  ∀ x1 : Int32, x1 = (M 0 20) →
 ∃ (I7 : Int32 → cM → Prop) (m7 : Int32 → cM → Nat), I7 (0 : Int32) M ∧ ∀ (x2 : Int32) (M3 : cM), I7 x2 M3 →
 ((p1 ≤ x2 →
 ∀ M5 : cM, M5 = mu M3 0 20 ((M3 0 20) + p1) →
 Z x1 M5) ∧
 (¬ p1 ≤ x2 →
 (vp_in (x1 + x2) 16000 ∧
 ∀ M6 : cM, M6 = mu M3 3 (x1 + x2).toNatClampNeg (vp_nar .byte (0 : Int32)) →
 ∀ x7 : Int32, x7 = (x2 + (1 : Int32)) →
 (I7 x7 M6 ∧ m7 x7 M6 < m7 x2 M3))))

def wp_X7_putTwo_3 (M : cM) (L : cL) (p1 : Int32) (p2 : Int32) (Z : cM → Prop) : Prop :=
  (vp_in p1 16000 ∧
 ∀ M1 : cM, M1 = mu M 3 p1.toNatClampNeg (vp_nar .byte ((p2 >>> ((8 : Int32) &&& 31)).toInt8.toInt32)) →
 (vp_in (p1 + (1 : Int32)) 16000 ∧
 ∀ M2 : cM, M2 = mu M1 3 (p1 + (1 : Int32)).toNatClampNeg (vp_nar .byte (p2.toInt8.toInt32)) →
 Z M2))

def wp_X7_putInt_3 (M : cM) (L : cL) (p1 : Int32) (p2 : Int32) (Z : cM → Prop) : Prop :=
  wp_X7_putTwo_3 M L p1 ((p2.toUInt32 >>> ((16 : Int32).toUInt32 &&& Int32.toUInt32 31)).toInt32) (fun (M1 : cM) =>
 wp_X7_putTwo_3 M1 L (p1 + (2 : Int32)) p2 (fun (M2 : cM) =>
 Z M2))

def wp_X7_putLong_3 (M : cM) (L : cL) (p1 : Int32) (p2 : Int64) (Z : cM → Prop) : Prop :=
  wp_X7_putInt_3 M L p1 ((p2 >>> ((32 : Int32).toInt64 &&& 63)).toInt32) (fun (M1 : cM) =>
 wp_X7_putInt_3 M1 L (p1 + (4 : Int32)) (p2.toInt32) (fun (M2 : cM) =>
 Z M2))

def wp_X7_head6_0 (M : cM) (L : cL) (p1 : Int32) (p2 : Int32) (p3 : Int32) (p4 : Int32) (p5 : Int32) (p6 : Int32) (p7 : Int32) (p8 : Int32) (Z : cM → Prop) : Prop :=
  (∃ K17 : Int32 → Prop, (∀ (v1 : Int32), K17 v1 →
 (∃ K42 : Int32 → Prop, (∀ (v2 : Int32), K42 v2 →
 wp_X7_putInt_3 M L p1 ((1610612736 : Int32) ||| v2) (fun (M3 : cM) =>
 wp_X7_putTwo_3 M3 L (p1 + (4 : Int32)) p3 (fun (M4 : cM) =>
 (∃ K77 : Int32 → Prop, (∀ (v5 : Int32), K77 v5 →
 (vp_in (p1 + (6 : Int32)) 16000 ∧
 ∀ M6 : cM, M6 = mu M4 3 (p1 + (6 : Int32)).toNatClampNeg (vp_nar .byte (v5.toInt8.toInt32)) →
 (vp_in (p1 + (7 : Int32)) 16000 ∧
 ∀ M7 : cM, M7 = mu M6 3 (p1 + (7 : Int32)).toNatClampNeg (vp_nar .byte (p4.toInt8.toInt32)) →
 wp_X7_putLong_3 M7 L (p1 + (8 : Int32)) (L 0 27) (fun (M8 : cM) =>
 wp_X7_putLong_3 M8 L (p1 + (16 : Int32)) (L 0 28) (fun (M9 : cM) =>
 wp_X7_putLong_3 M9 L (p1 + (24 : Int32)) (L 0 29) (fun (M10 : cM) =>
 wp_X7_putLong_3 M10 L (p1 + (32 : Int32)) (L 0 30) (fun (M11 : cM) =>
 ((¬ p5 = 0 →
 (vp_in (p1 + (40 : Int32)) 16000 ∧
 ∀ M13 : cM, M13 = mu M11 3 (p1 + (40 : Int32)).toNatClampNeg (vp_nar .byte (v1.toInt8.toInt32)) →
 (∃ K189 : Int32 → Prop, (∀ (v14 : Int32), K189 v14 →
 wp_X7_putTwo_3 M13 L (p1 + (42 : Int32)) (p6 ||| v14) (fun (M15 : cM) =>
 wp_X7_putInt_3 M15 L (p1 + (44 : Int32)) p8 (fun (M16 : cM) =>
 Z M16))) ∧
 ((p7 = 0 →
 K189 (0 : Int32)) ∧
 (¬ p7 = 0 →
 K189 (1 : Int32)))))) ∧
 (p5 = 0 →
 Z M11))))))))) ∧
 ((p5 = 0 →
 K77 v1) ∧
 (¬ p5 = 0 →
 K77 (44 : Int32))))))) ∧
 (((M 0 11) = 0 →
 K42 (0 : Int32)) ∧
 (¬ (M 0 11) = 0 →
 K42 (p2 <<< ((20 : Int32) &&& 31)))))) ∧
 ((¬ (M 0 35) = (1 : Int32) →
 K17 (M 0 35)) ∧
 ((M 0 35) = (1 : Int32) →
 K17 (58 : Int32))))

def wp_X7_isPart_0 (M : cM) (L : cL)  (Z : cM → Prop) : Prop :=
  ∀ M1 : cM, M1 = mu M 0 22 ((M 0 22) + (1 : Int32)) →
 (vp_in (M1 0 22) 101 ∧
 ∀ M2 : cM, M2 = mu M1 4 (M1 0 22).toNatClampNeg (M1 0 20) →
 Z M2)

def wp_X7_tell_0 (M : cM) (L : cL) (p1 : Int32) (Z : Int32 → cM → Prop) : Prop :=
  (vp_in p1 11 ∧
 (vp_in p1 11 ∧
 ∀ M1 : cM, M1 = mu M 2 p1.toNatClampNeg ((M 2 p1.toNatClampNeg) + (1 : Int32)) →
 ((p1 ≤ 0 →
 Z p1 M1) ∧
 (¬ p1 ≤ 0 →
 (((10 : Int32) ≤ p1 →
 Z p1 M1) ∧
 (¬ (10 : Int32) ≤ p1 →
 ∀ M4 : cM, M4 = mu M1 0 22 (0 : Int32) →
 ∀ M5 : cM, M5 = mu M4 0 20 (0 : Int32) →
 Z p1 M5))))))

def wp_X7_words_0_3 (M : cM) (L : cL) (p2 : Int32) (p3 : Int32) (Z : cL → Prop) : Prop :=
  ∃ (I3 : Int32 → cL → Prop) (m3 : Int32 → cL → Nat), I3 p2 L ∧ ∀ (x1 : Int32) (L2 : cL), I3 x1 L2 →
 ((p3 ≤ x1 →
 Z L2) ∧
 (¬ p3 ≤ x1 →
 (vp_in x1 16000 ∧
 (∃ K43 : Int32 → Prop, (∀ (v4 : Int32), K43 v4 →
 wp_X7_word_0 M L2 ((((M 3 x1.toNatClampNeg) &&& (255 : Int32)) <<< ((8 : Int32) &&& 31)) ||| v4) (fun (L5 : cL) =>
 ∀ x6 : Int32, x6 = (x1 + (2 : Int32)) →
 (I3 x6 L5 ∧ m3 x6 L5 < m3 x1 L2))) ∧
 ((p3 ≤ (x1 + (1 : Int32)) →
 K43 (0 : Int32)) ∧
 (¬ p3 ≤ (x1 + (1 : Int32)) →
 (vp_in (x1 + (1 : Int32)) 16000 ∧
 K43 ((M 3 (x1 + (1 : Int32)).toNatClampNeg) &&& (255 : Int32)))))))))

def wp_X7_checksum_0 (M : cM) (L : cL)  (Z : Int32 → Prop) : Prop :=
  Z ((((L 0 18) ^^^ (-1 : Int64)) &&& (65535 : Int64)).toInt32)

def wp_X7_headerSum_0 (M : cM) (L : cL) (p1 : Int32) (Z : cM → cL → Prop) : Prop :=
  wp_X7_putTwo_3 M L (p1 + (10 : Int32)) (0 : Int32) (fun (M1 : cM) =>
 ∀ L2 : cL, L2 = ml L 0 18 (0 : Int64) →
 wp_X7_words_0_3 M1 L2 p1 (p1 + (20 : Int32)) (fun (L3 : cL) =>
 wp_X7_checksum_0 M1 L3  (fun (r4 : Int32) =>
 wp_X7_putTwo_3 M1 L3 (p1 + (10 : Int32)) r4 (fun (M5 : cM) =>
 Z M5 L3))))

def wp_X7_answer4_0 (M : cM) (L : cL) (p1 : Int32) (p2 : Int32) (p3 : Int32) (Z : Int32 → cM → cL → Prop) : Prop :=
  (∃ K57 : Int32 → Prop, (∀ (v1 : Int32), K57 v1 →
 ((v1 = 0 →
 (∃ K99 : Int32 → Prop, (∀ (v3 : Int32), K99 v3 →
 wp_X7_more_0 M L ((28 : Int32) + v3) (fun (r4 : Int32) (M5 : cM) =>
 (vp_in r4 16000 ∧
 ∀ M6 : cM, M6 = mu M5 3 r4.toNatClampNeg (vp_nar .byte (69 : Int32)) →
 wp_X7_putTwo_3 M6 L (r4 + (2 : Int32)) ((28 : Int32) + v3) (fun (M7 : cM) =>
 (vp_in (r4 + (8 : Int32)) 16000 ∧
 ∀ M8 : cM, M8 = mu M7 3 (r4 + (8 : Int32)).toNatClampNeg (vp_nar .byte (64 : Int32)) →
 (vp_in (r4 + (9 : Int32)) 16000 ∧
 ∀ M9 : cM, M9 = mu M8 3 (r4 + (9 : Int32)).toNatClampNeg (vp_nar .byte (1 : Int32)) →
 wp_X7_putInt_3 M9 L (r4 + (12 : Int32)) (M9 0 6) (fun (M10 : cM) =>
 wp_X7_intAt_1 M10 L (12 : Int32) (fun (r11 : Int32) =>
 wp_X7_putInt_3 M10 L (r4 + (16 : Int32)) r11 (fun (M12 : cM) =>
 wp_X7_headerSum_0 M12 L r4 (fun (M13 : cM) (L14 : cL) =>
 (vp_in (r4 + (20 : Int32)) 16000 ∧
 ∀ M15 : cM, M15 = mu M13 3 (r4 + (20 : Int32)).toNatClampNeg (vp_nar .byte (p1.toInt8.toInt32)) →
 (vp_in (r4 + (21 : Int32)) 16000 ∧
 ∀ M16 : cM, M16 = mu M15 3 (r4 + (21 : Int32)).toNatClampNeg (vp_nar .byte (p2.toInt8.toInt32)) →
 wp_X7_putTwo_3 M16 L14 (r4 + (26 : Int32)) p3 (fun (M17 : cM) =>
 ∃ (I243 : Int32 → cM → Prop) (m243 : Int32 → cM → Nat), I243 (0 : Int32) M17 ∧ ∀ (x18 : Int32) (M19 : cM), I243 x18 M19 →
 ((v3 ≤ x18 →
 ∀ L21 : cL, L21 = ml L14 0 18 (0 : Int64) →
 wp_X7_words_0_3 M19 L21 (r4 + (20 : Int32)) (M19 0 20) (fun (L22 : cL) =>
 wp_X7_checksum_0 M19 L22  (fun (r23 : Int32) =>
 wp_X7_putTwo_3 M19 L22 (r4 + (22 : Int32)) r23 (fun (M24 : cM) =>
 wp_X7_isPart_0 M24 L22  (fun (M25 : cM) =>
 wp_X7_tell_0 M25 L22 (10 : Int32) (fun (r26 : Int32) (M27 : cM) =>
 Z r26 M27 L22)))))) ∧
 (¬ v3 ≤ x18 →
 (vp_in x18 2400 ∧
 (vp_in ((r4 + (28 : Int32)) + x18) 16000 ∧
 ∀ M28 : cM, M28 = mu M19 3 ((r4 + (28 : Int32)) + x18).toNatClampNeg (vp_nar .byte (M19 1 x18.toNatClampNeg)) →
 ∀ x29 : Int32, x29 = (x18 + (1 : Int32)) →
 (I243 x29 M28 ∧ m243 x29 M28 < m243 x18 M19)))))))))))))))))) ∧
 ((((M 0 31) + (8 : Int32)) ≤ (M 0 32) →
 K99 ((M 0 31) + (8 : Int32))) ∧
 (¬ ((M 0 31) + (8 : Int32)) ≤ (M 0 32) →
 K99 (M 0 32))))) ∧
 (¬ v1 = 0 →
 wp_X7_tell_0 M L (9 : Int32) (fun (r31 : Int32) (M32 : cM) =>
 Z r31 M32 L)))) ∧
 ∃ K52 : Prop, (K52  →
 K57 (1 : Int32)) ∧
 ((0 < (M 0 33) →
 K52) ∧
 (¬ 0 < (M 0 33) →
 (∃ K56 : Prop, (K56  →
 K57 (0 : Int32)) ∧
 ((¬ (M 0 35) = (1 : Int32) →
 K56) ∧
 ((M 0 35) = (1 : Int32) →
 (((M 0 32) = (M 0 31) →
 K52) ∧
 (¬ (M 0 32) = (M 0 31) →
 (vp_in (M 0 31) 2400 ∧
 (((M 1 (M 0 31).toNatClampNeg) = (8 : Int32) →
 K56) ∧
 (¬ (M 1 (M 0 31).toNatClampNeg) = (8 : Int32) →
 (vp_in (M 0 31) 2400 ∧
 (((M 1 (M 0 31).toNatClampNeg) = 0 →
 K56) ∧
 (¬ (M 1 (M 0 31).toNatClampNeg) = 0 →
 K52))))))))))))))

def wp_X7_longs_0 (M : cM) (L : cL) (p1 : Int64) (p3 : Int32) (Z : cL → Prop) : Prop :=
  ∃ (I4 : Int32 → cL → Prop) (m4 : Int32 → cL → Nat), I4 (48 : Int32) L ∧ ∀ (x1 : Int32) (L2 : cL), I4 x1 L2 →
 ((x1 < 0 →
 Z L2) ∧
 (¬ x1 < 0 →
 (∃ K23 : Int64 → Prop, (∀ (v4 : Int64), K23 v4 →
 wp_X7_word_0 M L2 ((((v4.toUInt64 >>> (x1.toInt64.toUInt64 &&& Int64.toUInt64 63)).toInt64) &&& (65535 : Int64)).toInt32) (fun (L5 : cL) =>
 ∀ x6 : Int32, x6 = (x1 + (-16 : Int32)) →
 (I4 x6 L5 ∧ m4 x6 L5 < m4 x1 L2))) ∧
 ((p3 = 0 →
 K23 p1) ∧
 (¬ p3 = 0 →
 K23 (p1 ^^^ (-1 : Int64)))))))

def wp_X7_images_0 (M : cM) (L : cL) (p1 : Int32) (Z : cL → Prop) : Prop :=
  wp_X7_longs_0 M L (L 0 27) p1 (fun (L1 : cL) =>
 wp_X7_longs_0 M L1 (L1 0 28) p1 (fun (L2 : cL) =>
 wp_X7_longs_0 M L2 (L2 0 29) p1 (fun (L3 : cL) =>
 wp_X7_longs_0 M L3 (L3 0 30) p1 (fun (L4 : cL) =>
 Z L4))))

def wp_X7_ints_0 (M : cM) (L : cL) (p1 : Int32) (p2 : Int32) (Z : cL → Prop) : Prop :=
  (∃ K12 : Int32 → Prop, (∀ (v1 : Int32), K12 v1 →
 wp_X7_word_0 M L (((v1.toUInt32 >>> ((16 : Int32).toUInt32 &&& Int32.toUInt32 31)).toInt32) &&& (65535 : Int32)) (fun (L2 : cL) =>
 (∃ K33 : Int32 → Prop, (∀ (v3 : Int32), K33 v3 →
 wp_X7_word_0 M L2 (v3 &&& (65535 : Int32)) (fun (L4 : cL) =>
 Z L4)) ∧
 ((p2 = 0 →
 K33 p1) ∧
 (¬ p2 = 0 →
 K33 (p1 ^^^ (-1 : Int32))))))) ∧
 ((p2 = 0 →
 K12 p1) ∧
 (¬ p2 = 0 →
 K12 (p1 ^^^ (-1 : Int32)))))

def wp_X7_pseudo_0 (M : cM) (L : cL) (p1 : Int32) (p2 : Int32) (p3 : Int32) (Z : cL → Prop) : Prop :=
  wp_X7_images_0 M L p3 (fun (L1 : cL) =>
 wp_X7_ints_0 M L1 p1 p3 (fun (L2 : cL) =>
 wp_X7_ints_0 M L2 p2 p3 (fun (L3 : cL) =>
 Z L3)))

def wp_X7_words_0_5 (M : cM) (L : cL) (p2 : Int32) (p3 : Int32) (Z : cL → Prop) : Prop :=
  ∃ (I3 : Int32 → cL → Prop) (m3 : Int32 → cL → Nat), I3 p2 L ∧ ∀ (x1 : Int32) (L2 : cL), I3 x1 L2 →
 ((p3 ≤ x1 →
 Z L2) ∧
 (¬ p3 ≤ x1 →
 (vp_in x1 5000 ∧
 (∃ K43 : Int32 → Prop, (∀ (v4 : Int32), K43 v4 →
 wp_X7_word_0 M L2 ((((M 5 x1.toNatClampNeg) &&& (255 : Int32)) <<< ((8 : Int32) &&& 31)) ||| v4) (fun (L5 : cL) =>
 ∀ x6 : Int32, x6 = (x1 + (2 : Int32)) →
 (I3 x6 L5 ∧ m3 x6 L5 < m3 x1 L2))) ∧
 ((p3 ≤ (x1 + (1 : Int32)) →
 K43 (0 : Int32)) ∧
 (¬ p3 ≤ (x1 + (1 : Int32)) →
 (vp_in (x1 + (1 : Int32)) 5000 ∧
 K43 ((M 5 (x1 + (1 : Int32)).toNatClampNeg) &&& (255 : Int32)))))))))

def wp_X7_putTwo_5 (M : cM) (L : cL) (p1 : Int32) (p2 : Int32) (Z : cM → Prop) : Prop :=
  (vp_in p1 5000 ∧
 ∀ M1 : cM, M1 = mu M 5 p1.toNatClampNeg (vp_nar .byte ((p2 >>> ((8 : Int32) &&& 31)).toInt8.toInt32)) →
 (vp_in (p1 + (1 : Int32)) 5000 ∧
 ∀ M2 : cM, M2 = mu M1 5 (p1 + (1 : Int32)).toNatClampNeg (vp_nar .byte (p2.toInt8.toInt32)) →
 Z M2))

def wp_X7_sumAt (M : cM) (L : cL) (p0 : Int32) (Z : Int32 → Prop) : Prop :=
  ((¬ p0 = (17 : Int32) →
 Z (16 : Int32)) ∧
 (p0 = (17 : Int32) →
 Z (6 : Int32)))

def wp_X7_octetAt_5 (M : cM) (L : cL) (p1 : Int32) (Z : Int32 → Prop) : Prop :=
  (vp_in p1 5000 ∧
 Z ((M 5 p1.toNatClampNeg) &&& (255 : Int32)))

def wp_X7_twoAt_5 (M : cM) (L : cL) (p1 : Int32) (Z : Int32 → Prop) : Prop :=
  wp_X7_octetAt_5 M L p1 (fun (r1 : Int32) =>
 wp_X7_octetAt_5 M L (p1 + (1 : Int32)) (fun (r2 : Int32) =>
 Z ((r1 <<< ((8 : Int32) &&& 31)) ||| r2)))

def wp_X7_turned_0 (M : cM) (L : cL) (p1 : Int32) (Z : cL → Prop) : Prop :=
  wp_X7_word_0 M L ((p1 ^^^ (-1 : Int32)) &&& (65535 : Int32)) (fun (L1 : cL) =>
 Z L1)

def wp_X7_addresses_0 (M : cM) (L : cL) (p1 : Int32) (Z : cL → Prop) : Prop :=
  wp_X7_ints_0 M L (M 0 25) p1 (fun (L1 : cL) =>
 wp_X7_ints_0 M L1 (M 0 26) p1 (fun (L2 : cL) =>
 Z L2))

def wp_X7_adjust_0_5 (M : cM) (L : cL) (p2 : Int32) (p3 : Int32) (p4 : Int32) (Z : cM → cL → Prop) : Prop :=
  ∀ L1 : cL, L1 = ml L 0 18 (0 : Int64) →
 wp_X7_twoAt_5 M L1 p2 (fun (r2 : Int32) =>
 wp_X7_turned_0 M L1 r2 (fun (L3 : cL) =>
 (∃ K42 : cL → Prop, (∀ (L4 : cL), K42 L4 →
 wp_X7_checksum_0 M L4  (fun (r5 : Int32) =>
 (∃ K68 : Int32 → Prop, (∀ (v6 : Int32), K68 v6 →
 wp_X7_putTwo_5 M L4 p2 v6 (fun (M7 : cM) =>
 Z M7 L4)) ∧
 ∃ K66 : Prop, (K66  →
 K68 r5) ∧
 ((¬ p3 = (17 : Int32) →
 K66) ∧
 (p3 = (17 : Int32) →
 ((¬ r5 = 0 →
 K66) ∧
 (r5 = 0 →
 K68 (65535 : Int32)))))))) ∧
 ((p4 = 0 →
 wp_X7_images_0 M L3 (1 : Int32) (fun (L11 : cL) =>
 wp_X7_addresses_0 M L11 (0 : Int32) (fun (L12 : cL) =>
 K42 L12))) ∧
 (¬ p4 = 0 →
 wp_X7_addresses_0 M L3 (1 : Int32) (fun (L13 : cL) =>
 wp_X7_images_0 M L13 (0 : Int32) (fun (L14 : cL) =>
 K42 L14)))))))

def wp_X7_echo_0_5 (M : cM) (L : cL) (p2 : Int32) (p3 : Int32) (p4 : Int32) (Z : cM → cL → Prop) : Prop :=
  wp_X7_twoAt_5 M L p2 (fun (r1 : Int32) =>
 (∃ K53 : Int32 → Prop, (∀ (v2 : Int32), K53 v2 →
 (vp_in p2 5000 ∧
 ∀ M3 : cM, M3 = mu M 5 p2.toNatClampNeg (vp_nar .byte (v2.toInt8.toInt32)) →
 ∀ L4 : cL, L4 = ml L 0 18 (0 : Int64) →
 wp_X7_twoAt_5 M3 L4 (p2 + (2 : Int32)) (fun (r5 : Int32) =>
 wp_X7_turned_0 M3 L4 r5 (fun (L6 : cL) =>
 wp_X7_turned_0 M3 L6 r1 (fun (L7 : cL) =>
 (∃ K90 : cL → Prop, (∀ (L8 : cL), K90 L8 →
 wp_X7_twoAt_5 M3 L8 p2 (fun (r9 : Int32) =>
 wp_X7_word_0 M3 L8 r9 (fun (L10 : cL) =>
 (∃ K112 : cL → Prop, (∀ (L11 : cL), K112 L11 →
 wp_X7_checksum_0 M3 L11  (fun (r12 : Int32) =>
 wp_X7_putTwo_5 M3 L11 (p2 + (2 : Int32)) r12 (fun (M13 : cM) =>
 Z M13 L11))) ∧
 ((p4 = 0 →
 K112 L10) ∧
 (¬ p4 = 0 →
 wp_X7_pseudo_0 M3 L10 p3 (58 : Int32) (0 : Int32) (fun (L15 : cL) =>
 K112 L15))))))) ∧
 ((¬ p4 = 0 →
 K90 L7) ∧
 (p4 = 0 →
 wp_X7_pseudo_0 M3 L7 p3 (58 : Int32) (1 : Int32) (fun (L17 : cL) =>
 K90 L17))))))))) ∧
 ((p4 = 0 →
 ((¬ (r1 >>> ((8 : Int32) &&& 31)) = (128 : Int32) →
 K53 (0 : Int32)) ∧
 ((r1 >>> ((8 : Int32) &&& 31)) = (128 : Int32) →
 K53 (8 : Int32)))) ∧
 (¬ p4 = 0 →
 ((¬ (r1 >>> ((8 : Int32) &&& 31)) = (8 : Int32) →
 K53 (129 : Int32)) ∧
 ((r1 >>> ((8 : Int32) &&& 31)) = (8 : Int32) →
 K53 (128 : Int32)))))))

def wp_X7_error_0 (M : cM) (L : cL) (p1 : Int32) (p2 : Int32) (p3 : Int32) (Z : cM → Prop) : Prop :=
  ∀ M1 : cM, M1 = mu M 0 37 p1 →
 ∀ M2 : cM, M2 = mu M1 0 38 p2 →
 ∀ M3 : cM, M3 = mu M2 0 39 p3 →
 Z M3

def wp_X7_plateau (M : cM) (L : cL) (p0 : Int32) (Z : Int32 → Prop) : Prop :=
  ∀ f0 : Nat → Int32, f0 = (fun _ => 0) →
  ∀ f1 : Nat → Int32, f1 = upd f0 (0 : Int32).toNatClampNeg (65535 : Int32) →
  ∀ f2 : Nat → Int32, f2 = upd f1 (1 : Int32).toNatClampNeg (32000 : Int32) →
  ∀ f3 : Nat → Int32, f3 = upd f2 (2 : Int32).toNatClampNeg (17914 : Int32) →
  ∀ f4 : Nat → Int32, f4 = upd f3 (3 : Int32).toNatClampNeg (8166 : Int32) →
  ∀ f5 : Nat → Int32, f5 = upd f4 (4 : Int32).toNatClampNeg (4352 : Int32) →
  ∀ f6 : Nat → Int32, f6 = upd f5 (5 : Int32).toNatClampNeg (2002 : Int32) →
  ∀ f7 : Nat → Int32, f7 = upd f6 (6 : Int32).toNatClampNeg (1492 : Int32) →
  ∀ f8 : Nat → Int32, f8 = upd f7 (7 : Int32).toNatClampNeg (1006 : Int32) →
  ∀ f9 : Nat → Int32, f9 = upd f8 (8 : Int32).toNatClampNeg (508 : Int32) →
  ∀ f10 : Nat → Int32, f10 = upd f9 (9 : Int32).toNatClampNeg (296 : Int32) →
  ∀ f11 : Nat → Int32, f11 = upd f10 (10 : Int32).toNatClampNeg (68 : Int32) →
  ∃ (I9 : Int32 → Prop) (m9 : Int32 → Nat), I9 0 ∧ ∀ x : Int32, I9 x → (((11 : Int32) ≤ x → Z (68 : Int32)) ∧ (¬ (11 : Int32) ≤ x → (vp_in x 11 ∧ ((p0 ≤ f11 x.toNatClampNeg → ∀ x2 : Int32, x2 = x + 1 → I9 x2 ∧ m9 x2 < m9 x) ∧ (¬ p0 ≤ f11 x.toNatClampNeg → Z (f11 x.toNatClampNeg))))))

def wp_X7_errorToSix_0 (M : cM) (L : cL) (p1 : Int32) (p2 : Int32) (p3 : Int32) (Z : Int32 → cM → Prop) : Prop :=
  ((¬ p1 = (11 : Int32) →
 ((¬ p1 = (12 : Int32) →
 ((p2 = (0 : Int32) →
 wp_X7_error_0 M L (1 : Int32) (0 : Int32) (0 : Int32) (fun (M3 : cM) =>
 Z (1 : Int32) M3)) ∧
 (¬ p2 = (0 : Int32) →
 ((p2 = (1 : Int32) →
 wp_X7_error_0 M L (1 : Int32) (0 : Int32) (0 : Int32) (fun (M4 : cM) =>
 Z (1 : Int32) M4)) ∧
 (¬ p2 = (1 : Int32) →
 ((p2 = (2 : Int32) →
 wp_X7_error_0 M L (4 : Int32) (1 : Int32) (6 : Int32) (fun (M5 : cM) =>
 Z (1 : Int32) M5)) ∧
 (¬ p2 = (2 : Int32) →
 ((p2 = (3 : Int32) →
 wp_X7_error_0 M L (1 : Int32) (4 : Int32) (0 : Int32) (fun (M6 : cM) =>
 Z (1 : Int32) M6)) ∧
 (¬ p2 = (3 : Int32) →
 ((p2 = (4 : Int32) →
 wp_X7_twoAt_5 M L (6 : Int32) (fun (r7 : Int32) =>
 (∃ K302 : Int32 → Prop, (∀ (x8 : Int32), K302 x8 →
 ∀ x9 : Int32, x9 = (x8 + (20 : Int32)) →
 (∃ K323 : Int32 → Prop, (∀ (v10 : Int32), K323 v10 →
 (∃ K349 : Int32 → Prop, (∀ (v11 : Int32), K349 v11 →
 (∃ K370 : Int32 → Prop, (∀ (v12 : Int32), K370 v12 →
 wp_X7_error_0 M L (2 : Int32) (0 : Int32) v12 (fun (M13 : cM) =>
 Z (1 : Int32) M13)) ∧
 (((1280 : Int32) ≤ v11 →
 K370 v11) ∧
 (¬ (1280 : Int32) ≤ v11 →
 K370 (1280 : Int32))))) ∧
 ((((M 0 9) + (20 : Int32)) ≤ v10 →
 K349 ((M 0 9) + (20 : Int32))) ∧
 (¬ ((M 0 9) + (20 : Int32)) ≤ v10 →
 K349 v10)))) ∧
 (((M 0 10) ≤ x9 →
 K323 (M 0 10)) ∧
 (¬ (M 0 10) ≤ x9 →
 K323 x9)))) ∧
 ((¬ r7 = 0 →
 K302 r7) ∧
 (r7 = 0 →
 (∃ K300 : Int32 → Prop, (∀ (v18 : Int32), K300 v18 →
 K302 v18) ∧
 (((12 : Int32) ≤ p3 →
 wp_X7_twoAt_5 M L (10 : Int32) (fun (r20 : Int32) =>
 wp_X7_plateau M L r20 (fun (r21 : Int32) =>
 K300 r21))) ∧
 (¬ (12 : Int32) ≤ p3 →
 K300 (68 : Int32))))))))) ∧
 (¬ p2 = (4 : Int32) →
 ((p2 = (5 : Int32) →
 wp_X7_error_0 M L (1 : Int32) (0 : Int32) (0 : Int32) (fun (M22 : cM) =>
 Z (1 : Int32) M22)) ∧
 (¬ p2 = (5 : Int32) →
 ((p2 = (6 : Int32) →
 wp_X7_error_0 M L (1 : Int32) (0 : Int32) (0 : Int32) (fun (M23 : cM) =>
 Z (1 : Int32) M23)) ∧
 (¬ p2 = (6 : Int32) →
 ((p2 = (7 : Int32) →
 wp_X7_error_0 M L (1 : Int32) (0 : Int32) (0 : Int32) (fun (M24 : cM) =>
 Z (1 : Int32) M24)) ∧
 (¬ p2 = (7 : Int32) →
 ((p2 = (8 : Int32) →
 wp_X7_error_0 M L (1 : Int32) (0 : Int32) (0 : Int32) (fun (M25 : cM) =>
 Z (1 : Int32) M25)) ∧
 (¬ p2 = (8 : Int32) →
 ((p2 = (9 : Int32) →
 wp_X7_error_0 M L (1 : Int32) (1 : Int32) (0 : Int32) (fun (M26 : cM) =>
 Z (1 : Int32) M26)) ∧
 (¬ p2 = (9 : Int32) →
 ((p2 = (10 : Int32) →
 wp_X7_error_0 M L (1 : Int32) (1 : Int32) (0 : Int32) (fun (M27 : cM) =>
 Z (1 : Int32) M27)) ∧
 (¬ p2 = (10 : Int32) →
 ((p2 = (11 : Int32) →
 wp_X7_error_0 M L (1 : Int32) (0 : Int32) (0 : Int32) (fun (M28 : cM) =>
 Z (1 : Int32) M28)) ∧
 (¬ p2 = (11 : Int32) →
 ((p2 = (12 : Int32) →
 wp_X7_error_0 M L (1 : Int32) (0 : Int32) (0 : Int32) (fun (M29 : cM) =>
 Z (1 : Int32) M29)) ∧
 (¬ p2 = (12 : Int32) →
 ((p2 = (13 : Int32) →
 wp_X7_error_0 M L (1 : Int32) (1 : Int32) (0 : Int32) (fun (M30 : cM) =>
 Z (1 : Int32) M30)) ∧
 (¬ p2 = (13 : Int32) →
 ((p2 = (14 : Int32) →
 Z (0 : Int32) M) ∧
 (¬ p2 = (14 : Int32) →
 ((p2 = (15 : Int32) →
 wp_X7_error_0 M L (1 : Int32) (1 : Int32) (0 : Int32) (fun (M31 : cM) =>
 Z (1 : Int32) M31)) ∧
 (¬ p2 = (15 : Int32) →
 Z (0 : Int32) M))))))))))))))))))))))))))))))))) ∧
 (p1 = (12 : Int32) →
 wp_X7_octetAt_5 M L (4 : Int32) (fun (r32 : Int32) =>
 (∃ K115 : Int32 → Prop, (∀ (v33 : Int32), K115 v33 →
 wp_X7_error_0 M L (4 : Int32) (0 : Int32) v33 (fun (M34 : cM) =>
 (∃ K134 : Prop, (K134  →
 ((v33 < 0 →
 Z (0 : Int32) M34) ∧
 (¬ v33 < 0 →
 Z (1 : Int32) M34))) ∧
 ((p2 = 0 →
 K134) ∧
 (¬ p2 = 0 →
 ((¬ p2 = (2 : Int32) →
 Z (0 : Int32) M34) ∧
 (p2 = (2 : Int32) →
 K134))))))) ∧
 (((2 : Int32) ≤ r32 →
 (((4 : Int32) ≤ r32 →
 ((¬ r32 = (8 : Int32) →
 ((¬ r32 = (9 : Int32) →
 (∃ K95 : Prop, (K95  →
 (∃ K114 : Prop, (K114  →
 K115 (-1 : Int32)) ∧
 ((r32 < (16 : Int32) →
 K114) ∧
 (¬ r32 < (16 : Int32) →
 (((20 : Int32) ≤ r32 →
 K114) ∧
 (¬ (20 : Int32) ≤ r32 →
 K115 (24 : Int32))))))) ∧
 ((r32 < (12 : Int32) →
 K95) ∧
 (¬ r32 < (12 : Int32) →
 (((16 : Int32) ≤ r32 →
 K95) ∧
 (¬ (16 : Int32) ≤ r32 →
 K115 (8 : Int32))))))) ∧
 (r32 = (9 : Int32) →
 K115 (6 : Int32)))) ∧
 (r32 = (8 : Int32) →
 K115 (7 : Int32)))) ∧
 (¬ (4 : Int32) ≤ r32 →
 K115 (4 : Int32)))) ∧
 (¬ (2 : Int32) ≤ r32 →
 K115 r32))))))) ∧
 (p1 = (11 : Int32) →
 wp_X7_error_0 M L (3 : Int32) p2 (0 : Int32) (fun (M46 : cM) =>
 Z (1 : Int32) M46)))

def wp_X7_mendInner_0 (M : cM) (L : cL) (p1 : Int32) (p2 : Int32) (p3 : Int32) (p4 : Int32) (p5 : Int32) (Z : cM → cL → Prop) : Prop :=
  ((p4 ≤ 0 →
 (∃ K21 : Int32 → Prop, (∀ (v2 : Int32), K21 v2 →
 ((¬ (M 0 35) = v2 →
 (∃ K57 : Prop, (K57  →
 wp_X7_sumAt M L (M 0 35) (fun (r4 : Int32) =>
 ((p2 < (r4 + (2 : Int32)) →
 Z M L) ∧
 (¬ p2 < (r4 + (2 : Int32)) →
 (∃ K97 : Prop, (K97  →
 wp_X7_adjust_0_5 M L (p1 + r4) (M 0 35) p5 (fun (M6 : cM) (L7 : cL) =>
 Z M6 L7)) ∧
 ((¬ (M 0 35) = (17 : Int32) →
 K97) ∧
 ((M 0 35) = (17 : Int32) →
 wp_X7_twoAt_5 M L (p1 + r4) (fun (r9 : Int32) =>
 ((r9 = 0 →
 Z M L) ∧
 (¬ r9 = 0 →
 K97)))))))))) ∧
 (((M 0 35) = (17 : Int32) →
 K57) ∧
 (¬ (M 0 35) = (17 : Int32) →
 ((¬ (M 0 35) = (6 : Int32) →
 Z M L) ∧
 ((M 0 35) = (6 : Int32) →
 K57)))))) ∧
 ((M 0 35) = v2 →
 wp_X7_echo_0_5 M L p1 p3 p5 (fun (M13 : cM) (L14 : cL) =>
 Z M13 L14)))) ∧
 ((p5 = 0 →
 K21 (58 : Int32)) ∧
 (¬ p5 = 0 →
 K21 (1 : Int32))))) ∧
 (¬ p4 ≤ 0 →
 Z M L))

def wp_X7_innerToSix_0 (M : cM) (L : cL) (p1 : Int32) (p2 : Int32) (Z : Int32 → cM → cL → Prop) : Prop :=
  ((p2 < (20 : Int32) →
 Z (0 : Int32) M L) ∧
 (¬ p2 < (20 : Int32) →
 wp_X7_octetAt_1 M L p1 (fun (r2 : Int32) =>
 (((r2 >>> ((4 : Int32) &&& 31)) = (4 : Int32) →
 wp_X7_header4_0 M L p1 (fun (M4 : cM) =>
 (((M4 0 31) < (20 : Int32) →
 Z (0 : Int32) M4 L) ∧
 (¬ (M4 0 31) < (20 : Int32) →
 ((p2 < (M4 0 31) →
 Z (0 : Int32) M4 L) ∧
 (¬ p2 < (M4 0 31) →
 (((M4 0 32) < (M4 0 31) →
 Z (0 : Int32) M4 L) ∧
 (¬ (M4 0 32) < (M4 0 31) →
 wp_X7_intAt_1 M4 L (p1 + (12 : Int32)) (fun (r8 : Int32) =>
 wp_X7_intAt_1 M4 L (p1 + (16 : Int32)) (fun (r9 : Int32) =>
 wp_X7_imagesOf_0 M4 L r8 r9 (fun (r10 : Int32) (M11 : cM) (L12 : cL) =>
 ((r10 = 0 →
 Z (0 : Int32) M11 L12) ∧
 (¬ r10 = 0 →
 wp_X7_isBarred4 M11 L12 (M11 0 35) (fun (r14 : Int32) =>
 ((r14 = 0 →
 (∃ K112 : Int32 → Prop, (∀ (v16 : Int32), K112 v16 →
 ∀ x17 : Int32, x17 = (v16 - (M11 0 31)) →
 (∃ K137 : Int32 → Prop, (∀ (v18 : Int32), K137 v18 →
 (∃ K189 : Prop, (K189  →
 (∃ K201 : Int32 → Prop, (∀ (v19 : Int32), K201 v19 →
 ∀ x20 : Int32, x20 = (M11 0 20) →
 wp_X7_more_0 M11 L12 v19 (fun (r21 : Int32) (M22 : cM) =>
 wp_X7_octetAt_1 M22 L12 (p1 + (1 : Int32)) (fun (r23 : Int32) =>
 wp_X7_octetAt_1 M22 L12 (p1 + (8 : Int32)) (fun (r24 : Int32) =>
 wp_X7_twoAt_1 M22 L12 (p1 + (4 : Int32)) (fun (r25 : Int32) =>
 wp_X7_head6_0 M22 L12 r21 r23 (((v19 - (40 : Int32)) + (M22 0 32)) - (M22 0 31)) r24 v18 (M22 0 33) (M22 0 34) r25 (fun (M26 : cM) =>
 ∃ (I282 : Int32 → cM → Prop) (m282 : Int32 → cM → Nat), I282 (0 : Int32) M26 ∧ ∀ (x27 : Int32) (M28 : cM), I282 x27 M28 →
 ((v19 ≤ x27 →
 ∀ M30 : cM, M30 = mu M28 0 20 x20 →
 ∃ (I324 : Int32 → cM → Prop) (m324 : Int32 → cM → Nat), I324 (0 : Int32) M30 ∧ ∀ (x31 : Int32) (M32 : cM), I324 x31 M32 →
 ((x17 ≤ x31 →
 ∀ M34 : cM, M34 = mu M32 0 24 (((8 : Int32) + v19) + x17) →
 wp_X7_mendInner_0 M34 L12 ((8 : Int32) + v19) x17 ((M34 0 32) - (M34 0 31)) (M34 0 33) (1 : Int32) (fun (M35 : cM) (L36 : cL) =>
 Z (1 : Int32) M35 L36)) ∧
 (¬ x17 ≤ x31 →
 (vp_in ((p1 + (M32 0 31)) + x31) 2400 ∧
 (vp_in (((8 : Int32) + v19) + x31) 5000 ∧
 ∀ M37 : cM, M37 = mu M32 5 (((8 : Int32) + v19) + x31).toNatClampNeg (vp_nar .byte (M32 1 ((p1 + (M32 0 31)) + x31).toNatClampNeg)) →
 ∀ x38 : Int32, x38 = (x31 + (1 : Int32)) →
 (I324 x38 M37 ∧ m324 x38 M37 < m324 x31 M32)))))) ∧
 (¬ v19 ≤ x27 →
 (vp_in (r21 + x27) 16000 ∧
 (vp_in ((8 : Int32) + x27) 5000 ∧
 ∀ M39 : cM, M39 = mu M28 5 ((8 : Int32) + x27).toNatClampNeg (vp_nar .byte (M28 3 (r21 + x27).toNatClampNeg)) →
 ∀ x40 : Int32, x40 = (x27 + (1 : Int32)) →
 (I282 x40 M39 ∧ m282 x40 M39 < m282 x27 M28))))))))))) ∧
 ((v18 = 0 →
 K201 (40 : Int32)) ∧
 (¬ v18 = 0 →
 K201 (48 : Int32))))) ∧
 ((¬ (M11 0 35) = (1 : Int32) →
 K189) ∧
 ((M11 0 35) = (1 : Int32) →
 ((¬ v18 = 0 →
 Z (0 : Int32) M11 L12) ∧
 (v18 = 0 →
 ((x17 < (4 : Int32) →
 Z (0 : Int32) M11 L12) ∧
 (¬ x17 < (4 : Int32) →
 (vp_in (p1 + (M11 0 31)) 2400 ∧
 (((M11 1 (p1 + (M11 0 31)).toNatClampNeg) = (8 : Int32) →
 K189) ∧
 (¬ (M11 1 (p1 + (M11 0 31)).toNatClampNeg) = (8 : Int32) →
 (vp_in (p1 + (M11 0 31)) 2400 ∧
 (((M11 1 (p1 + (M11 0 31)).toNatClampNeg) = 0 →
 K189) ∧
 (¬ (M11 1 (p1 + (M11 0 31)).toNatClampNeg) = 0 →
 Z (0 : Int32) M11 L12)))))))))))))) ∧
 ∃ K132 : Prop, (K132  →
 K137 (1 : Int32)) ∧
 ((¬ (M11 0 34) = 0 →
 K132) ∧
 ((M11 0 34) = 0 →
 (((M11 0 33) ≤ 0 →
 K137 (0 : Int32)) ∧
 (¬ (M11 0 33) ≤ 0 →
 K132)))))) ∧
 (((M11 0 32) ≤ p2 →
 K112 (M11 0 32)) ∧
 (¬ (M11 0 32) ≤ p2 →
 K112 p2)))) ∧
 (¬ r14 = 0 →
 Z (0 : Int32) M11 L12)))))))))))))))) ∧
 (¬ (r2 >>> ((4 : Int32) &&& 31)) = (4 : Int32) →
 Z (0 : Int32) M L)))))

def wp_X7_putInt_5 (M : cM) (L : cL) (p1 : Int32) (p2 : Int32) (Z : cM → Prop) : Prop :=
  wp_X7_putTwo_5 M L p1 ((p2.toUInt32 >>> ((16 : Int32).toUInt32 &&& Int32.toUInt32 31)).toInt32) (fun (M1 : cM) =>
 wp_X7_putTwo_5 M1 L (p1 + (2 : Int32)) p2 (fun (M2 : cM) =>
 Z M2))

def wp_X7_toSix_0 (M : cM) (L : cL) (p1 : Int32) (Z : Int32 → cM → cL → Prop) : Prop :=
  wp_X7_octetAt_5 M L (0 : Int32) (fun (r1 : Int32) =>
 (∃ K19 : Prop, (K19  →
 wp_X7_echo_0_5 M L (0 : Int32) p1 (1 : Int32) (fun (M2 : cM) (L3 : cL) =>
 Z (0 : Int32) M2 L3)) ∧
 ((r1 = (8 : Int32) →
 K19) ∧
 (¬ r1 = (8 : Int32) →
 ((¬ r1 = 0 →
 (∃ K52 : Prop, (K52  →
 ∀ L6 : cL, L6 = ml L 0 18 (0 : Int64) →
 wp_X7_words_0_5 M L6 (0 : Int32) p1 (fun (L7 : cL) =>
 (((lg_cmp (L7 0 18) (65535 : Int64)) = 0 →
 wp_X7_octetAt_5 M L7 (1 : Int32) (fun (r9 : Int32) =>
 wp_X7_errorToSix_0 M L7 r1 r9 p1 (fun (r10 : Int32) (M11 : cM) =>
 ((¬ r10 = 0 →
 ∀ x13 : Int64, x13 = (L7 0 27) →
 ∀ x14 : Int64, x14 = (L7 0 28) →
 ∀ x15 : Int64, x15 = (L7 0 29) →
 ∀ x16 : Int64, x16 = (L7 0 30) →
 ∀ x17 : Int32, x17 = (M11 0 35) →
 wp_X7_innerToSix_0 M11 L7 ((M11 0 31) + (8 : Int32)) (p1 - (8 : Int32)) (fun (r18 : Int32) (M19 : cM) (L20 : cL) =>
 ∀ L21 : cL, L21 = ml L20 0 27 x13 →
 ∀ L22 : cL, L22 = ml L21 0 28 x14 →
 ∀ L23 : cL, L23 = ml L22 0 29 x15 →
 ∀ L24 : cL, L24 = ml L23 0 30 x16 →
 ∀ M25 : cM, M25 = mu M19 0 35 x17 →
 ((¬ r18 = 0 →
 wp_X7_header4_0 M25 L24 (0 : Int32) (fun (M27 : cM) =>
 ∀ M28 : cM, M28 = mu M27 0 34 (0 : Int32) →
 ∀ M29 : cM, M29 = mu M28 0 33 (0 : Int32) →
 (∃ K215 : cM → Prop, (∀ (M30 : cM), K215 M30 →
 wp_X7_putInt_5 M30 L24 (0 : Int32) (((M30 0 37) <<< ((24 : Int32) &&& 31)) ||| ((M30 0 38) <<< ((16 : Int32) &&& 31))) (fun (M31 : cM) =>
 wp_X7_putInt_5 M31 L24 (4 : Int32) (M31 0 39) (fun (M32 : cM) =>
 ∀ L33 : cL, L33 = ml L24 0 18 (0 : Int64) →
 wp_X7_pseudo_0 M32 L33 (M32 0 24) (58 : Int32) (0 : Int32) (fun (L34 : cL) =>
 wp_X7_words_0_5 M32 L34 (0 : Int32) (M32 0 24) (fun (L35 : cL) =>
 wp_X7_checksum_0 M32 L35  (fun (r36 : Int32) =>
 wp_X7_putTwo_5 M32 L35 (2 : Int32) r36 (fun (M37 : cM) =>
 Z (0 : Int32) M37 L35))))))) ∧
 (((M29 0 24) ≤ (1240 : Int32) →
 K215 M29) ∧
 (¬ (M29 0 24) ≤ (1240 : Int32) →
 ∀ M39 : cM, M39 = mu M29 0 24 (1240 : Int32) →
 K215 M39))))) ∧
 (r18 = 0 →
 Z (8 : Int32) M25 L24)))) ∧
 (r10 = 0 →
 Z (8 : Int32) M11 L7))))) ∧
 (¬ (lg_cmp (L7 0 18) (65535 : Int64)) = 0 →
 Z (4 : Int32) M L7)))) ∧
 ((r1 = (3 : Int32) →
 K52) ∧
 (¬ r1 = (3 : Int32) →
 ((r1 = (11 : Int32) →
 K52) ∧
 (¬ r1 = (11 : Int32) →
 ((r1 = (12 : Int32) →
 K52) ∧
 (¬ r1 = (12 : Int32) →
 Z (6 : Int32) M L)))))))) ∧
 (r1 = 0 →
 K19))))))

def wp_X7_carried_0 (M : cM) (L : cL) (p1 : Int32) (p2 : Int32) (p3 : Int32) (p4 : Int32) (Z : Int32 → Prop) : Prop :=
  (∃ K32 : Int32 → Prop, (∀ (v1 : Int32), K32 v1 →
 ((¬ v1 = 0 →
 ((p2 < (8 : Int32) →
 Z (4 : Int32)) ∧
 (¬ p2 < (8 : Int32) →
 (∃ K64 : Prop, (K64  →
 ((¬ (M 0 35) = (17 : Int32) →
 Z (0 : Int32)) ∧
 ((M 0 35) = (17 : Int32) →
 ((¬ p3 = 0 →
 Z (0 : Int32)) ∧
 (p3 = 0 →
 wp_X7_twoAt_1 M L (p1 + (4 : Int32)) (fun (r6 : Int32) =>
 ((r6 = p2 →
 Z (0 : Int32)) ∧
 (¬ r6 = p2 →
 Z (4 : Int32))))))))) ∧
 ((¬ (M 0 35) = (6 : Int32) →
 K64) ∧
 ((M 0 35) = (6 : Int32) →
 (((20 : Int32) ≤ p2 →
 K64) ∧
 (¬ (20 : Int32) ≤ p2 →
 Z (4 : Int32))))))))) ∧
 (v1 = 0 →
 Z (0 : Int32)))) ∧
 ∃ K27 : Prop, (K27  →
 K32 (1 : Int32)) ∧
 (((M 0 35) = (17 : Int32) →
 K27) ∧
 (¬ (M 0 35) = (17 : Int32) →
 (((M 0 35) = (6 : Int32) →
 K27) ∧
 (¬ (M 0 35) = (6 : Int32) →
 ((¬ (M 0 35) = p4 →
 K32 (0 : Int32)) ∧
 ((M 0 35) = p4 →
 K27)))))))

def wp_X7_four__0 (M : cM) (L : cL)  (Z : Int32 → cM → cL → Prop) : Prop :=
  wp_X7_begin_0 M L  (fun (M1 : cM) =>
 ∀ x2 : Int32, x2 = (M1 0 2) →
 ∀ M3 : cM, M3 = mu M1 0 2 (0 : Int32) →
 wp_X7_isFormed4_0 M3 L x2 (fun (r4 : Int32) (M5 : cM) (L6 : cL) =>
 ((¬ r4 = 0 →
 wp_X7_intAt_1 M5 L6 (12 : Int32) (fun (r8 : Int32) =>
 wp_X7_intAt_1 M5 L6 (16 : Int32) (fun (r9 : Int32) =>
 wp_X7_imagesOf_0 M5 L6 r8 r9 (fun (r10 : Int32) (M11 : cM) (L12 : cL) =>
 wp_X7_isMappable_0 M11 L12 (M11 0 25) (fun (r13 : Int32) =>
 ((¬ r13 = 0 →
 ((¬ r10 = 0 →
 (((M11 0 36) = 0 →
 wp_X7_octetAt_1 M11 L12 (8 : Int32) (fun (r17 : Int32) =>
 (((2 : Int32) ≤ r17 →
 wp_X7_isBarred4 M11 L12 (M11 0 35) (fun (r19 : Int32) =>
 ((r19 = 0 →
 (∃ K162 : Prop, (K162  →
 ∀ x21 : Int32, x21 = ((M11 0 32) - (M11 0 31)) →
 (∃ K199 : Int32 → Prop, (∀ (v22 : Int32), K199 v22 →
 ((v22 ≤ 0 →
 (∃ K251 : Int32 → Prop, (∀ (v24 : Int32), K251 v24 →
 (∃ K279 : Prop, (K279  →
 wp_X7_carry_0_1 M11 L12 (M11 0 31) x21 (fun (M25 : cM) =>
 (∃ K431 : cM → cL → Prop, (∀ (M26 : cM) (L27 : cL), K431 M26 L27 →
 (∃ K450 : Int32 → Prop, (∀ (v28 : Int32), K450 v28 →
 (∃ K465 : Int32 → Prop, (∀ (v29 : Int32), K465 v29 →
 ∀ x30 : Int32, x30 = (((40 : Int32) + v29) + (M26 0 24)) →
 (vp_in (6 : Int32) 2400 ∧
 (∃ K491 : Int32 → Prop, (∀ (v31 : Int32), K491 v31 →
 (∃ K521 : Prop, (K521  →
 (∃ K539 : Int32 → Prop, (∀ (v32 : Int32), K539 v32 →
 (∃ K556 : Int32 → Prop, (∀ (v33 : Int32), K556 v33 →
 ∃ (I561 : Int32 → cM → Prop) (m561 : Int32 → cM → Nat), I561 (0 : Int32) M26 ∧ ∀ (x34 : Int32) (M35 : cM), I561 x34 M35 →
 (∃ K585 : Int32 → Prop, (∀ (v36 : Int32), K585 v36 →
 (∃ K606 : Int32 → Prop, (∀ (v37 : Int32), K606 v37 →
 wp_X7_more_0 M35 L27 (((40 : Int32) + v37) + v36) (fun (r38 : Int32) (M39 : cM) =>
 wp_X7_octetAt_1 M39 L27 (1 : Int32) (fun (r40 : Int32) =>
 (∃ K654 : Int32 → Prop, (∀ (v41 : Int32), K654 v41 →
 (∃ K685 : Int32 → Prop, (∀ (v42 : Int32), K685 v42 →
 wp_X7_twoAt_1 M39 L27 (4 : Int32) (fun (r43 : Int32) =>
 wp_X7_head6_0 M39 L27 r38 r40 (((M39 0 20) - r38) - (40 : Int32)) (r17 - (1 : Int32)) v41 ((M39 0 33) + x34) v42 r43 (fun (M44 : cM) =>
 ∃ (I699 : Int32 → cM → Prop) (m699 : Int32 → cM → Nat), I699 (0 : Int32) M44 ∧ ∀ (x45 : Int32) (M46 : cM), I699 x45 M46 →
 ((v36 ≤ x45 →
 wp_X7_isPart_0 M46 L27  (fun (M48 : cM) =>
 ∀ x49 : Int32, x49 = (x34 + v36) →
 ((x49 < (M48 0 24) →
 (I561 x49 M48 ∧ m561 x49 M48 < m561 x34 M35)) ∧
 (¬ x49 < (M48 0 24) →
 wp_X7_tell_0 M48 L27 (0 : Int32) (fun (r51 : Int32) (M52 : cM) =>
 Z r51 M52 L27))))) ∧
 (¬ v36 ≤ x45 →
 (vp_in (x34 + x45) 5000 ∧
 (vp_in (((M46 0 20) - v36) + x45) 16000 ∧
 ∀ M53 : cM, M53 = mu M46 3 (((M46 0 20) - v36) + x45).toNatClampNeg (vp_nar .byte (M46 5 (x34 + x45).toNatClampNeg)) →
 ∀ x54 : Int32, x54 = (x45 + (1 : Int32)) →
 (I699 x54 M53 ∧ m699 x54 M53 < m699 x45 M46)))))))) ∧
 ∃ K680 : Prop, (K680  →
 K685 (1 : Int32)) ∧
 (((x34 + v36) < (M39 0 24) →
 K680) ∧
 (¬ (x34 + v36) < (M39 0 24) →
 (((M39 0 34) = 0 →
 K685 (0 : Int32)) ∧
 (¬ (M39 0 34) = 0 →
 K680)))))) ∧
 ∃ K649 : Prop, (K649  →
 K654 (1 : Int32)) ∧
 ((¬ v28 = 0 →
 K649) ∧
 (v28 = 0 →
 ((v32 = 0 →
 K654 (0 : Int32)) ∧
 (¬ v32 = 0 →
 K649)))))))) ∧
 ∃ K600 : Prop, (K600  →
 K606 (8 : Int32)) ∧
 ((¬ v28 = 0 →
 K600) ∧
 (v28 = 0 →
 ((v32 = 0 →
 K606 (0 : Int32)) ∧
 (¬ v32 = 0 →
 K600)))))) ∧
 ((v33 ≤ ((M35 0 24) - x34) →
 K585 v33) ∧
 (¬ v33 ≤ ((M35 0 24) - x34) →
 K585 ((M35 0 24) - x34))))) ∧
 ((v32 = 0 →
 K556 (M26 0 24)) ∧
 (¬ v32 = 0 →
 K556 (1232 : Int32))))) ∧
 ∃ K538 : Prop, (K538  →
 K539 (0 : Int32)) ∧
 ((¬ v31 = 0 →
 K538) ∧
 (v31 = 0 →
 ((x30 ≤ (1280 : Int32) →
 K538) ∧
 (¬ x30 ≤ (1280 : Int32) →
 K539 (1 : Int32))))))) ∧
 ((v31 = 0 →
 K521) ∧
 (¬ v31 = 0 →
 ((x30 ≤ (M26 0 10) →
 K521) ∧
 (¬ x30 ≤ (M26 0 10) →
 wp_X7_answer4_0 M26 L27 (3 : Int32) (4 : Int32) ((M26 0 10) - (20 : Int32)) (fun (r67 : Int32) (M68 : cM) (L69 : cL) =>
 Z r67 M68 L69))))))) ∧
 ((((M26 1 (6 : Int32).toNatClampNeg) &&& (64 : Int32)) = 0 →
 K491 (0 : Int32)) ∧
 (¬ ((M26 1 (6 : Int32).toNatClampNeg) &&& (64 : Int32)) = 0 →
 K491 (1 : Int32)))))) ∧
 ((v28 = 0 →
 K465 (0 : Int32)) ∧
 (¬ v28 = 0 →
 K465 (8 : Int32))))) ∧
 ∃ K445 : Prop, (K445  →
 K450 (1 : Int32)) ∧
 ((¬ (M26 0 34) = 0 →
 K445) ∧
 ((M26 0 34) = 0 →
 (((M26 0 33) ≤ 0 →
 K450 (0 : Int32)) ∧
 (¬ (M26 0 33) ≤ 0 →
 K445)))))) ∧
 ((¬ (M25 0 35) = (1 : Int32) →
 ((¬ (M25 0 33) = 0 →
 K431 M25 L12) ∧
 ((M25 0 33) = 0 →
 (∃ K349 : Prop, (K349  →
 ((¬ v24 = 0 →
 ∀ L77 : cL, L77 = ml L12 0 18 (0 : Int64) →
 wp_X7_pseudo_0 M25 L77 x21 (17 : Int32) (0 : Int32) (fun (L78 : cL) =>
 wp_X7_words_0_5 M25 L78 (0 : Int32) (M25 0 24) (fun (L79 : cL) =>
 wp_X7_checksum_0 M25 L79  (fun (r80 : Int32) =>
 (∃ K428 : Int32 → Prop, (∀ (v81 : Int32), K428 v81 →
 wp_X7_putTwo_5 M25 L79 (6 : Int32) v81 (fun (M82 : cM) =>
 K431 M82 L79)) ∧
 ((¬ r80 = 0 →
 K428 r80) ∧
 (r80 = 0 →
 K428 (65535 : Int32)))))))) ∧
 (v24 = 0 →
 wp_X7_sumAt M25 L12 (M25 0 35) (fun (r84 : Int32) =>
 wp_X7_adjust_0_5 M25 L12 r84 (M25 0 35) (1 : Int32) (fun (M85 : cM) (L86 : cL) =>
 K431 M85 L86))))) ∧
 (((M25 0 35) = (17 : Int32) →
 K349) ∧
 (¬ (M25 0 35) = (17 : Int32) →
 ((¬ (M25 0 35) = (6 : Int32) →
 K431 M25 L12) ∧
 ((M25 0 35) = (6 : Int32) →
 K349)))))))) ∧
 ((M25 0 35) = (1 : Int32) →
 wp_X7_toSix_0 M25 L12 x21 (fun (r89 : Int32) (M90 : cM) (L91 : cL) =>
 ((r89 ≤ 0 →
 K431 M90 L91) ∧
 (¬ r89 ≤ 0 →
 wp_X7_tell_0 M90 L91 r89 (fun (r93 : Int32) (M94 : cM) =>
 Z r93 M94 L91))))))))) ∧
 ((v24 = 0 →
 K279) ∧
 (¬ v24 = 0 →
 (∃ K272 : Prop, (K272  →
 wp_X7_tell_0 M11 L12 (7 : Int32) (fun (r96 : Int32) (M97 : cM) =>
 Z r96 M97 L12)) ∧
 ((¬ (M11 0 34) = 0 →
 K272) ∧
 ((M11 0 34) = 0 →
 ((¬ (M11 0 12) = 0 →
 K279) ∧
 ((M11 0 12) = 0 →
 K272))))))))) ∧
 ∃ K250 : Prop, (K250  →
 K251 (0 : Int32)) ∧
 ((¬ (M11 0 35) = (17 : Int32) →
 K250) ∧
 ((M11 0 35) = (17 : Int32) →
 ((¬ (M11 0 33) = 0 →
 K250) ∧
 ((M11 0 33) = 0 →
 wp_X7_twoAt_1 M11 L12 ((M11 0 31) + (6 : Int32)) (fun (r102 : Int32) =>
 ((¬ r102 = 0 →
 K250) ∧
 (r102 = 0 →
 K251 (1 : Int32)))))))))) ∧
 (¬ v22 ≤ 0 →
 wp_X7_tell_0 M11 L12 v22 (fun (r104 : Int32) (M105 : cM) =>
 Z r104 M105 L12)))) ∧
 ((¬ (M11 0 33) = 0 →
 K199 (0 : Int32)) ∧
 ((M11 0 33) = 0 →
 wp_X7_carried_0 M11 L12 (M11 0 31) x21 (M11 0 34) (1 : Int32) (fun (r107 : Int32) =>
 K199 r107))))) ∧
 ((¬ (M11 0 35) = (1 : Int32) →
 K162) ∧
 ((M11 0 35) = (1 : Int32) →
 (∃ K156 : Prop, (K156  →
 wp_X7_tell_0 M11 L12 (5 : Int32) (fun (r109 : Int32) (M110 : cM) =>
 Z r109 M110 L12)) ∧
 ((¬ (M11 0 34) = 0 →
 K156) ∧
 ((M11 0 34) = 0 →
 (((M11 0 33) ≤ 0 →
 K162) ∧
 (¬ (M11 0 33) ≤ 0 →
 K156))))))))) ∧
 (¬ r19 = 0 →
 wp_X7_tell_0 M11 L12 (6 : Int32) (fun (r113 : Int32) (M114 : cM) =>
 Z r113 M114 L12))))) ∧
 (¬ (2 : Int32) ≤ r17 →
 wp_X7_answer4_0 M11 L12 (11 : Int32) (0 : Int32) (0 : Int32) (fun (r115 : Int32) (M116 : cM) (L117 : cL) =>
 Z r115 M116 L117))))) ∧
 (¬ (M11 0 36) = 0 →
 wp_X7_answer4_0 M11 L12 (3 : Int32) (5 : Int32) (0 : Int32) (fun (r118 : Int32) (M119 : cM) (L120 : cL) =>
 Z r118 M119 L120)))) ∧
 (r10 = 0 →
 wp_X7_tell_0 M11 L12 (3 : Int32) (fun (r121 : Int32) (M122 : cM) =>
 Z r121 M122 L12)))) ∧
 (r13 = 0 →
 wp_X7_tell_0 M11 L12 (2 : Int32) (fun (r123 : Int32) (M124 : cM) =>
 Z r123 M124 L12)))))))) ∧
 (r4 = 0 →
 wp_X7_tell_0 M5 L6 (1 : Int32) (fun (r125 : Int32) (M126 : cM) =>
 Z r125 M126 L6)))))

def wp_X7_headers_0 (M : cM) (L : cL) (p1 : Int32) (p2 : Int32) (Z : Int32 → cM → Prop) : Prop :=
  wp_X7_octetAt_1 M L (p1 + (6 : Int32)) (fun (r1 : Int32) =>
 ∀ x2 : Int32, x2 = (p1 + (40 : Int32)) →
 ∀ M3 : cM, M3 = mu M 0 41 (-1 : Int32) →
 ∀ M4 : cM, M4 = mu M3 0 42 (-1 : Int32) →
 ∀ M5 : cM, M5 = mu M4 0 33 (0 : Int32) →
 ∀ M6 : cM, M6 = mu M5 0 34 (0 : Int32) →
 ∃ (I38 : Int32 → Int32 → cM → Prop) (m38 : Int32 → Int32 → cM → Nat), I38 r1 x2 M6 ∧ ∀ (x7 : Int32) (x8 : Int32) (M9 : cM), I38 x7 x8 M9 →
 (∃ K239 : Prop, (K239  →
 ∀ M10 : cM, M10 = mu M9 0 35 x7 →
 ∀ M11 : cM, M11 = mu M10 0 40 x8 →
 Z (1 : Int32) M11) ∧
 ((¬ (M9 0 33) = 0 →
 K239) ∧
 ((M9 0 33) = 0 →
 (∃ K67 : Prop, (K67  →
 (((x8 + (8 : Int32)) ≤ p2 →
 (∃ K106 : Int32 → Prop, (∀ (v14 : Int32), K106 v14 →
 ((p2 < (x8 + v14) →
 Z (0 : Int32) M9) ∧
 (¬ p2 < (x8 + v14) →
 (∃ K132 : Prop, (K132  →
 (∃ K165 : cM → Prop, (∀ (M16 : cM), K165 M16 →
 (∃ K219 : cM → Prop, (∀ (M17 : cM), K219 M17 →
 wp_X7_octetAt_1 M17 L x8 (fun (r18 : Int32) =>
 ∀ x19 : Int32, x19 = (x8 + v14) →
 (I38 r18 x19 M17 ∧ m38 r18 x19 M17 < m38 x7 x8 M9))) ∧
 ((¬ x7 = (44 : Int32) →
 K219 M16) ∧
 (x7 = (44 : Int32) →
 ∀ M21 : cM, M21 = mu M16 0 41 x8 →
 wp_X7_twoAt_1 M21 L (x8 + (2 : Int32)) (fun (r22 : Int32) =>
 ∀ M23 : cM, M23 = mu M21 0 33 (r22 &&& (65528 : Int32)) →
 (vp_in (x8 + (3 : Int32)) 2400 ∧
 (∃ K216 : Int32 → Prop, (∀ (v24 : Int32), K216 v24 →
 (isB v24 ∧
 ∀ M25 : cM, M25 = mu M23 0 34 v24 →
 K219 M25)) ∧
 ((((M23 1 (x8 + (3 : Int32)).toNatClampNeg) &&& (1 : Int32)) = 0 →
 K216 (0 : Int32)) ∧
 (¬ ((M23 1 (x8 + (3 : Int32)).toNatClampNeg) &&& (1 : Int32)) = 0 →
 K216 (1 : Int32)))))))))) ∧
 ((¬ x7 = (43 : Int32) →
 K165 M9) ∧
 (x7 = (43 : Int32) →
 (vp_in (x8 + (3 : Int32)) 2400 ∧
 (((M9 1 (x8 + (3 : Int32)).toNatClampNeg) = 0 →
 K165 M9) ∧
 (¬ (M9 1 (x8 + (3 : Int32)).toNatClampNeg) = 0 →
 ((0 ≤ (M9 0 42) →
 K165 M9) ∧
 (¬ 0 ≤ (M9 0 42) →
 ∀ M30 : cM, M30 = mu M9 0 42 (x8 + (3 : Int32)) →
 K165 M30))))))))) ∧
 ((¬ x7 = (44 : Int32) →
 K132) ∧
 (x7 = (44 : Int32) →
 (((M9 0 41) < 0 →
 K132) ∧
 (¬ (M9 0 41) < 0 →
 Z (0 : Int32) M9)))))))) ∧
 ((¬ x7 = (44 : Int32) →
 wp_X7_octetAt_1 M9 L (x8 + (1 : Int32)) (fun (r34 : Int32) =>
 K106 ((8 : Int32) + ((8 : Int32) * r34)))) ∧
 (x7 = (44 : Int32) →
 K106 (8 : Int32))))) ∧
 (¬ (x8 + (8 : Int32)) ≤ p2 →
 Z (0 : Int32) M9))) ∧
 ((x7 = 0 →
 K67) ∧
 (¬ x7 = 0 →
 ((x7 = (43 : Int32) →
 K67) ∧
 (¬ x7 = (43 : Int32) →
 ((x7 = (60 : Int32) →
 K67) ∧
 (¬ x7 = (60 : Int32) →
 ((¬ x7 = (44 : Int32) →
 K239) ∧
 (x7 = (44 : Int32) →
 K67)))))))))))))

def wp_X7_isFormed6_0 (M : cM) (L : cL) (p1 : Int32) (Z : Int32 → cM → Prop) : Prop :=
  ((p1 < (40 : Int32) →
 Z (0 : Int32) M) ∧
 (¬ p1 < (40 : Int32) →
 wp_X7_octetAt_1 M L (0 : Int32) (fun (r2 : Int32) =>
 (((r2 >>> ((4 : Int32) &&& 31)) = (6 : Int32) →
 wp_X7_twoAt_1 M L (4 : Int32) (fun (r4 : Int32) =>
 ∀ M5 : cM, M5 = mu M 0 43 r4 →
 (((p1 - (40 : Int32)) < (M5 0 43) →
 Z (0 : Int32) M5) ∧
 (¬ (p1 - (40 : Int32)) < (M5 0 43) →
 wp_X7_headers_0 M5 L (0 : Int32) ((40 : Int32) + (M5 0 43)) (fun (r7 : Int32) (M8 : cM) =>
 ((¬ r7 = 0 →
 ∀ x10 : Int32, x10 = (((40 : Int32) + (M8 0 43)) - (M8 0 40)) →
 (((M8 0 41) < 0 →
 Z (1 : Int32) M8) ∧
 (¬ (M8 0 41) < 0 →
 (∃ K97 : Prop, (K97  →
 (((65535 : Int32) < ((M8 0 33) + x10) →
 Z (0 : Int32) M8) ∧
 (¬ (65535 : Int32) < ((M8 0 33) + x10) →
 Z (1 : Int32) M8))) ∧
 (((M8 0 34) = 0 →
 K97) ∧
 (¬ (M8 0 34) = 0 →
 ((¬ (x10 - x10 / (8 : Int32) * (8 : Int32)) = 0 →
 Z (0 : Int32) M8) ∧
 ((x10 - x10 / (8 : Int32) * (8 : Int32)) = 0 →
 K97)))))))) ∧
 (r7 = 0 →
 Z (0 : Int32) M8))))))) ∧
 (¬ (r2 >>> ((4 : Int32) &&& 31)) = (6 : Int32) →
 Z (0 : Int32) M)))))

def wp_X7_longAt_1 (M : cM) (L : cL) (p1 : Int32) (Z : Int64 → Prop) : Prop :=
  wp_X7_intAt_1 M L p1 (fun (r1 : Int32) =>
 wp_X7_intAt_1 M L (p1 + (4 : Int32)) (fun (r2 : Int32) =>
 Z (((r1.toInt64) <<< ((32 : Int32).toInt64 &&& 63)) ||| ((r2.toInt64) &&& (4294967295 : Int64)))))

def wp_X7_addressesOf_0_1 (M : cM) (L : cL) (p2 : Int32) (Z : Int32 → cM → cL → Prop) : Prop :=
  wp_X7_longAt_1 M L (p2 + (8 : Int32)) (fun (r1 : Int64) =>
 ∀ L2 : cL, L2 = ml L 0 27 r1 →
 wp_X7_longAt_1 M L2 (p2 + (16 : Int32)) (fun (r3 : Int64) =>
 ∀ L4 : cL, L4 = ml L2 0 28 r3 →
 wp_X7_longAt_1 M L4 (p2 + (24 : Int32)) (fun (r5 : Int64) =>
 ∀ L6 : cL, L6 = ml L4 0 29 r5 →
 wp_X7_longAt_1 M L6 (p2 + (32 : Int32)) (fun (r7 : Int64) =>
 ∀ L8 : cL, L8 = ml L6 0 30 r7 →
 wp_X7_isImage_0 M L8 (L8 0 27) (L8 0 28) (fun (r9 : Int32) (M10 : cM) (L11 : cL) =>
 ∀ M12 : cM, M12 = mu M10 0 25 (M10 0 17) →
 wp_X7_isImage_0 M12 L11 (L11 0 29) (L11 0 30) (fun (r13 : Int32) (M14 : cM) (L15 : cL) =>
 ∀ M16 : cM, M16 = mu M14 0 26 (M14 0 17) →
 ((r9 = 0 →
 Z (0 : Int32) M16 L15) ∧
 (¬ r9 = 0 →
 ((r13 = 0 →
 Z (0 : Int32) M16 L15) ∧
 (¬ r13 = 0 →
 Z (1 : Int32) M16 L15))))))))))

def wp_X7_isBarred6 (M : cM) (L : cL) (p0 : Int32) (Z : Int32 → Prop) : Prop :=
  ((p0 = 0 →
 Z (1 : Int32)) ∧
 (¬ p0 = 0 →
 ((p0 = (1 : Int32) →
 Z (1 : Int32)) ∧
 (¬ p0 = (1 : Int32) →
 ((p0 = (2 : Int32) →
 Z (1 : Int32)) ∧
 (¬ p0 = (2 : Int32) →
 ((p0 = (43 : Int32) →
 Z (1 : Int32)) ∧
 (¬ p0 = (43 : Int32) →
 ((p0 = (44 : Int32) →
 Z (1 : Int32)) ∧
 (¬ p0 = (44 : Int32) →
 ((p0 = (59 : Int32) →
 Z (1 : Int32)) ∧
 (¬ p0 = (59 : Int32) →
 ((¬ p0 = (60 : Int32) →
 Z (0 : Int32)) ∧
 (p0 = (60 : Int32) →
 Z (1 : Int32)))))))))))))))

def wp_X7_class6_0 (M : cM) (L : cL) (p1 : Int32) (Z : Int32 → Prop) : Prop :=
  wp_X7_intAt_1 M L p1 (fun (r1 : Int32) =>
 Z ((r1 >>> ((20 : Int32) &&& 31)) &&& (255 : Int32)))

def wp_X7_head4_0 (M : cM) (L : cL) (p1 : Int32) (p2 : Int32) (p3 : Int32) (p4 : Int32) (p5 : Int32) (p6 : Int32) (p7 : Int32) (p8 : Int32) (Z : cM → cL → Prop) : Prop :=
  (vp_in p1 16000 ∧
 ∀ M1 : cM, M1 = mu M 3 p1.toNatClampNeg (vp_nar .byte (69 : Int32)) →
 (∃ K27 : Int32 → Prop, (∀ (v2 : Int32), K27 v2 →
 (vp_in (p1 + (1 : Int32)) 16000 ∧
 ∀ M3 : cM, M3 = mu M1 3 (p1 + (1 : Int32)).toNatClampNeg (vp_nar .byte (v2.toInt8.toInt32)) →
 wp_X7_putTwo_3 M3 L (p1 + (2 : Int32)) p3 (fun (M4 : cM) =>
 wp_X7_putTwo_3 M4 L (p1 + (4 : Int32)) p4 (fun (M5 : cM) =>
 (∃ K72 : Int32 → Prop, (∀ (v6 : Int32), K72 v6 →
 (∃ K84 : Int32 → Prop, (∀ (v7 : Int32), K84 v7 →
 wp_X7_putTwo_3 M5 L (p1 + (6 : Int32)) ((v6 ||| v7) ||| (p6 / (8 : Int32))) (fun (M8 : cM) =>
 (vp_in (p1 + (8 : Int32)) 16000 ∧
 ∀ M9 : cM, M9 = mu M8 3 (p1 + (8 : Int32)).toNatClampNeg (vp_nar .byte (p8.toInt8.toInt32)) →
 (∃ K131 : Int32 → Prop, (∀ (v10 : Int32), K131 v10 →
 (vp_in (p1 + (9 : Int32)) 16000 ∧
 ∀ M11 : cM, M11 = mu M9 3 (p1 + (9 : Int32)).toNatClampNeg (vp_nar .byte (v10.toInt8.toInt32)) →
 wp_X7_putInt_3 M11 L (p1 + (12 : Int32)) (M11 0 25) (fun (M12 : cM) =>
 wp_X7_putInt_3 M12 L (p1 + (16 : Int32)) (M12 0 26) (fun (M13 : cM) =>
 wp_X7_headerSum_0 M13 L p1 (fun (M14 : cM) (L15 : cL) =>
 Z M14 L15))))) ∧
 ((¬ (M9 0 35) = (58 : Int32) →
 K131 (M9 0 35)) ∧
 ((M9 0 35) = (58 : Int32) →
 K131 (1 : Int32))))))) ∧
 ((p7 = 0 →
 K84 (0 : Int32)) ∧
 (¬ p7 = 0 →
 K84 (8192 : Int32))))) ∧
 ((p5 = 0 →
 K72 (0 : Int32)) ∧
 (¬ p5 = 0 →
 K72 (16384 : Int32)))))))) ∧
 (((M1 0 11) = 0 →
 K27 (0 : Int32)) ∧
 (¬ (M1 0 11) = 0 →
 K27 p2))))

def wp_X7_answer6_0 (M : cM) (L : cL) (p1 : Int32) (p2 : Int32) (p3 : Int32) (Z : Int32 → cM → cL → Prop) : Prop :=
  (∃ K69 : Int32 → Prop, (∀ (v1 : Int32), K69 v1 →
 ((v1 = 0 →
 (∃ K109 : Int32 → Prop, (∀ (v3 : Int32), K109 v3 →
 wp_X7_more_0 M L ((48 : Int32) + v3) (fun (r4 : Int32) (M5 : cM) =>
 (vp_in r4 16000 ∧
 ∀ M6 : cM, M6 = mu M5 3 r4.toNatClampNeg (vp_nar .byte (96 : Int32)) →
 wp_X7_putTwo_3 M6 L (r4 + (4 : Int32)) ((8 : Int32) + v3) (fun (M7 : cM) =>
 (vp_in (r4 + (6 : Int32)) 16000 ∧
 ∀ M8 : cM, M8 = mu M7 3 (r4 + (6 : Int32)).toNatClampNeg (vp_nar .byte (58 : Int32)) →
 (vp_in (r4 + (7 : Int32)) 16000 ∧
 ∀ M9 : cM, M9 = mu M8 3 (r4 + (7 : Int32)).toNatClampNeg (vp_nar .byte (64 : Int32)) →
 wp_X7_putLong_3 M9 L (r4 + (8 : Int32)) (L 0 7) (fun (M10 : cM) =>
 wp_X7_putLong_3 M10 L (r4 + (16 : Int32)) (L 0 8) (fun (M11 : cM) =>
 wp_X7_longAt_1 M11 L (8 : Int32) (fun (r12 : Int64) =>
 wp_X7_putLong_3 M11 L (r4 + (24 : Int32)) r12 (fun (M13 : cM) =>
 wp_X7_longAt_1 M13 L (16 : Int32) (fun (r14 : Int64) =>
 wp_X7_putLong_3 M13 L (r4 + (32 : Int32)) r14 (fun (M15 : cM) =>
 (vp_in (r4 + (40 : Int32)) 16000 ∧
 ∀ M16 : cM, M16 = mu M15 3 (r4 + (40 : Int32)).toNatClampNeg (vp_nar .byte (p1.toInt8.toInt32)) →
 (vp_in (r4 + (41 : Int32)) 16000 ∧
 ∀ M17 : cM, M17 = mu M16 3 (r4 + (41 : Int32)).toNatClampNeg (vp_nar .byte (p2.toInt8.toInt32)) →
 wp_X7_putInt_3 M17 L (r4 + (44 : Int32)) p3 (fun (M18 : cM) =>
 ∃ (I285 : Int32 → cM → Prop) (m285 : Int32 → cM → Nat), I285 (0 : Int32) M18 ∧ ∀ (x19 : Int32) (M20 : cM), I285 x19 M20 →
 ((v3 ≤ x19 →
 ∀ L22 : cL, L22 = ml L 0 18 (0 : Int64) →
 wp_X7_words_0_3 M20 L22 (r4 + (8 : Int32)) (r4 + (40 : Int32)) (fun (L23 : cL) =>
 wp_X7_ints_0 M20 L23 ((8 : Int32) + v3) (0 : Int32) (fun (L24 : cL) =>
 wp_X7_ints_0 M20 L24 (58 : Int32) (0 : Int32) (fun (L25 : cL) =>
 wp_X7_words_0_3 M20 L25 (r4 + (40 : Int32)) (M20 0 20) (fun (L26 : cL) =>
 wp_X7_checksum_0 M20 L26  (fun (r27 : Int32) =>
 wp_X7_putTwo_3 M20 L26 (r4 + (42 : Int32)) r27 (fun (M28 : cM) =>
 wp_X7_isPart_0 M28 L26  (fun (M29 : cM) =>
 wp_X7_tell_0 M29 L26 (10 : Int32) (fun (r30 : Int32) (M31 : cM) =>
 Z r30 M31 L26))))))))) ∧
 (¬ v3 ≤ x19 →
 (vp_in x19 2400 ∧
 (vp_in ((r4 + (48 : Int32)) + x19) 16000 ∧
 ∀ M32 : cM, M32 = mu M20 3 ((r4 + (48 : Int32)) + x19).toNatClampNeg (vp_nar .byte (M20 1 x19.toNatClampNeg)) →
 ∀ x33 : Int32, x33 = (x19 + (1 : Int32)) →
 (I285 x33 M32 ∧ m285 x33 M32 < m285 x19 M20)))))))))))))))))))) ∧
 (((1232 : Int32) ≤ ((40 : Int32) + (M 0 43)) →
 K109 (1232 : Int32)) ∧
 (¬ (1232 : Int32) ≤ ((40 : Int32) + (M 0 43)) →
 K109 ((40 : Int32) + (M 0 43)))))) ∧
 (¬ v1 = 0 →
 wp_X7_tell_0 M L (9 : Int32) (fun (r35 : Int32) (M36 : cM) =>
 Z r35 M36 L)))) ∧
 ∃ K64 : Prop, (K64  →
 K69 (1 : Int32)) ∧
 ((0 < (M 0 33) →
 K64) ∧
 (¬ 0 < (M 0 33) →
 (∃ K68 : Prop, (K68  →
 K69 (0 : Int32)) ∧
 ((¬ (M 0 35) = (58 : Int32) →
 K68) ∧
 ((M 0 35) = (58 : Int32) →
 (((M 0 40) = ((40 : Int32) + (M 0 43)) →
 K64) ∧
 (¬ (M 0 40) = ((40 : Int32) + (M 0 43)) →
 wp_X7_octetAt_1 M L (M 0 40) (fun (r40 : Int32) =>
 ((r40 = (128 : Int32) →
 K68) ∧
 (¬ r40 = (128 : Int32) →
 wp_X7_octetAt_1 M L (M 0 40) (fun (r42 : Int32) =>
 ((r42 = (129 : Int32) →
 K68) ∧
 (¬ r42 = (129 : Int32) →
 K64))))))))))))))

def wp_X7_intAt_5 (M : cM) (L : cL) (p1 : Int32) (Z : Int32 → Prop) : Prop :=
  wp_X7_twoAt_5 M L p1 (fun (r1 : Int32) =>
 wp_X7_twoAt_5 M L (p1 + (2 : Int32)) (fun (r2 : Int32) =>
 Z ((r1 <<< ((16 : Int32) &&& 31)) ||| r2)))

def wp_X7_errorToFour_0 (M : cM) (L : cL) (p1 : Int32) (p2 : Int32) (Z : Int32 → cM → Prop) : Prop :=
  wp_X7_intAt_5 M L (4 : Int32) (fun (r1 : Int32) =>
 ∀ x2 : Int64, x2 = ((r1.toInt64) &&& (4294967295 : Int64)) →
 ((p1 = (1 : Int32) →
 (∃ K62 : Int32 → Prop, (∀ (v3 : Int32), K62 v3 →
 wp_X7_error_0 M L (3 : Int32) v3 (0 : Int32) (fun (M4 : cM) =>
 ((p2 < 0 →
 Z (0 : Int32) M4) ∧
 (¬ p2 < 0 →
 (((4 : Int32) < p2 →
 Z (0 : Int32) M4) ∧
 (¬ (4 : Int32) < p2 →
 Z (1 : Int32) M4)))))) ∧
 ((¬ p2 = (1 : Int32) →
 ((¬ p2 = (4 : Int32) →
 K62 (1 : Int32)) ∧
 (p2 = (4 : Int32) →
 K62 (3 : Int32)))) ∧
 (p2 = (1 : Int32) →
 K62 (10 : Int32))))) ∧
 (¬ p1 = (1 : Int32) →
 ((p1 = (2 : Int32) →
 (∃ K98 : Int64 → Prop, (∀ (v9 : Int64), K98 v9 →
 (∃ K121 : Int64 → Prop, (∀ (v10 : Int64), K121 v10 →
 (∃ K150 : Int64 → Prop, (∀ (v11 : Int64), K150 v11 →
 wp_X7_error_0 M L (3 : Int32) (4 : Int32) (v11.toInt32) (fun (M12 : cM) =>
 Z (1 : Int32) M12)) ∧
 ((0 ≤ (lg_cmp v10 (((M 0 10) - (20 : Int32)).toInt64)) →
 K150 (((M 0 10) - (20 : Int32)).toInt64)) ∧
 (¬ 0 ≤ (lg_cmp v10 (((M 0 10) - (20 : Int32)).toInt64)) →
 K150 v10)))) ∧
 ((0 ≤ (lg_cmp v9 ((M 0 9).toInt64)) →
 K121 ((M 0 9).toInt64)) ∧
 (¬ 0 ≤ (lg_cmp v9 ((M 0 9).toInt64)) →
 K121 v9)))) ∧
 ((0 ≤ (lg_cmp x2 (20 : Int64)) →
 K98 (x2 - (20 : Int64))) ∧
 (¬ 0 ≤ (lg_cmp x2 (20 : Int64)) →
 K98 (0 : Int64))))) ∧
 (¬ p1 = (2 : Int32) →
 ((p1 = (3 : Int32) →
 wp_X7_error_0 M L (11 : Int32) p2 (0 : Int32) (fun (M16 : cM) =>
 Z (1 : Int32) M16)) ∧
 (¬ p1 = (3 : Int32) →
 ((¬ p2 = (1 : Int32) →
 (∃ K289 : Int32 → Prop, (∀ (v18 : Int32), K289 v18 →
 wp_X7_error_0 M L (12 : Int32) (0 : Int32) (v18 <<< ((24 : Int32) &&& 31)) (fun (M19 : cM) =>
 ((¬ p2 = 0 →
 Z (0 : Int32) M19) ∧
 (p2 = 0 →
 ((v18 < 0 →
 Z (0 : Int32) M19) ∧
 (¬ v18 < 0 →
 Z (1 : Int32) M19)))))) ∧
 ((0 ≤ (lg_cmp x2 (2 : Int64)) →
 (∃ K216 : Prop, (K216  →
 K289 (2 : Int32)) ∧
 (((lg_cmp x2 (4 : Int64)) = 0 →
 K216) ∧
 (¬ (lg_cmp x2 (4 : Int64)) = 0 →
 ((¬ (lg_cmp x2 (5 : Int64)) = 0 →
 ((¬ (lg_cmp x2 (6 : Int64)) = 0 →
 ((¬ (lg_cmp x2 (7 : Int64)) = 0 →
 (∃ K267 : Prop, (K267  →
 (∃ K288 : Prop, (K288  →
 K289 (-1 : Int32)) ∧
 (((lg_cmp x2 (24 : Int64)) < 0 →
 K288) ∧
 (¬ (lg_cmp x2 (24 : Int64)) < 0 →
 ((0 ≤ (lg_cmp x2 (40 : Int64)) →
 K288) ∧
 (¬ 0 ≤ (lg_cmp x2 (40 : Int64)) →
 K289 (16 : Int32))))))) ∧
 (((lg_cmp x2 (8 : Int64)) < 0 →
 K267) ∧
 (¬ (lg_cmp x2 (8 : Int64)) < 0 →
 ((0 ≤ (lg_cmp x2 (24 : Int64)) →
 K267) ∧
 (¬ 0 ≤ (lg_cmp x2 (24 : Int64)) →
 K289 (12 : Int32))))))) ∧
 ((lg_cmp x2 (7 : Int64)) = 0 →
 K289 (8 : Int32)))) ∧
 ((lg_cmp x2 (6 : Int64)) = 0 →
 K289 (9 : Int32)))) ∧
 ((lg_cmp x2 (5 : Int64)) = 0 →
 K216)))))) ∧
 (¬ 0 ≤ (lg_cmp x2 (2 : Int64)) →
 K289 (x2.toInt32))))) ∧
 (p2 = (1 : Int32) →
 wp_X7_error_0 M L (3 : Int32) (2 : Int32) (0 : Int32) (fun (M31 : cM) =>
 Z (1 : Int32) M31))))))))))

def wp_X7_innerToFour_0 (M : cM) (L : cL) (p1 : Int32) (p2 : Int32) (Z : Int32 → cM → cL → Prop) : Prop :=
  ((p2 < (40 : Int32) →
 Z (0 : Int32) M L) ∧
 (¬ p2 < (40 : Int32) →
 wp_X7_octetAt_1 M L p1 (fun (r2 : Int32) =>
 (((r2 >>> ((4 : Int32) &&& 31)) = (6 : Int32) →
 wp_X7_twoAt_1 M L (p1 + (4 : Int32)) (fun (r4 : Int32) =>
 (∃ K51 : Int32 → Prop, (∀ (v5 : Int32), K51 v5 →
 ∀ x6 : Int32, x6 = (p1 + v5) →
 wp_X7_headers_0 M L p1 x6 (fun (r7 : Int32) (M8 : cM) =>
 ((r7 = 0 →
 Z (0 : Int32) M8 L) ∧
 (¬ r7 = 0 →
 wp_X7_addressesOf_0_1 M8 L p1 (fun (r10 : Int32) (M11 : cM) (L12 : cL) =>
 ((r10 = 0 →
 Z (0 : Int32) M11 L12) ∧
 (¬ r10 = 0 →
 wp_X7_isBarred6 M11 L12 (M11 0 35) (fun (r14 : Int32) =>
 ((r14 = 0 →
 ∀ x16 : Int32, x16 = (x6 - (M11 0 40)) →
 (∃ K116 : Int32 → Prop, (∀ (v17 : Int32), K116 v17 →
 (∃ K174 : Prop, (K174  →
 ∀ x18 : Int32, x18 = (((p1 + (40 : Int32)) + r4) - (M11 0 40)) →
 ((((20 : Int32) + x18) ≤ (65535 : Int32) →
 ∀ x20 : Int32, x20 = (M11 0 20) →
 wp_X7_more_0 M11 L12 (20 : Int32) (fun (r21 : Int32) (M22 : cM) =>
 (∃ K238 : Int32 → Prop, (∀ (v23 : Int32), K238 v23 →
 wp_X7_class6_0 M22 L12 p1 (fun (r24 : Int32) =>
 (∃ K278 : Int32 → Prop, (∀ (v25 : Int32), K278 v25 →
 wp_X7_octetAt_1 M22 L12 (p1 + (7 : Int32)) (fun (r26 : Int32) =>
 wp_X7_head4_0 M22 L12 r21 r24 ((20 : Int32) + x18) v23 v25 (M22 0 33) (M22 0 34) r26 (fun (M27 : cM) (L28 : cL) =>
 ∃ (I303 : Int32 → cM → Prop) (m303 : Int32 → cM → Nat), I303 (0 : Int32) M27 ∧ ∀ (x29 : Int32) (M30 : cM), I303 x29 M30 →
 (((20 : Int32) ≤ x29 →
 ∀ M32 : cM, M32 = mu M30 0 20 x20 →
 ∃ (I345 : Int32 → cM → Prop) (m345 : Int32 → cM → Nat), I345 (0 : Int32) M32 ∧ ∀ (x33 : Int32) (M34 : cM), I345 x33 M34 →
 ((x16 ≤ x33 →
 ∀ M36 : cM, M36 = mu M34 0 24 ((28 : Int32) + x16) →
 wp_X7_mendInner_0 M36 L28 (28 : Int32) x16 x18 (M36 0 33) (0 : Int32) (fun (M37 : cM) (L38 : cL) =>
 Z (1 : Int32) M37 L38)) ∧
 (¬ x16 ≤ x33 →
 (vp_in ((M34 0 40) + x33) 2400 ∧
 (vp_in ((28 : Int32) + x33) 5000 ∧
 ∀ M39 : cM, M39 = mu M34 5 ((28 : Int32) + x33).toNatClampNeg (vp_nar .byte (M34 1 ((M34 0 40) + x33).toNatClampNeg)) →
 ∀ x40 : Int32, x40 = (x33 + (1 : Int32)) →
 (I345 x40 M39 ∧ m345 x40 M39 < m345 x33 M34)))))) ∧
 (¬ (20 : Int32) ≤ x29 →
 (vp_in (r21 + x29) 16000 ∧
 (vp_in ((8 : Int32) + x29) 5000 ∧
 ∀ M41 : cM, M41 = mu M30 5 ((8 : Int32) + x29).toNatClampNeg (vp_nar .byte (M30 3 (r21 + x29).toNatClampNeg)) →
 ∀ x42 : Int32, x42 = (x29 + (1 : Int32)) →
 (I303 x42 M41 ∧ m303 x42 M41 < m303 x29 M30)))))))) ∧
 ∃ K277 : Prop, (K277  →
 K278 (0 : Int32)) ∧
 ((0 ≤ (M22 0 41) →
 K277) ∧
 (¬ 0 ≤ (M22 0 41) →
 ((((20 : Int32) + x18) ≤ (1260 : Int32) →
 K277) ∧
 (¬ ((20 : Int32) + x18) ≤ (1260 : Int32) →
 K278 (1 : Int32)))))))) ∧
 ((0 ≤ (M22 0 41) →
 wp_X7_twoAt_1 M22 L12 ((M22 0 41) + (6 : Int32)) (fun (r46 : Int32) =>
 K238 r46)) ∧
 (¬ 0 ≤ (M22 0 41) →
 K238 (0 : Int32)))))) ∧
 (¬ ((20 : Int32) + x18) ≤ (65535 : Int32) →
 Z (0 : Int32) M11 L12))) ∧
 ((¬ (M11 0 35) = (58 : Int32) →
 K174) ∧
 ((M11 0 35) = (58 : Int32) →
 ((¬ v17 = 0 →
 Z (0 : Int32) M11 L12) ∧
 (v17 = 0 →
 ((x16 < (4 : Int32) →
 Z (0 : Int32) M11 L12) ∧
 (¬ x16 < (4 : Int32) →
 wp_X7_octetAt_1 M11 L12 (M11 0 40) (fun (r50 : Int32) =>
 ((r50 = (128 : Int32) →
 K174) ∧
 (¬ r50 = (128 : Int32) →
 wp_X7_octetAt_1 M11 L12 (M11 0 40) (fun (r52 : Int32) =>
 ((r52 = (129 : Int32) →
 K174) ∧
 (¬ r52 = (129 : Int32) →
 Z (0 : Int32) M11 L12)))))))))))))) ∧
 ∃ K111 : Prop, (K111  →
 K116 (1 : Int32)) ∧
 ((¬ (M11 0 34) = 0 →
 K111) ∧
 ((M11 0 34) = 0 →
 (((M11 0 33) ≤ 0 →
 K116 (0 : Int32)) ∧
 (¬ (M11 0 33) ≤ 0 →
 K111)))))) ∧
 (¬ r14 = 0 →
 Z (0 : Int32) M11 L12)))))))))) ∧
 ((((40 : Int32) + r4) ≤ p2 →
 K51 ((40 : Int32) + r4)) ∧
 (¬ ((40 : Int32) + r4) ≤ p2 →
 K51 p2))))) ∧
 (¬ (r2 >>> ((4 : Int32) &&& 31)) = (6 : Int32) →
 Z (0 : Int32) M L)))))

def wp_X7_toFour_0 (M : cM) (L : cL) (p1 : Int32) (Z : Int32 → cM → cL → Prop) : Prop :=
  wp_X7_octetAt_5 M L (0 : Int32) (fun (r1 : Int32) =>
 (∃ K23 : Prop, (K23  →
 wp_X7_echo_0_5 M L (0 : Int32) p1 (0 : Int32) (fun (M2 : cM) (L3 : cL) =>
 Z (0 : Int32) M2 L3)) ∧
 ((r1 = (128 : Int32) →
 K23) ∧
 (¬ r1 = (128 : Int32) →
 ((¬ r1 = (129 : Int32) →
 ((r1 < (1 : Int32) →
 Z (6 : Int32) M L) ∧
 (¬ r1 < (1 : Int32) →
 ((r1 ≤ (4 : Int32) →
 ∀ L8 : cL, L8 = ml L 0 18 (0 : Int64) →
 wp_X7_pseudo_0 M L8 p1 (58 : Int32) (0 : Int32) (fun (L9 : cL) =>
 wp_X7_words_0_5 M L9 (0 : Int32) p1 (fun (L10 : cL) =>
 (((lg_cmp (L10 0 18) (65535 : Int64)) = 0 →
 wp_X7_octetAt_5 M L10 (1 : Int32) (fun (r12 : Int32) =>
 wp_X7_errorToFour_0 M L10 r1 r12 (fun (r13 : Int32) (M14 : cM) =>
 ((¬ r13 = 0 →
 ∀ x16 : Int32, x16 = (M14 0 25) →
 ∀ x17 : Int32, x17 = (M14 0 26) →
 ∀ x18 : Int32, x18 = (M14 0 40) →
 wp_X7_innerToFour_0 M14 L10 ((M14 0 40) + (8 : Int32)) (p1 - (8 : Int32)) (fun (r19 : Int32) (M20 : cM) (L21 : cL) =>
 ∀ M22 : cM, M22 = mu M20 0 25 x16 →
 ∀ M23 : cM, M23 = mu M22 0 26 x17 →
 ∀ M24 : cM, M24 = mu M23 0 40 x18 →
 ∀ M25 : cM, M25 = mu M24 0 35 (58 : Int32) →
 ∀ M26 : cM, M26 = mu M25 0 33 (0 : Int32) →
 ∀ M27 : cM, M27 = mu M26 0 34 (0 : Int32) →
 ((¬ r19 = 0 →
 (∃ K196 : cM → Prop, (∀ (M29 : cM), K196 M29 →
 wp_X7_putInt_5 M29 L21 (0 : Int32) (((M29 0 37) <<< ((24 : Int32) &&& 31)) ||| ((M29 0 38) <<< ((16 : Int32) &&& 31))) (fun (M30 : cM) =>
 wp_X7_putInt_5 M30 L21 (4 : Int32) (M30 0 39) (fun (M31 : cM) =>
 ∀ L32 : cL, L32 = ml L21 0 18 (0 : Int64) →
 wp_X7_words_0_5 M31 L32 (0 : Int32) (M31 0 24) (fun (L33 : cL) =>
 wp_X7_checksum_0 M31 L33  (fun (r34 : Int32) =>
 wp_X7_putTwo_5 M31 L33 (2 : Int32) r34 (fun (M35 : cM) =>
 Z (0 : Int32) M35 L33)))))) ∧
 (((M27 0 24) ≤ (556 : Int32) →
 K196 M27) ∧
 (¬ (M27 0 24) ≤ (556 : Int32) →
 ∀ M37 : cM, M37 = mu M27 0 24 (556 : Int32) →
 K196 M37)))) ∧
 (r19 = 0 →
 Z (8 : Int32) M27 L21)))) ∧
 (r13 = 0 →
 Z (8 : Int32) M14 L10))))) ∧
 (¬ (lg_cmp (L10 0 18) (65535 : Int64)) = 0 →
 Z (4 : Int32) M L10))))) ∧
 (¬ r1 ≤ (4 : Int32) →
 Z (6 : Int32) M L))))) ∧
 (r1 = (129 : Int32) →
 K23))))))

def wp_X7_six_0 (M : cM) (L : cL)  (Z : Int32 → cM → cL → Prop) : Prop :=
  wp_X7_begin_0 M L  (fun (M1 : cM) =>
 ∀ x2 : Int32, x2 = (M1 0 2) →
 ∀ M3 : cM, M3 = mu M1 0 2 (0 : Int32) →
 wp_X7_isFormed6_0 M3 L x2 (fun (r4 : Int32) (M5 : cM) =>
 ((¬ r4 = 0 →
 wp_X7_addressesOf_0_1 M5 L (0 : Int32) (fun (r7 : Int32) (M8 : cM) (L9 : cL) =>
 wp_X7_isImage_0 M8 L9 (L9 0 27) (L9 0 28) (fun (r10 : Int32) (M11 : cM) (L12 : cL) =>
 ((¬ r10 = 0 →
 ((¬ r7 = 0 →
 (((M11 0 42) < 0 →
 wp_X7_octetAt_1 M11 L12 (7 : Int32) (fun (r16 : Int32) =>
 (((2 : Int32) ≤ r16 →
 wp_X7_isBarred6 M11 L12 (M11 0 35) (fun (r18 : Int32) =>
 ((r18 = 0 →
 (∃ K156 : Prop, (K156  →
 ∀ x20 : Int32, x20 = (((40 : Int32) + (M11 0 43)) - (M11 0 40)) →
 (∃ K197 : Int32 → Prop, (∀ (v21 : Int32), K197 v21 →
 ((v21 ≤ 0 →
 (∃ K251 : Prop, (K251  →
 wp_X7_carry_0_1 M11 L12 (M11 0 40) x20 (fun (M23 : cM) =>
 ∀ x24 : Int32, x24 = (M23 0 41) →
 (∃ K348 : cM → cL → Prop, (∀ (M25 : cM) (L26 : cL), K348 M25 L26 →
 ∀ x27 : Int32, x27 = ((20 : Int32) + (M25 0 24)) →
 ((x27 ≤ (65535 : Int32) →
 (∃ K388 : Int32 → Prop, (∀ (v29 : Int32), K388 v29 →
 (∃ K418 : Prop, (K418  →
 (∃ K467 : Int32 → cM → Prop, (∀ (x30 : Int32) (M31 : cM), K467 x30 M31 →
 (∃ K495 : Int32 → Prop, (∀ (v32 : Int32), K495 v32 →
 ∃ (I500 : Int32 → cM → cL → Prop) (m500 : Int32 → cM → cL → Nat), I500 (0 : Int32) M31 L26 ∧ ∀ (x33 : Int32) (M34 : cM) (L35 : cL), I500 x33 M34 L35 →
 (∃ K530 : Int32 → Prop, (∀ (v36 : Int32), K530 v36 →
 wp_X7_more_0 M34 L35 ((20 : Int32) + v36) (fun (r37 : Int32) (M38 : cM) =>
 wp_X7_class6_0 M38 L35 (0 : Int32) (fun (r39 : Int32) =>
 (∃ K591 : Int32 → Prop, (∀ (v40 : Int32), K591 v40 →
 wp_X7_head4_0 M38 L35 r37 r39 ((20 : Int32) + v36) x30 v29 ((M38 0 33) + x33) v40 (r16 - (1 : Int32)) (fun (M41 : cM) (L42 : cL) =>
 ∃ (I600 : Int32 → cM → Prop) (m600 : Int32 → cM → Nat), I600 (0 : Int32) M41 ∧ ∀ (x43 : Int32) (M44 : cM), I600 x43 M44 →
 ((v36 ≤ x43 →
 wp_X7_isPart_0 M44 L42  (fun (M46 : cM) =>
 ∀ x47 : Int32, x47 = (x33 + v36) →
 ((x47 < (M46 0 24) →
 (I500 x47 M46 L42 ∧ m500 x47 M46 L42 < m500 x33 M34 L35)) ∧
 (¬ x47 < (M46 0 24) →
 wp_X7_tell_0 M46 L42 (0 : Int32) (fun (r49 : Int32) (M50 : cM) =>
 Z r49 M50 L42))))) ∧
 (¬ v36 ≤ x43 →
 (vp_in (x33 + x43) 5000 ∧
 (vp_in (((M44 0 20) - v36) + x43) 16000 ∧
 ∀ M51 : cM, M51 = mu M44 3 (((M44 0 20) - v36) + x43).toNatClampNeg (vp_nar .byte (M44 5 (x33 + x43).toNatClampNeg)) →
 ∀ x52 : Int32, x52 = (x43 + (1 : Int32)) →
 (I600 x52 M51 ∧ m600 x52 M51 < m600 x43 M44))))))) ∧
 ∃ K586 : Prop, (K586  →
 K591 (1 : Int32)) ∧
 (((x33 + v36) < (M38 0 24) →
 K586) ∧
 (¬ (x33 + v36) < (M38 0 24) →
 (((M38 0 34) = 0 →
 K591 (0 : Int32)) ∧
 (¬ (M38 0 34) = 0 →
 K586)))))))) ∧
 ((v32 < ((M34 0 24) - x33) →
 K530 ((v32 / (8 : Int32)) * (8 : Int32))) ∧
 (¬ v32 < ((M34 0 24) - x33) →
 K530 ((M34 0 24) - x33))))) ∧
 ∃ K491 : Prop, (K491  →
 K495 (M31 0 24)) ∧
 ((¬ v29 = 0 →
 K491) ∧
 (v29 = 0 →
 ((x27 ≤ (M31 0 9) →
 K491) ∧
 (¬ x27 ≤ (M31 0 9) →
 K495 ((M31 0 9) - (20 : Int32)))))))) ∧
 ((x24 < 0 →
 ((¬ v29 = 0 →
 K467 (0 : Int32) M25) ∧
 (v29 = 0 →
 ∀ M60 : cM, M60 = mu M25 0 14 (((M25 0 14) + (1 : Int32)) &&& (65535 : Int32)) →
 ∀ x61 : Int32, x61 = (M60 0 14) →
 K467 x61 M60))) ∧
 (¬ x24 < 0 →
 wp_X7_twoAt_1 M25 L26 (x24 + (6 : Int32)) (fun (r62 : Int32) =>
 K467 r62 M25))))) ∧
 ((v29 = 0 →
 K418) ∧
 (¬ v29 = 0 →
 ((x27 ≤ (M25 0 9) →
 K418) ∧
 (¬ x27 ≤ (M25 0 9) →
 wp_X7_answer6_0 M25 L26 (2 : Int32) (0 : Int32) ((M25 0 9) + (20 : Int32)) (fun (r65 : Int32) (M66 : cM) (L67 : cL) =>
 Z r65 M66 L67))))))) ∧
 ∃ K387 : Prop, (K387  →
 K388 (0 : Int32)) ∧
 ((0 ≤ x24 →
 K387) ∧
 (¬ 0 ≤ x24 →
 ((x27 ≤ (1260 : Int32) →
 K387) ∧
 (¬ x27 ≤ (1260 : Int32) →
 K388 (1 : Int32))))))) ∧
 (¬ x27 ≤ (65535 : Int32) →
 wp_X7_tell_0 M25 L26 (4 : Int32) (fun (r70 : Int32) (M71 : cM) =>
 Z r70 M71 L26)))) ∧
 ((¬ (M23 0 35) = (58 : Int32) →
 ((¬ (M23 0 33) = 0 →
 K348 M23 L12) ∧
 ((M23 0 33) = 0 →
 (∃ K328 : Prop, (K328  →
 wp_X7_sumAt M23 L12 (M23 0 35) (fun (r74 : Int32) =>
 wp_X7_adjust_0_5 M23 L12 r74 (M23 0 35) (0 : Int32) (fun (M75 : cM) (L76 : cL) =>
 K348 M75 L76))) ∧
 (((M23 0 35) = (17 : Int32) →
 K328) ∧
 (¬ (M23 0 35) = (17 : Int32) →
 ((¬ (M23 0 35) = (6 : Int32) →
 K348 M23 L12) ∧
 ((M23 0 35) = (6 : Int32) →
 K328)))))))) ∧
 ((M23 0 35) = (58 : Int32) →
 wp_X7_toFour_0 M23 L12 x20 (fun (r79 : Int32) (M80 : cM) (L81 : cL) =>
 ((r79 ≤ 0 →
 K348 M80 L81) ∧
 (¬ r79 ≤ 0 →
 wp_X7_tell_0 M80 L81 r79 (fun (r83 : Int32) (M84 : cM) =>
 Z r83 M84 L81))))))))) ∧
 ((¬ (M11 0 35) = (17 : Int32) →
 K251) ∧
 ((M11 0 35) = (17 : Int32) →
 ((¬ (M11 0 33) = 0 →
 K251) ∧
 ((M11 0 33) = 0 →
 wp_X7_twoAt_1 M11 L12 ((M11 0 40) + (6 : Int32)) (fun (r87 : Int32) =>
 ((¬ r87 = 0 →
 K251) ∧
 (r87 = 0 →
 wp_X7_tell_0 M11 L12 (7 : Int32) (fun (r89 : Int32) (M90 : cM) =>
 Z r89 M90 L12)))))))))) ∧
 (¬ v21 ≤ 0 →
 wp_X7_tell_0 M11 L12 v21 (fun (r91 : Int32) (M92 : cM) =>
 Z r91 M92 L12)))) ∧
 ((¬ (M11 0 33) = 0 →
 K197 (0 : Int32)) ∧
 ((M11 0 33) = 0 →
 wp_X7_carried_0 M11 L12 (M11 0 40) x20 (M11 0 34) (58 : Int32) (fun (r94 : Int32) =>
 K197 r94))))) ∧
 ((¬ (M11 0 35) = (58 : Int32) →
 K156) ∧
 ((M11 0 35) = (58 : Int32) →
 (∃ K150 : Prop, (K150  →
 wp_X7_tell_0 M11 L12 (5 : Int32) (fun (r96 : Int32) (M97 : cM) =>
 Z r96 M97 L12)) ∧
 ((¬ (M11 0 34) = 0 →
 K150) ∧
 ((M11 0 34) = 0 →
 (((M11 0 33) ≤ 0 →
 K156) ∧
 (¬ (M11 0 33) ≤ 0 →
 K150))))))))) ∧
 (¬ r18 = 0 →
 wp_X7_tell_0 M11 L12 (6 : Int32) (fun (r100 : Int32) (M101 : cM) =>
 Z r100 M101 L12))))) ∧
 (¬ (2 : Int32) ≤ r16 →
 wp_X7_answer6_0 M11 L12 (3 : Int32) (0 : Int32) (0 : Int32) (fun (r102 : Int32) (M103 : cM) (L104 : cL) =>
 Z r102 M103 L104))))) ∧
 (¬ (M11 0 42) < 0 →
 wp_X7_answer6_0 M11 L12 (4 : Int32) (0 : Int32) (M11 0 42) (fun (r105 : Int32) (M106 : cM) (L107 : cL) =>
 Z r105 M106 L107)))) ∧
 (r7 = 0 →
 wp_X7_tell_0 M11 L12 (3 : Int32) (fun (r108 : Int32) (M109 : cM) =>
 Z r108 M109 L12)))) ∧
 (r10 = 0 →
 wp_X7_tell_0 M11 L12 (2 : Int32) (fun (r110 : Int32) (M111 : cM) =>
 Z r110 M111 L12)))))) ∧
 (r4 = 0 →
 wp_X7_tell_0 M5 L (1 : Int32) (fun (r112 : Int32) (M113 : cM) =>
 Z r112 M113 L)))))

def wp_X7_parts_0 (M : cM) (L : cL)  (Z : Int32 → cM → Prop) : Prop :=
  ∀ M1 : cM, M1 = mu M 0 0 (0 : Int32) →
 Z (M1 0 22) M1

def wp_X7_isPacket_0 (M : cM) (L : cL) (p1 : Int32) (Z : Int32 → Prop) : Prop :=
  ((p1 < 0 →
 Z (0 : Int32)) ∧
 (¬ p1 < 0 →
 (((M 0 22) ≤ p1 →
 Z (0 : Int32)) ∧
 (¬ (M 0 22) ≤ p1 →
 Z (1 : Int32)))))

def wp_X7_size_0 (M : cM) (L : cL) (p1 : Int32) (Z : Int32 → cM → Prop) : Prop :=
  ∀ M1 : cM, M1 = mu M 0 0 (0 : Int32) →
 wp_X7_isPacket_0 M1 L p1 (fun (r2 : Int32) =>
 ((r2 = 0 →
 Z (-1 : Int32) M1) ∧
 (¬ r2 = 0 →
 (vp_in (p1 + (1 : Int32)) 101 ∧
 (vp_in p1 101 ∧
 Z ((M1 4 (p1 + (1 : Int32)).toNatClampNeg) - (M1 4 p1.toNatClampNeg)) M1)))))

def wp_X7_octetAt_3 (M : cM) (L : cL) (p1 : Int32) (Z : Int32 → Prop) : Prop :=
  (vp_in p1 16000 ∧
 Z ((M 3 p1.toNatClampNeg) &&& (255 : Int32)))

def wp_X7_octet_0 (M : cM) (L : cL) (p1 : Int32) (p2 : Int32) (Z : Int32 → cM → Prop) : Prop :=
  wp_X7_isPacket_0 M L p1 (fun (r1 : Int32) =>
 (∃ K37 : Int32 → Prop, (∀ (v2 : Int32), K37 v2 →
 ∀ M3 : cM, M3 = mu M 0 0 v2 →
 (((M3 0 0) ≤ 0 →
 (vp_in p1 101 ∧
 wp_X7_octetAt_3 M3 L ((M3 4 p1.toNatClampNeg) + p2) (fun (r5 : Int32) =>
 Z r5 M3))) ∧
 (¬ (M3 0 0) ≤ 0 →
 Z (0 : Int32) M3))) ∧
 ∃ K32 : Prop, (K32  →
 K37 (1 : Int32)) ∧
 ((r1 = 0 →
 K32) ∧
 (¬ r1 = 0 →
 ((p2 < 0 →
 K32) ∧
 (¬ p2 < 0 →
 (vp_in (p1 + (1 : Int32)) 101 ∧
 (vp_in p1 101 ∧
 ((p2 < ((M 4 (p1 + (1 : Int32)).toNatClampNeg) - (M 4 p1.toNatClampNeg)) →
 K37 (0 : Int32)) ∧
 (¬ p2 < ((M 4 (p1 + (1 : Int32)).toNatClampNeg) - (M 4 p1.toNatClampNeg)) →
 K32))))))))))

def wp_X7_check_0 (M : cM) (L : cL) (p1 : Int32) (p2 : Int32) (p3 : Int32) (Z : Int32 → cM → cL → Prop) : Prop :=
  wp_X7_isPacket_0 M L p1 (fun (r1 : Int32) =>
 (∃ K42 : Int32 → Prop, (∀ (v2 : Int32), K42 v2 →
 ∀ M3 : cM, M3 = mu M 0 0 v2 →
 (((M3 0 0) ≤ 0 →
 ∀ L5 : cL, L5 = ml L 0 18 (0 : Int64) →
 (vp_in p1 101 ∧
 (vp_in p1 101 ∧
 wp_X7_words_0_3 M3 L5 ((M3 4 p1.toNatClampNeg) + p2) ((M3 4 p1.toNatClampNeg) + p3) (fun (L6 : cL) =>
 wp_X7_checksum_0 M3 L6  (fun (r7 : Int32) =>
 Z r7 M3 L6))))) ∧
 (¬ (M3 0 0) ≤ 0 →
 Z (0 : Int32) M3 L))) ∧
 ∃ K37 : Prop, (K37  →
 K42 (1 : Int32)) ∧
 ((r1 = 0 →
 K37) ∧
 (¬ r1 = 0 →
 ((p2 < 0 →
 K37) ∧
 (¬ p2 < 0 →
 ((p3 < p2 →
 K37) ∧
 (¬ p3 < p2 →
 (vp_in (p1 + (1 : Int32)) 101 ∧
 (vp_in p1 101 ∧
 ((p3 ≤ ((M 4 (p1 + (1 : Int32)).toNatClampNeg) - (M 4 p1.toNatClampNeg)) →
 K42 (0 : Int32)) ∧
 (¬ p3 ≤ ((M 4 (p1 + (1 : Int32)).toNatClampNeg) - (M 4 p1.toNatClampNeg)) →
 K37))))))))))))

def wp_X7_count_0 (M : cM) (L : cL) (p1 : Int32) (Z : Int32 → cM → Prop) : Prop :=
  ∀ M1 : cM, M1 = mu M 0 0 (0 : Int32) →
 (∃ K22 : Prop, (K22  →
 ((p1 = (11 : Int32) →
 Z (M1 0 2) M1) ∧
 (¬ p1 = (11 : Int32) →
 ((p1 = (12 : Int32) →
 Z (M1 0 14) M1) ∧
 (¬ p1 = (12 : Int32) →
 ((p1 = (13 : Int32) →
 Z (M1 0 9) M1) ∧
 (¬ p1 = (13 : Int32) →
 ((p1 = (14 : Int32) →
 Z (M1 0 10) M1) ∧
 (¬ p1 = (14 : Int32) →
 ((p1 = (15 : Int32) →
 Z (M1 0 5) M1) ∧
 (¬ p1 = (15 : Int32) →
 Z (-1 : Int32) M1))))))))))) ∧
 ((p1 < 0 →
 K22) ∧
 (¬ p1 < 0 →
 (((10 : Int32) < p1 →
 K22) ∧
 (¬ (10 : Int32) < p1 →
 (vp_in p1 11 ∧
 Z (M1 2 p1.toNatClampNeg) M1))))))
